theorem dX9_init_0 : decode cX9_init 0 = .ok (.aload_n 0, 1) := by decide +kernel
theorem dX9_init_1 : decode cX9_init 1 = .ok (.invokespecial 1, 3) := by decide +kernel
theorem dX9_init_4 : decode cX9_init 4 = .ok (.aload_n 0, 1) := by decide +kernel
theorem dX9_init_5 : decode cX9_init 5 = .ok (.bipush 60, 2) := by decide +kernel
theorem dX9_init_7 : decode cX9_init 7 = .ok (.newarray .int, 2) := by decide +kernel
theorem dX9_init_9 : decode cX9_init 9 = .ok (.putfield 7, 3) := by decide +kernel
theorem dX9_init_12 : decode cX9_init 12 = .ok (.aload_n 0, 1) := by decide +kernel
theorem dX9_init_13 : decode cX9_init 13 = .ok (.sipush 216, 3) := by decide +kernel
theorem dX9_init_16 : decode cX9_init 16 = .ok (.newarray .long, 2) := by decide +kernel
theorem dX9_init_18 : decode cX9_init 18 = .ok (.putfield 13, 3) := by decide +kernel
theorem dX9_init_21 : decode cX9_init 21 = .ok (.aload_n 0, 1) := by decide +kernel
theorem dX9_init_22 : decode cX9_init 22 = .ok (.sipush 253, 3) := by decide +kernel
theorem dX9_init_25 : decode cX9_init 25 = .ok (.newarray .long, 2) := by decide +kernel
theorem dX9_init_27 : decode cX9_init 27 = .ok (.putfield 17, 3) := by decide +kernel
theorem dX9_init_30 : decode cX9_init 30 = .ok (.aload_n 0, 1) := by decide +kernel
theorem dX9_init_31 : decode cX9_init 31 = .ok (.sipush 253, 3) := by decide +kernel
theorem dX9_init_34 : decode cX9_init 34 = .ok (.newarray .long, 2) := by decide +kernel
theorem dX9_init_36 : decode cX9_init 36 = .ok (.putfield 20, 3) := by decide +kernel
theorem dX9_init_39 : decode cX9_init 39 = .ok (.aload_n 0, 1) := by decide +kernel
theorem dX9_init_40 : decode cX9_init 40 = .ok (.sipush 3542, 3) := by decide +kernel
theorem dX9_init_43 : decode cX9_init 43 = .ok (.newarray .long, 2) := by decide +kernel
theorem dX9_init_45 : decode cX9_init 45 = .ok (.putfield 23, 3) := by decide +kernel
theorem dX9_init_48 : decode cX9_init 48 = .ok (.aload_n 0, 1) := by decide +kernel
theorem dX9_init_49 : decode cX9_init 49 = .ok (.sipush 506, 3) := by decide +kernel
theorem dX9_init_52 : decode cX9_init 52 = .ok (.newarray .long, 2) := by decide +kernel
theorem dX9_init_54 : decode cX9_init 54 = .ok (.putfield 26, 3) := by decide +kernel
theorem dX9_init_57 : decode cX9_init 57 = .ok (.aload_n 0, 1) := by decide +kernel
theorem dX9_init_58 : decode cX9_init 58 = .ok (.iconst 2, 1) := by decide +kernel
theorem dX9_init_59 : decode cX9_init 59 = .ok (.newarray .boolean, 2) := by decide +kernel
theorem dX9_init_61 : decode cX9_init 61 = .ok (.putfield 29, 3) := by decide +kernel
theorem dX9_init_64 : decode cX9_init 64 = .ok (.aload_n 0, 1) := by decide +kernel
theorem dX9_init_65 : decode cX9_init 65 = .ok (.bipush 12, 2) := by decide +kernel
theorem dX9_init_67 : decode cX9_init 67 = .ok (.newarray .int, 2) := by decide +kernel
theorem dX9_init_69 : decode cX9_init 69 = .ok (.putfield 33, 3) := by decide +kernel
theorem dX9_init_72 : decode cX9_init 72 = .ok (.aload_n 0, 1) := by decide +kernel
theorem dX9_init_73 : decode cX9_init 73 = .ok (.bipush 12, 2) := by decide +kernel
theorem dX9_init_75 : decode cX9_init 75 = .ok (.newarray .int, 2) := by decide +kernel
theorem dX9_init_77 : decode cX9_init 77 = .ok (.putfield 36, 3) := by decide +kernel
theorem dX9_init_80 : decode cX9_init 80 = .ok (.aload_n 0, 1) := by decide +kernel
theorem dX9_init_81 : decode cX9_init 81 = .ok (.bipush 12, 2) := by decide +kernel
theorem dX9_init_83 : decode cX9_init 83 = .ok (.newarray .int, 2) := by decide +kernel
theorem dX9_init_85 : decode cX9_init 85 = .ok (.putfield 39, 3) := by decide +kernel
theorem dX9_init_88 : decode cX9_init 88 = .ok (.aload_n 0, 1) := by decide +kernel
theorem dX9_init_89 : decode cX9_init 89 = .ok (.bipush 12, 2) := by decide +kernel
theorem dX9_init_91 : decode cX9_init 91 = .ok (.newarray .int, 2) := by decide +kernel
theorem dX9_init_93 : decode cX9_init 93 = .ok (.putfield 42, 3) := by decide +kernel
theorem dX9_init_96 : decode cX9_init 96 = .ok (.aload_n 0, 1) := by decide +kernel
theorem dX9_init_97 : decode cX9_init 97 = .ok (.bipush 12, 2) := by decide +kernel
theorem dX9_init_99 : decode cX9_init 99 = .ok (.newarray .int, 2) := by decide +kernel
theorem dX9_init_101 : decode cX9_init 101 = .ok (.putfield 45, 3) := by decide +kernel
theorem dX9_init_104 : decode cX9_init 104 = .ok (.aload_n 0, 1) := by decide +kernel
theorem dX9_init_105 : decode cX9_init 105 = .ok (.bipush 72, 2) := by decide +kernel
theorem dX9_init_107 : decode cX9_init 107 = .ok (.newarray .int, 2) := by decide +kernel
theorem dX9_init_109 : decode cX9_init 109 = .ok (.putfield 48, 3) := by decide +kernel
theorem dX9_init_112 : decode cX9_init 112 = .ok (.aload_n 0, 1) := by decide +kernel
theorem dX9_init_113 : decode cX9_init 113 = .ok (.bipush 72, 2) := by decide +kernel
theorem dX9_init_115 : decode cX9_init 115 = .ok (.newarray .int, 2) := by decide +kernel
theorem dX9_init_117 : decode cX9_init 117 = .ok (.putfield 51, 3) := by decide +kernel
theorem dX9_init_120 : decode cX9_init 120 = .ok (.aload_n 0, 1) := by decide +kernel
theorem dX9_init_121 : decode cX9_init 121 = .ok (.bipush 72, 2) := by decide +kernel
theorem dX9_init_123 : decode cX9_init 123 = .ok (.newarray .int, 2) := by decide +kernel
theorem dX9_init_125 : decode cX9_init 125 = .ok (.putfield 54, 3) := by decide +kernel
theorem dX9_init_128 : decode cX9_init 128 = .ok (.aload_n 0, 1) := by decide +kernel
theorem dX9_init_129 : decode cX9_init 129 = .ok (.getfield 17, 3) := by decide +kernel
theorem dX9_init_132 : decode cX9_init 132 = .ok (.invokestatic 57, 3) := by decide +kernel
theorem dX9_init_135 : decode cX9_init 135 = .ok (.return_, 1) := by decide +kernel
theorem dX9_clean_0 : decode cX9_clean 0 = .ok (.iconst 0, 1) := by decide +kernel
theorem dX9_clean_1 : decode cX9_clean 1 = .ok (.istore_n 1, 1) := by decide +kernel
theorem dX9_clean_2 : decode cX9_clean 2 = .ok (.iload_n 1, 1) := by decide +kernel
theorem dX9_clean_3 : decode cX9_clean 3 = .ok (.sipush 253, 3) := by decide +kernel
theorem dX9_clean_6 : decode cX9_clean 6 = .ok (.if_icmp .ge 13, 3) := by decide +kernel
theorem dX9_clean_9 : decode cX9_clean 9 = .ok (.aload_n 0, 1) := by decide +kernel
theorem dX9_clean_10 : decode cX9_clean 10 = .ok (.iload_n 1, 1) := by decide +kernel
theorem dX9_clean_11 : decode cX9_clean 11 = .ok (.lconst 0, 1) := by decide +kernel
theorem dX9_clean_12 : decode cX9_clean 12 = .ok (.lastore, 1) := by decide +kernel
theorem dX9_clean_13 : decode cX9_clean 13 = .ok (.iinc 1 1, 3) := by decide +kernel
theorem dX9_clean_16 : decode cX9_clean 16 = .ok (.goto (-14), 3) := by decide +kernel
theorem dX9_clean_19 : decode cX9_clean 19 = .ok (.aload_n 0, 1) := by decide +kernel
theorem dX9_clean_20 : decode cX9_clean 20 = .ok (.iconst 2, 1) := by decide +kernel
theorem dX9_clean_21 : decode cX9_clean 21 = .ok (.ldc2_w 61, 3) := by decide +kernel
theorem dX9_clean_24 : decode cX9_clean 24 = .ok (.lastore, 1) := by decide +kernel
theorem dX9_clean_25 : decode cX9_clean 25 = .ok (.aload_n 0, 1) := by decide +kernel
theorem dX9_clean_26 : decode cX9_clean 26 = .ok (.iconst 3, 1) := by decide +kernel
theorem dX9_clean_27 : decode cX9_clean 27 = .ok (.ldc2_w 63, 3) := by decide +kernel
theorem dX9_clean_30 : decode cX9_clean 30 = .ok (.lastore, 1) := by decide +kernel
theorem dX9_clean_31 : decode cX9_clean 31 = .ok (.aload_n 0, 1) := by decide +kernel
theorem dX9_clean_32 : decode cX9_clean 32 = .ok (.iconst 4, 1) := by decide +kernel
theorem dX9_clean_33 : decode cX9_clean 33 = .ok (.lconst 1, 1) := by decide +kernel
theorem dX9_clean_34 : decode cX9_clean 34 = .ok (.lastore, 1) := by decide +kernel
theorem dX9_clean_35 : decode cX9_clean 35 = .ok (.return_, 1) := by decide +kernel
theorem dX9_thrown_0 : decode cX9_thrown 0 = .ok (.aload_n 0, 1) := by decide +kernel
theorem dX9_thrown_1 : decode cX9_thrown 1 = .ok (.getfield 65, 3) := by decide +kernel
theorem dX9_thrown_4 : decode cX9_thrown 4 = .ok (.ireturn, 1) := by decide +kernel
theorem dX9_refused_0 : decode cX9_refused 0 = .ok (.aload_n 0, 1) := by decide +kernel
theorem dX9_refused_1 : decode cX9_refused 1 = .ok (.iload_n 1, 1) := by decide +kernel
theorem dX9_refused_2 : decode cX9_refused 2 = .ok (.putfield 65, 3) := by decide +kernel
theorem dX9_refused_5 : decode cX9_refused 5 = .ok (.iload_n 1, 1) := by decide +kernel
theorem dX9_refused_6 : decode cX9_refused 6 = .ok (.ifCond .le 7, 3) := by decide +kernel
theorem dX9_refused_9 : decode cX9_refused 9 = .ok (.iconst 1, 1) := by decide +kernel
theorem dX9_refused_10 : decode cX9_refused 10 = .ok (.goto 4, 3) := by decide +kernel
theorem dX9_refused_13 : decode cX9_refused 13 = .ok (.iconst 0, 1) := by decide +kernel
theorem dX9_refused_14 : decode cX9_refused 14 = .ok (.ireturn, 1) := by decide +kernel
theorem dX9_in_0 : decode cX9_in 0 = .ok (.lload_n 0, 1) := by decide +kernel
theorem dX9_in_1 : decode cX9_in 1 = .ok (.lload_n 2, 1) := by decide +kernel
theorem dX9_in_2 : decode cX9_in 2 = .ok (.lcmp, 1) := by decide +kernel
theorem dX9_in_3 : decode cX9_in 3 = .ok (.ifCond .lt 14, 3) := by decide +kernel
theorem dX9_in_6 : decode cX9_in 6 = .ok (.lload_n 0, 1) := by decide +kernel
theorem dX9_in_7 : decode cX9_in 7 = .ok (.lload 4, 2) := by decide +kernel
theorem dX9_in_9 : decode cX9_in 9 = .ok (.lcmp, 1) := by decide +kernel
theorem dX9_in_10 : decode cX9_in 10 = .ok (.ifCond .gt 7, 3) := by decide +kernel
theorem dX9_in_13 : decode cX9_in 13 = .ok (.iconst 1, 1) := by decide +kernel
theorem dX9_in_14 : decode cX9_in 14 = .ok (.goto 4, 3) := by decide +kernel
theorem dX9_in_17 : decode cX9_in 17 = .ok (.iconst 0, 1) := by decide +kernel
theorem dX9_in_18 : decode cX9_in 18 = .ok (.ireturn, 1) := by decide +kernel
theorem dX9_copy_0 : decode cX9_copy 0 = .ok (.iconst 0, 1) := by decide +kernel
theorem dX9_copy_1 : decode cX9_copy 1 = .ok (.istore 5, 2) := by decide +kernel
theorem dX9_copy_3 : decode cX9_copy 3 = .ok (.iload 5, 2) := by decide +kernel
theorem dX9_copy_5 : decode cX9_copy 5 = .ok (.iload 4, 2) := by decide +kernel
theorem dX9_copy_7 : decode cX9_copy 7 = .ok (.if_icmp .ge 21, 3) := by decide +kernel
theorem dX9_copy_10 : decode cX9_copy 10 = .ok (.aload_n 2, 1) := by decide +kernel
theorem dX9_copy_11 : decode cX9_copy 11 = .ok (.iload_n 3, 1) := by decide +kernel
theorem dX9_copy_12 : decode cX9_copy 12 = .ok (.iload 5, 2) := by decide +kernel
theorem dX9_copy_14 : decode cX9_copy 14 = .ok (.iadd, 1) := by decide +kernel
theorem dX9_copy_15 : decode cX9_copy 15 = .ok (.aload_n 0, 1) := by decide +kernel
theorem dX9_copy_16 : decode cX9_copy 16 = .ok (.iload_n 1, 1) := by decide +kernel
theorem dX9_copy_17 : decode cX9_copy 17 = .ok (.iload 5, 2) := by decide +kernel
theorem dX9_copy_19 : decode cX9_copy 19 = .ok (.iadd, 1) := by decide +kernel
theorem dX9_copy_20 : decode cX9_copy 20 = .ok (.laload, 1) := by decide +kernel
theorem dX9_copy_21 : decode cX9_copy 21 = .ok (.lastore, 1) := by decide +kernel
theorem dX9_copy_22 : decode cX9_copy 22 = .ok (.iinc 5 1, 3) := by decide +kernel
theorem dX9_copy_25 : decode cX9_copy 25 = .ok (.goto (-22), 3) := by decide +kernel
theorem dX9_copy_28 : decode cX9_copy 28 = .ok (.return_, 1) := by decide +kernel
theorem dX9_tenTo_0 : decode cX9_tenTo 0 = .ok (.lconst 1, 1) := by decide +kernel
theorem dX9_tenTo_1 : decode cX9_tenTo 1 = .ok (.lstore_n 1, 1) := by decide +kernel
theorem dX9_tenTo_2 : decode cX9_tenTo 2 = .ok (.iconst 0, 1) := by decide +kernel
theorem dX9_tenTo_3 : decode cX9_tenTo 3 = .ok (.istore_n 3, 1) := by decide +kernel
theorem dX9_tenTo_4 : decode cX9_tenTo 4 = .ok (.iload_n 3, 1) := by decide +kernel
theorem dX9_tenTo_5 : decode cX9_tenTo 5 = .ok (.iload_n 0, 1) := by decide +kernel
theorem dX9_tenTo_6 : decode cX9_tenTo 6 = .ok (.if_icmp .ge 15, 3) := by decide +kernel
theorem dX9_tenTo_9 : decode cX9_tenTo 9 = .ok (.lload_n 1, 1) := by decide +kernel
theorem dX9_tenTo_10 : decode cX9_tenTo 10 = .ok (.ldc2_w 69, 3) := by decide +kernel
theorem dX9_tenTo_13 : decode cX9_tenTo 13 = .ok (.lmul, 1) := by decide +kernel
theorem dX9_tenTo_14 : decode cX9_tenTo 14 = .ok (.lstore_n 1, 1) := by decide +kernel
theorem dX9_tenTo_15 : decode cX9_tenTo 15 = .ok (.iinc 3 1, 3) := by decide +kernel
theorem dX9_tenTo_18 : decode cX9_tenTo 18 = .ok (.goto (-14), 3) := by decide +kernel
theorem dX9_tenTo_21 : decode cX9_tenTo 21 = .ok (.lload_n 1, 1) := by decide +kernel
theorem dX9_tenTo_22 : decode cX9_tenTo 22 = .ok (.lreturn, 1) := by decide +kernel
theorem dX9_note_0 : decode cX9_note 0 = .ok (.aload_n 0, 1) := by decide +kernel
theorem dX9_note_1 : decode cX9_note 1 = .ok (.getfield 71, 3) := by decide +kernel
theorem dX9_note_4 : decode cX9_note 4 = .ok (.bipush 14, 2) := by decide +kernel
theorem dX9_note_6 : decode cX9_note 6 = .ok (.if_icmp .ne 31, 3) := by decide +kernel
theorem dX9_note_9 : decode cX9_note 9 = .ok (.aload_n 0, 1) := by decide +kernel
theorem dX9_note_10 : decode cX9_note 10 = .ok (.getfield 23, 3) := by decide +kernel
theorem dX9_note_13 : decode cX9_note 13 = .ok (.sipush 253, 3) := by decide +kernel
theorem dX9_note_16 : decode cX9_note 16 = .ok (.aload_n 0, 1) := by decide +kernel
theorem dX9_note_17 : decode cX9_note 17 = .ok (.getfield 23, 3) := by decide +kernel
theorem dX9_note_20 : decode cX9_note 20 = .ok (.iconst 0, 1) := by decide +kernel
theorem dX9_note_21 : decode cX9_note 21 = .ok (.sipush 3289, 3) := by decide +kernel
theorem dX9_note_24 : decode cX9_note 24 = .ok (.invokestatic 74, 3) := by decide +kernel
theorem dX9_note_27 : decode cX9_note 27 = .ok (.aload_n 0, 1) := by decide +kernel
theorem dX9_note_28 : decode cX9_note 28 = .ok (.dup, 1) := by decide +kernel
theorem dX9_note_29 : decode cX9_note 29 = .ok (.getfield 71, 3) := by decide +kernel
theorem dX9_note_32 : decode cX9_note 32 = .ok (.iconst 1, 1) := by decide +kernel
theorem dX9_note_33 : decode cX9_note 33 = .ok (.isub, 1) := by decide +kernel
theorem dX9_note_34 : decode cX9_note 34 = .ok (.putfield 71, 3) := by decide +kernel
theorem dX9_note_37 : decode cX9_note 37 = .ok (.aload_n 0, 1) := by decide +kernel
theorem dX9_note_38 : decode cX9_note 38 = .ok (.getfield 17, 3) := by decide +kernel
theorem dX9_note_41 : decode cX9_note 41 = .ok (.iconst 0, 1) := by decide +kernel
theorem dX9_note_42 : decode cX9_note 42 = .ok (.aload_n 0, 1) := by decide +kernel
theorem dX9_note_43 : decode cX9_note 43 = .ok (.getfield 23, 3) := by decide +kernel
theorem dX9_note_46 : decode cX9_note 46 = .ok (.sipush 253, 3) := by decide +kernel
theorem dX9_note_49 : decode cX9_note 49 = .ok (.aload_n 0, 1) := by decide +kernel
theorem dX9_note_50 : decode cX9_note 50 = .ok (.getfield 71, 3) := by decide +kernel
theorem dX9_note_53 : decode cX9_note 53 = .ok (.imul, 1) := by decide +kernel
theorem dX9_note_54 : decode cX9_note 54 = .ok (.sipush 253, 3) := by decide +kernel
theorem dX9_note_57 : decode cX9_note 57 = .ok (.invokestatic 74, 3) := by decide +kernel
theorem dX9_note_60 : decode cX9_note 60 = .ok (.aload_n 0, 1) := by decide +kernel
theorem dX9_note_61 : decode cX9_note 61 = .ok (.dup, 1) := by decide +kernel
theorem dX9_note_62 : decode cX9_note 62 = .ok (.getfield 71, 3) := by decide +kernel
theorem dX9_note_65 : decode cX9_note 65 = .ok (.iconst 1, 1) := by decide +kernel
theorem dX9_note_66 : decode cX9_note 66 = .ok (.iadd, 1) := by decide +kernel
theorem dX9_note_67 : decode cX9_note 67 = .ok (.putfield 71, 3) := by decide +kernel
theorem dX9_note_70 : decode cX9_note 70 = .ok (.return_, 1) := by decide +kernel
theorem dX9_lettersOf_0 : decode cX9_lettersOf 0 = .ok (.iconst 0, 1) := by decide +kernel
theorem dX9_lettersOf_1 : decode cX9_lettersOf 1 = .ok (.istore_n 2, 1) := by decide +kernel
theorem dX9_lettersOf_2 : decode cX9_lettersOf 2 = .ok (.iload_n 2, 1) := by decide +kernel
theorem dX9_lettersOf_3 : decode cX9_lettersOf 3 = .ok (.bipush 8, 2) := by decide +kernel
theorem dX9_lettersOf_5 : decode cX9_lettersOf 5 = .ok (.if_icmp .ge 26, 3) := by decide +kernel
theorem dX9_lettersOf_8 : decode cX9_lettersOf 8 = .ok (.lload_n 0, 1) := by decide +kernel
theorem dX9_lettersOf_9 : decode cX9_lettersOf 9 = .ok (.bipush 35, 2) := by decide +kernel
theorem dX9_lettersOf_11 : decode cX9_lettersOf 11 = .ok (.iconst 5, 1) := by decide +kernel
theorem dX9_lettersOf_12 : decode cX9_lettersOf 12 = .ok (.iload_n 2, 1) := by decide +kernel
theorem dX9_lettersOf_13 : decode cX9_lettersOf 13 = .ok (.imul, 1) := by decide +kernel
theorem dX9_lettersOf_14 : decode cX9_lettersOf 14 = .ok (.isub, 1) := by decide +kernel
theorem dX9_lettersOf_15 : decode cX9_lettersOf 15 = .ok (.lshr, 1) := by decide +kernel
theorem dX9_lettersOf_16 : decode cX9_lettersOf 16 = .ok (.ldc2_w 78, 3) := by decide +kernel
theorem dX9_lettersOf_19 : decode cX9_lettersOf 19 = .ok (.land, 1) := by decide +kernel
theorem dX9_lettersOf_20 : decode cX9_lettersOf 20 = .ok (.lconst 0, 1) := by decide +kernel
theorem dX9_lettersOf_21 : decode cX9_lettersOf 21 = .ok (.lcmp, 1) := by decide +kernel
theorem dX9_lettersOf_22 : decode cX9_lettersOf 22 = .ok (.ifCond .eq 9, 3) := by decide +kernel
theorem dX9_lettersOf_25 : decode cX9_lettersOf 25 = .ok (.iinc 2 1, 3) := by decide +kernel
theorem dX9_lettersOf_28 : decode cX9_lettersOf 28 = .ok (.goto (-26), 3) := by decide +kernel
theorem dX9_lettersOf_31 : decode cX9_lettersOf 31 = .ok (.iload_n 2, 1) := by decide +kernel
theorem dX9_lettersOf_32 : decode cX9_lettersOf 32 = .ok (.ireturn, 1) := by decide +kernel
theorem dX9_letterOf_0 : decode cX9_letterOf 0 = .ok (.iload_n 2, 1) := by decide +kernel
theorem dX9_letterOf_1 : decode cX9_letterOf 1 = .ok (.bipush 8, 2) := by decide +kernel
theorem dX9_letterOf_3 : decode cX9_letterOf 3 = .ok (.if_icmp .lt 6, 3) := by decide +kernel
theorem dX9_letterOf_6 : decode cX9_letterOf 6 = .ok (.bipush (-9), 2) := by decide +kernel
theorem dX9_letterOf_8 : decode cX9_letterOf 8 = .ok (.ireturn, 1) := by decide +kernel
theorem dX9_letterOf_9 : decode cX9_letterOf 9 = .ok (.lload_n 0, 1) := by decide +kernel
theorem dX9_letterOf_10 : decode cX9_letterOf 10 = .ok (.bipush 35, 2) := by decide +kernel
theorem dX9_letterOf_12 : decode cX9_letterOf 12 = .ok (.iconst 5, 1) := by decide +kernel
theorem dX9_letterOf_13 : decode cX9_letterOf 13 = .ok (.iload_n 2, 1) := by decide +kernel
theorem dX9_letterOf_14 : decode cX9_letterOf 14 = .ok (.imul, 1) := by decide +kernel
theorem dX9_letterOf_15 : decode cX9_letterOf 15 = .ok (.isub, 1) := by decide +kernel
theorem dX9_letterOf_16 : decode cX9_letterOf 16 = .ok (.lshr, 1) := by decide +kernel
theorem dX9_letterOf_17 : decode cX9_letterOf 17 = .ok (.ldc2_w 78, 3) := by decide +kernel
theorem dX9_letterOf_20 : decode cX9_letterOf 20 = .ok (.land, 1) := by decide +kernel
theorem dX9_letterOf_21 : decode cX9_letterOf 21 = .ok (.l2i, 1) := by decide +kernel
theorem dX9_letterOf_22 : decode cX9_letterOf 22 = .ok (.istore_n 3, 1) := by decide +kernel
theorem dX9_letterOf_23 : decode cX9_letterOf 23 = .ok (.iload_n 3, 1) := by decide +kernel
theorem dX9_letterOf_24 : decode cX9_letterOf 24 = .ok (.ifCond .ne 8, 3) := by decide +kernel
theorem dX9_letterOf_27 : decode cX9_letterOf 27 = .ok (.bipush (-9), 2) := by decide +kernel
theorem dX9_letterOf_29 : decode cX9_letterOf 29 = .ok (.goto 20, 3) := by decide +kernel
theorem dX9_letterOf_32 : decode cX9_letterOf 32 = .ok (.iload_n 3, 1) := by decide +kernel
theorem dX9_letterOf_33 : decode cX9_letterOf 33 = .ok (.bipush 27, 2) := by decide +kernel
theorem dX9_letterOf_35 : decode cX9_letterOf 35 = .ok (.if_icmp .ne 8, 3) := by decide +kernel
theorem dX9_letterOf_38 : decode cX9_letterOf 38 = .ok (.bipush 46, 2) := by decide +kernel
theorem dX9_letterOf_40 : decode cX9_letterOf 40 = .ok (.goto 9, 3) := by decide +kernel
theorem dX9_letterOf_43 : decode cX9_letterOf 43 = .ok (.bipush 97, 2) := by decide +kernel
theorem dX9_letterOf_45 : decode cX9_letterOf 45 = .ok (.iload_n 3, 1) := by decide +kernel
theorem dX9_letterOf_46 : decode cX9_letterOf 46 = .ok (.iadd, 1) := by decide +kernel
theorem dX9_letterOf_47 : decode cX9_letterOf 47 = .ok (.iconst 1, 1) := by decide +kernel
theorem dX9_letterOf_48 : decode cX9_letterOf 48 = .ok (.isub, 1) := by decide +kernel
theorem dX9_letterOf_49 : decode cX9_letterOf 49 = .ok (.ireturn, 1) := by decide +kernel
theorem dX9_withLetter_0 : decode cX9_withLetter 0 = .ok (.iload_n 3, 1) := by decide +kernel
theorem dX9_withLetter_1 : decode cX9_withLetter 1 = .ok (.bipush 46, 2) := by decide +kernel
theorem dX9_withLetter_3 : decode cX9_withLetter 3 = .ok (.if_icmp .ne 9, 3) := by decide +kernel
theorem dX9_withLetter_6 : decode cX9_withLetter 6 = .ok (.ldc2_w 80, 3) := by decide +kernel
theorem dX9_withLetter_9 : decode cX9_withLetter 9 = .ok (.goto 10, 3) := by decide +kernel
theorem dX9_withLetter_12 : decode cX9_withLetter 12 = .ok (.iload_n 3, 1) := by decide +kernel
theorem dX9_withLetter_13 : decode cX9_withLetter 13 = .ok (.bipush 97, 2) := by decide +kernel
theorem dX9_withLetter_15 : decode cX9_withLetter 15 = .ok (.isub, 1) := by decide +kernel
theorem dX9_withLetter_16 : decode cX9_withLetter 16 = .ok (.i2l, 1) := by decide +kernel
theorem dX9_withLetter_17 : decode cX9_withLetter 17 = .ok (.lconst 1, 1) := by decide +kernel
theorem dX9_withLetter_18 : decode cX9_withLetter 18 = .ok (.ladd, 1) := by decide +kernel
theorem dX9_withLetter_19 : decode cX9_withLetter 19 = .ok (.lstore 4, 2) := by decide +kernel
theorem dX9_withLetter_21 : decode cX9_withLetter 21 = .ok (.lload_n 0, 1) := by decide +kernel
theorem dX9_withLetter_22 : decode cX9_withLetter 22 = .ok (.lload 4, 2) := by decide +kernel
theorem dX9_withLetter_24 : decode cX9_withLetter 24 = .ok (.bipush 35, 2) := by decide +kernel
theorem dX9_withLetter_26 : decode cX9_withLetter 26 = .ok (.iconst 5, 1) := by decide +kernel
theorem dX9_withLetter_27 : decode cX9_withLetter 27 = .ok (.iload_n 2, 1) := by decide +kernel
theorem dX9_withLetter_28 : decode cX9_withLetter 28 = .ok (.imul, 1) := by decide +kernel
theorem dX9_withLetter_29 : decode cX9_withLetter 29 = .ok (.isub, 1) := by decide +kernel
theorem dX9_withLetter_30 : decode cX9_withLetter 30 = .ok (.lshl, 1) := by decide +kernel
theorem dX9_withLetter_31 : decode cX9_withLetter 31 = .ok (.lor, 1) := by decide +kernel
theorem dX9_withLetter_32 : decode cX9_withLetter 32 = .ok (.lreturn, 1) := by decide +kernel
theorem dX9_cell_0 : decode cX9_cell 0 = .ok (.iconst 5, 1) := by decide +kernel
theorem dX9_cell_1 : decode cX9_cell 1 = .ok (.bipush 18, 2) := by decide +kernel
theorem dX9_cell_3 : decode cX9_cell 3 = .ok (.iload_n 0, 1) := by decide +kernel
theorem dX9_cell_4 : decode cX9_cell 4 = .ok (.imul, 1) := by decide +kernel
theorem dX9_cell_5 : decode cX9_cell 5 = .ok (.iadd, 1) := by decide +kernel
theorem dX9_cell_6 : decode cX9_cell 6 = .ok (.iload_n 1, 1) := by decide +kernel
theorem dX9_cell_7 : decode cX9_cell 7 = .ok (.iadd, 1) := by decide +kernel
theorem dX9_cell_8 : decode cX9_cell 8 = .ok (.ireturn, 1) := by decide +kernel
theorem dX9_mark_0 : decode cX9_mark 0 = .ok (.iload_n 0, 1) := by decide +kernel
theorem dX9_mark_1 : decode cX9_mark 1 = .ok (.bipush 6, 2) := by decide +kernel
theorem dX9_mark_3 : decode cX9_mark 3 = .ok (.iconst 3, 1) := by decide +kernel
theorem dX9_mark_4 : decode cX9_mark 4 = .ok (.iload_n 1, 1) := by decide +kernel
theorem dX9_mark_5 : decode cX9_mark 5 = .ok (.imul, 1) := by decide +kernel
theorem dX9_mark_6 : decode cX9_mark 6 = .ok (.iadd, 1) := by decide +kernel
theorem dX9_mark_7 : decode cX9_mark 7 = .ok (.invokestatic 82, 3) := by decide +kernel
theorem dX9_mark_10 : decode cX9_mark 10 = .ok (.ireturn, 1) := by decide +kernel
theorem dX9_partAt_0 : decode cX9_partAt 0 = .ok (.iload_n 0, 1) := by decide +kernel
theorem dX9_partAt_1 : decode cX9_partAt 1 = .ok (.bipush 6, 2) := by decide +kernel
theorem dX9_partAt_3 : decode cX9_partAt 3 = .ok (.iconst 3, 1) := by decide +kernel
theorem dX9_partAt_4 : decode cX9_partAt 4 = .ok (.iload_n 1, 1) := by decide +kernel
theorem dX9_partAt_5 : decode cX9_partAt 5 = .ok (.imul, 1) := by decide +kernel
theorem dX9_partAt_6 : decode cX9_partAt 6 = .ok (.iadd, 1) := by decide +kernel
theorem dX9_partAt_7 : decode cX9_partAt 7 = .ok (.iconst 1, 1) := by decide +kernel
theorem dX9_partAt_8 : decode cX9_partAt 8 = .ok (.iadd, 1) := by decide +kernel
theorem dX9_partAt_9 : decode cX9_partAt 9 = .ok (.invokestatic 82, 3) := by decide +kernel
theorem dX9_partAt_12 : decode cX9_partAt 12 = .ok (.ireturn, 1) := by decide +kernel
theorem dX9_glossAt_0 : decode cX9_glossAt 0 = .ok (.iload_n 0, 1) := by decide +kernel
theorem dX9_glossAt_1 : decode cX9_glossAt 1 = .ok (.bipush 6, 2) := by decide +kernel
theorem dX9_glossAt_3 : decode cX9_glossAt 3 = .ok (.iconst 3, 1) := by decide +kernel
theorem dX9_glossAt_4 : decode cX9_glossAt 4 = .ok (.iload_n 1, 1) := by decide +kernel
theorem dX9_glossAt_5 : decode cX9_glossAt 5 = .ok (.imul, 1) := by decide +kernel
theorem dX9_glossAt_6 : decode cX9_glossAt 6 = .ok (.iadd, 1) := by decide +kernel
theorem dX9_glossAt_7 : decode cX9_glossAt 7 = .ok (.iconst 2, 1) := by decide +kernel
theorem dX9_glossAt_8 : decode cX9_glossAt 8 = .ok (.iadd, 1) := by decide +kernel
theorem dX9_glossAt_9 : decode cX9_glossAt 9 = .ok (.invokestatic 82, 3) := by decide +kernel
theorem dX9_glossAt_12 : decode cX9_glossAt 12 = .ok (.ireturn, 1) := by decide +kernel
theorem dX9_parts_0 : decode cX9_parts 0 = .ok (.aload_n 0, 1) := by decide +kernel
theorem dX9_parts_1 : decode cX9_parts 1 = .ok (.iload_n 1, 1) := by decide +kernel
theorem dX9_parts_2 : decode cX9_parts 2 = .ok (.iconst 0, 1) := by decide +kernel
theorem dX9_parts_3 : decode cX9_parts 3 = .ok (.invokestatic 82, 3) := by decide +kernel
theorem dX9_parts_6 : decode cX9_parts 6 = .ok (.laload, 1) := by decide +kernel
theorem dX9_parts_7 : decode cX9_parts 7 = .ok (.l2i, 1) := by decide +kernel
theorem dX9_parts_8 : decode cX9_parts 8 = .ok (.ireturn, 1) := by decide +kernel
theorem dX9_many_0 : decode cX9_many 0 = .ok (.aload_n 0, 1) := by decide +kernel
theorem dX9_many_1 : decode cX9_many 1 = .ok (.iconst 0, 1) := by decide +kernel
theorem dX9_many_2 : decode cX9_many 2 = .ok (.laload, 1) := by decide +kernel
theorem dX9_many_3 : decode cX9_many 3 = .ok (.l2i, 1) := by decide +kernel
theorem dX9_many_4 : decode cX9_many 4 = .ok (.ireturn, 1) := by decide +kernel
theorem dX9_isWordOf_0 : decode cX9_isWordOf 0 = .ok (.iload_n 1, 1) := by decide +kernel
theorem dX9_isWordOf_1 : decode cX9_isWordOf 1 = .ok (.i2l, 1) := by decide +kernel
theorem dX9_isWordOf_2 : decode cX9_isWordOf 2 = .ok (.lconst 0, 1) := by decide +kernel
theorem dX9_isWordOf_3 : decode cX9_isWordOf 3 = .ok (.aload_n 0, 1) := by decide +kernel
theorem dX9_isWordOf_4 : decode cX9_isWordOf 4 = .ok (.invokestatic 86, 3) := by decide +kernel
theorem dX9_isWordOf_7 : decode cX9_isWordOf 7 = .ok (.iconst 1, 1) := by decide +kernel
theorem dX9_isWordOf_8 : decode cX9_isWordOf 8 = .ok (.isub, 1) := by decide +kernel
theorem dX9_isWordOf_9 : decode cX9_isWordOf 9 = .ok (.i2l, 1) := by decide +kernel
theorem dX9_isWordOf_10 : decode cX9_isWordOf 10 = .ok (.invokestatic 90, 3) := by decide +kernel
theorem dX9_isWordOf_13 : decode cX9_isWordOf 13 = .ok (.ireturn, 1) := by decide +kernel
theorem dX9_isWord_0 : decode cX9_isWord 0 = .ok (.aload_n 0, 1) := by decide +kernel
theorem dX9_isWord_1 : decode cX9_isWord 1 = .ok (.getfield 17, 3) := by decide +kernel
theorem dX9_isWord_4 : decode cX9_isWord 4 = .ok (.iload_n 1, 1) := by decide +kernel
theorem dX9_isWord_5 : decode cX9_isWord 5 = .ok (.invokestatic 94, 3) := by decide +kernel
theorem dX9_isWord_8 : decode cX9_isWord 8 = .ok (.ireturn, 1) := by decide +kernel
theorem dX9_isPartOf_0 : decode cX9_isPartOf 0 = .ok (.aload_n 0, 1) := by decide +kernel
theorem dX9_isPartOf_1 : decode cX9_isPartOf 1 = .ok (.iload_n 1, 1) := by decide +kernel
theorem dX9_isPartOf_2 : decode cX9_isPartOf 2 = .ok (.invokestatic 94, 3) := by decide +kernel
theorem dX9_isPartOf_5 : decode cX9_isPartOf 5 = .ok (.ifCond .eq 24, 3) := by decide +kernel
theorem dX9_isPartOf_8 : decode cX9_isPartOf 8 = .ok (.iload_n 2, 1) := by decide +kernel
theorem dX9_isPartOf_9 : decode cX9_isPartOf 9 = .ok (.i2l, 1) := by decide +kernel
theorem dX9_isPartOf_10 : decode cX9_isPartOf 10 = .ok (.lconst 0, 1) := by decide +kernel
theorem dX9_isPartOf_11 : decode cX9_isPartOf 11 = .ok (.aload_n 0, 1) := by decide +kernel
theorem dX9_isPartOf_12 : decode cX9_isPartOf 12 = .ok (.iload_n 1, 1) := by decide +kernel
theorem dX9_isPartOf_13 : decode cX9_isPartOf 13 = .ok (.invokestatic 98, 3) := by decide +kernel
theorem dX9_isPartOf_16 : decode cX9_isPartOf 16 = .ok (.iconst 1, 1) := by decide +kernel
theorem dX9_isPartOf_17 : decode cX9_isPartOf 17 = .ok (.isub, 1) := by decide +kernel
theorem dX9_isPartOf_18 : decode cX9_isPartOf 18 = .ok (.i2l, 1) := by decide +kernel
theorem dX9_isPartOf_19 : decode cX9_isPartOf 19 = .ok (.invokestatic 90, 3) := by decide +kernel
theorem dX9_isPartOf_22 : decode cX9_isPartOf 22 = .ok (.ifCond .eq 7, 3) := by decide +kernel
theorem dX9_isPartOf_25 : decode cX9_isPartOf 25 = .ok (.iconst 1, 1) := by decide +kernel
theorem dX9_isPartOf_26 : decode cX9_isPartOf 26 = .ok (.goto 4, 3) := by decide +kernel
theorem dX9_isPartOf_29 : decode cX9_isPartOf 29 = .ok (.iconst 0, 1) := by decide +kernel
theorem dX9_isPartOf_30 : decode cX9_isPartOf 30 = .ok (.ireturn, 1) := by decide +kernel
theorem dX9_shownLength_0 : decode cX9_shownLength 0 = .ok (.aload_n 0, 1) := by decide +kernel
theorem dX9_shownLength_1 : decode cX9_shownLength 1 = .ok (.iload_n 1, 1) := by decide +kernel
theorem dX9_shownLength_2 : decode cX9_shownLength 2 = .ok (.iload_n 2, 1) := by decide +kernel
theorem dX9_shownLength_3 : decode cX9_shownLength 3 = .ok (.invokestatic 102, 3) := by decide +kernel
theorem dX9_shownLength_6 : decode cX9_shownLength 6 = .ok (.laload, 1) := by decide +kernel
theorem dX9_shownLength_7 : decode cX9_shownLength 7 = .ok (.lstore_n 3, 1) := by decide +kernel
theorem dX9_shownLength_8 : decode cX9_shownLength 8 = .ok (.lload_n 3, 1) := by decide +kernel
theorem dX9_shownLength_9 : decode cX9_shownLength 9 = .ok (.lconst 0, 1) := by decide +kernel
theorem dX9_shownLength_10 : decode cX9_shownLength 10 = .ok (.lcmp, 1) := by decide +kernel
theorem dX9_shownLength_11 : decode cX9_shownLength 11 = .ok (.ifCond .ne 7, 3) := by decide +kernel
theorem dX9_shownLength_14 : decode cX9_shownLength 14 = .ok (.iconst 1, 1) := by decide +kernel
theorem dX9_shownLength_15 : decode cX9_shownLength 15 = .ok (.goto 7, 3) := by decide +kernel
theorem dX9_shownLength_18 : decode cX9_shownLength 18 = .ok (.lload_n 3, 1) := by decide +kernel
theorem dX9_shownLength_19 : decode cX9_shownLength 19 = .ok (.invokestatic 105, 3) := by decide +kernel
theorem dX9_shownLength_22 : decode cX9_shownLength 22 = .ok (.ireturn, 1) := by decide +kernel
theorem dX9_wide_0 : decode cX9_wide 0 = .ok (.iconst 0, 1) := by decide +kernel
theorem dX9_wide_1 : decode cX9_wide 1 = .ok (.istore_n 3, 1) := by decide +kernel
theorem dX9_wide_2 : decode cX9_wide 2 = .ok (.iconst 0, 1) := by decide +kernel
theorem dX9_wide_3 : decode cX9_wide 3 = .ok (.istore 4, 2) := by decide +kernel
theorem dX9_wide_5 : decode cX9_wide 5 = .ok (.iconst 0, 1) := by decide +kernel
theorem dX9_wide_6 : decode cX9_wide 6 = .ok (.istore 5, 2) := by decide +kernel
theorem dX9_wide_8 : decode cX9_wide 8 = .ok (.aload_n 0, 1) := by decide +kernel
theorem dX9_wide_9 : decode cX9_wide 9 = .ok (.iload_n 1, 1) := by decide +kernel
theorem dX9_wide_10 : decode cX9_wide 10 = .ok (.invokestatic 98, 3) := by decide +kernel
theorem dX9_wide_13 : decode cX9_wide 13 = .ok (.istore 6, 2) := by decide +kernel
theorem dX9_wide_15 : decode cX9_wide 15 = .ok (.iconst 0, 1) := by decide +kernel
theorem dX9_wide_16 : decode cX9_wide 16 = .ok (.istore 7, 2) := by decide +kernel
theorem dX9_wide_18 : decode cX9_wide 18 = .ok (.iload 7, 2) := by decide +kernel
theorem dX9_wide_20 : decode cX9_wide 20 = .ok (.iload 6, 2) := by decide +kernel
theorem dX9_wide_22 : decode cX9_wide 22 = .ok (.if_icmp .ge 62, 3) := by decide +kernel
theorem dX9_wide_25 : decode cX9_wide 25 = .ok (.aload_n 0, 1) := by decide +kernel
theorem dX9_wide_26 : decode cX9_wide 26 = .ok (.iload_n 1, 1) := by decide +kernel
theorem dX9_wide_27 : decode cX9_wide 27 = .ok (.iload 7, 2) := by decide +kernel
theorem dX9_wide_29 : decode cX9_wide 29 = .ok (.invokestatic 109, 3) := by decide +kernel
theorem dX9_wide_32 : decode cX9_wide 32 = .ok (.laload, 1) := by decide +kernel
theorem dX9_wide_33 : decode cX9_wide 33 = .ok (.invokestatic 105, 3) := by decide +kernel
theorem dX9_wide_36 : decode cX9_wide 36 = .ok (.istore 8, 2) := by decide +kernel
theorem dX9_wide_38 : decode cX9_wide 38 = .ok (.aload_n 0, 1) := by decide +kernel
theorem dX9_wide_39 : decode cX9_wide 39 = .ok (.iload_n 1, 1) := by decide +kernel
theorem dX9_wide_40 : decode cX9_wide 40 = .ok (.iload 7, 2) := by decide +kernel
theorem dX9_wide_42 : decode cX9_wide 42 = .ok (.invokestatic 112, 3) := by decide +kernel
theorem dX9_wide_45 : decode cX9_wide 45 = .ok (.istore 9, 2) := by decide +kernel
theorem dX9_wide_47 : decode cX9_wide 47 = .ok (.iload_n 3, 1) := by decide +kernel
theorem dX9_wide_48 : decode cX9_wide 48 = .ok (.iload 8, 2) := by decide +kernel
theorem dX9_wide_50 : decode cX9_wide 50 = .ok (.iadd, 1) := by decide +kernel
theorem dX9_wide_51 : decode cX9_wide 51 = .ok (.istore_n 3, 1) := by decide +kernel
theorem dX9_wide_52 : decode cX9_wide 52 = .ok (.iload 4, 2) := by decide +kernel
theorem dX9_wide_54 : decode cX9_wide 54 = .ok (.iload 9, 2) := by decide +kernel
theorem dX9_wide_56 : decode cX9_wide 56 = .ok (.iadd, 1) := by decide +kernel
theorem dX9_wide_57 : decode cX9_wide 57 = .ok (.istore 4, 2) := by decide +kernel
theorem dX9_wide_59 : decode cX9_wide 59 = .ok (.iload 5, 2) := by decide +kernel
theorem dX9_wide_61 : decode cX9_wide 61 = .ok (.iload 8, 2) := by decide +kernel
theorem dX9_wide_63 : decode cX9_wide 63 = .ok (.iload 9, 2) := by decide +kernel
theorem dX9_wide_65 : decode cX9_wide 65 = .ok (.if_icmp .le 8, 3) := by decide +kernel
theorem dX9_wide_68 : decode cX9_wide 68 = .ok (.iload 8, 2) := by decide +kernel
theorem dX9_wide_70 : decode cX9_wide 70 = .ok (.goto 5, 3) := by decide +kernel
theorem dX9_wide_73 : decode cX9_wide 73 = .ok (.iload 9, 2) := by decide +kernel
theorem dX9_wide_75 : decode cX9_wide 75 = .ok (.iadd, 1) := by decide +kernel
theorem dX9_wide_76 : decode cX9_wide 76 = .ok (.istore 5, 2) := by decide +kernel
theorem dX9_wide_78 : decode cX9_wide 78 = .ok (.iinc 7 1, 3) := by decide +kernel
theorem dX9_wide_81 : decode cX9_wide 81 = .ok (.goto (-63), 3) := by decide +kernel
theorem dX9_wide_84 : decode cX9_wide 84 = .ok (.iload 6, 2) := by decide +kernel
theorem dX9_wide_86 : decode cX9_wide 86 = .ok (.iconst 1, 1) := by decide +kernel
theorem dX9_wide_87 : decode cX9_wide 87 = .ok (.isub, 1) := by decide +kernel
theorem dX9_wide_88 : decode cX9_wide 88 = .ok (.iload_n 2, 1) := by decide +kernel
theorem dX9_wide_89 : decode cX9_wide 89 = .ok (.iconst 1, 1) := by decide +kernel
theorem dX9_wide_90 : decode cX9_wide 90 = .ok (.if_icmp .ne 8, 3) := by decide +kernel
theorem dX9_wide_93 : decode cX9_wide 93 = .ok (.iload 5, 2) := by decide +kernel
theorem dX9_wide_95 : decode cX9_wide 95 = .ok (.goto 15, 3) := by decide +kernel
theorem dX9_wide_98 : decode cX9_wide 98 = .ok (.iload_n 3, 1) := by decide +kernel
theorem dX9_wide_99 : decode cX9_wide 99 = .ok (.iload 4, 2) := by decide +kernel
theorem dX9_wide_101 : decode cX9_wide 101 = .ok (.if_icmp .le 7, 3) := by decide +kernel
theorem dX9_wide_104 : decode cX9_wide 104 = .ok (.iload_n 3, 1) := by decide +kernel
theorem dX9_wide_105 : decode cX9_wide 105 = .ok (.goto 5, 3) := by decide +kernel
theorem dX9_wide_108 : decode cX9_wide 108 = .ok (.iload 4, 2) := by decide +kernel
theorem dX9_wide_110 : decode cX9_wide 110 = .ok (.iadd, 1) := by decide +kernel
theorem dX9_wide_111 : decode cX9_wide 111 = .ok (.ireturn, 1) := by decide +kernel
theorem dX9_addRow_0 : decode cX9_addRow 0 = .ok (.aload_n 0, 1) := by decide +kernel
theorem dX9_addRow_1 : decode cX9_addRow 1 = .ok (.getfield 48, 3) := by decide +kernel
theorem dX9_addRow_4 : decode cX9_addRow 4 = .ok (.aload_n 0, 1) := by decide +kernel
theorem dX9_addRow_5 : decode cX9_addRow 5 = .ok (.getfield 116, 3) := by decide +kernel
theorem dX9_addRow_8 : decode cX9_addRow 8 = .ok (.iload_n 1, 1) := by decide +kernel
theorem dX9_addRow_9 : decode cX9_addRow 9 = .ok (.iastore, 1) := by decide +kernel
theorem dX9_addRow_10 : decode cX9_addRow 10 = .ok (.aload_n 0, 1) := by decide +kernel
theorem dX9_addRow_11 : decode cX9_addRow 11 = .ok (.getfield 51, 3) := by decide +kernel
theorem dX9_addRow_14 : decode cX9_addRow 14 = .ok (.aload_n 0, 1) := by decide +kernel
theorem dX9_addRow_15 : decode cX9_addRow 15 = .ok (.getfield 116, 3) := by decide +kernel
theorem dX9_addRow_18 : decode cX9_addRow 18 = .ok (.iload_n 2, 1) := by decide +kernel
theorem dX9_addRow_19 : decode cX9_addRow 19 = .ok (.iastore, 1) := by decide +kernel
theorem dX9_addRow_20 : decode cX9_addRow 20 = .ok (.aload_n 0, 1) := by decide +kernel
theorem dX9_addRow_21 : decode cX9_addRow 21 = .ok (.getfield 54, 3) := by decide +kernel
theorem dX9_addRow_24 : decode cX9_addRow 24 = .ok (.aload_n 0, 1) := by decide +kernel
theorem dX9_addRow_25 : decode cX9_addRow 25 = .ok (.getfield 116, 3) := by decide +kernel
theorem dX9_addRow_28 : decode cX9_addRow 28 = .ok (.iload_n 3, 1) := by decide +kernel
theorem dX9_addRow_29 : decode cX9_addRow 29 = .ok (.iastore, 1) := by decide +kernel
theorem dX9_addRow_30 : decode cX9_addRow 30 = .ok (.aload_n 0, 1) := by decide +kernel
theorem dX9_addRow_31 : decode cX9_addRow 31 = .ok (.dup, 1) := by decide +kernel
theorem dX9_addRow_32 : decode cX9_addRow 32 = .ok (.getfield 116, 3) := by decide +kernel
theorem dX9_addRow_35 : decode cX9_addRow 35 = .ok (.iconst 1, 1) := by decide +kernel
theorem dX9_addRow_36 : decode cX9_addRow 36 = .ok (.iadd, 1) := by decide +kernel
theorem dX9_addRow_37 : decode cX9_addRow 37 = .ok (.putfield 116, 3) := by decide +kernel
theorem dX9_addRow_40 : decode cX9_addRow 40 = .ok (.return_, 1) := by decide +kernel
theorem dX9_layOut_0 : decode cX9_layOut 0 = .ok (.aload_n 0, 1) := by decide +kernel
theorem dX9_layOut_1 : decode cX9_layOut 1 = .ok (.iconst 0, 1) := by decide +kernel
theorem dX9_layOut_2 : decode cX9_layOut 2 = .ok (.putfield 119, 3) := by decide +kernel
theorem dX9_layOut_5 : decode cX9_layOut 5 = .ok (.aload_n 0, 1) := by decide +kernel
theorem dX9_layOut_6 : decode cX9_layOut 6 = .ok (.iconst 0, 1) := by decide +kernel
theorem dX9_layOut_7 : decode cX9_layOut 7 = .ok (.putfield 116, 3) := by decide +kernel
theorem dX9_layOut_10 : decode cX9_layOut 10 = .ok (.aload_n 0, 1) := by decide +kernel
theorem dX9_layOut_11 : decode cX9_layOut 11 = .ok (.iconst 0, 1) := by decide +kernel
theorem dX9_layOut_12 : decode cX9_layOut 12 = .ok (.putfield 122, 3) := by decide +kernel
theorem dX9_layOut_15 : decode cX9_layOut 15 = .ok (.iconst 1, 1) := by decide +kernel
theorem dX9_layOut_16 : decode cX9_layOut 16 = .ok (.istore 4, 2) := by decide +kernel
theorem dX9_layOut_18 : decode cX9_layOut 18 = .ok (.iconst 0, 1) := by decide +kernel
theorem dX9_layOut_19 : decode cX9_layOut 19 = .ok (.istore 5, 2) := by decide +kernel
theorem dX9_layOut_21 : decode cX9_layOut 21 = .ok (.iconst 0, 1) := by decide +kernel
theorem dX9_layOut_22 : decode cX9_layOut 22 = .ok (.istore 6, 2) := by decide +kernel
theorem dX9_layOut_24 : decode cX9_layOut 24 = .ok (.iconst 0, 1) := by decide +kernel
theorem dX9_layOut_25 : decode cX9_layOut 25 = .ok (.istore 7, 2) := by decide +kernel
theorem dX9_layOut_27 : decode cX9_layOut 27 = .ok (.iload 7, 2) := by decide +kernel
theorem dX9_layOut_29 : decode cX9_layOut 29 = .ok (.aload_n 1, 1) := by decide +kernel
theorem dX9_layOut_30 : decode cX9_layOut 30 = .ok (.invokestatic 86, 3) := by decide +kernel
theorem dX9_layOut_33 : decode cX9_layOut 33 = .ok (.if_icmp .ge 275, 3) := by decide +kernel
theorem dX9_layOut_36 : decode cX9_layOut 36 = .ok (.aload_n 1, 1) := by decide +kernel
theorem dX9_layOut_37 : decode cX9_layOut 37 = .ok (.iload 7, 2) := by decide +kernel
theorem dX9_layOut_39 : decode cX9_layOut 39 = .ok (.iload_n 3, 1) := by decide +kernel
theorem dX9_layOut_40 : decode cX9_layOut 40 = .ok (.invokestatic 125, 3) := by decide +kernel
theorem dX9_layOut_43 : decode cX9_layOut 43 = .ok (.istore 8, 2) := by decide +kernel
theorem dX9_layOut_45 : decode cX9_layOut 45 = .ok (.iload 5, 2) := by decide +kernel
theorem dX9_layOut_47 : decode cX9_layOut 47 = .ok (.aload_n 1, 1) := by decide +kernel
theorem dX9_layOut_48 : decode cX9_layOut 48 = .ok (.iconst 3, 1) := by decide +kernel
theorem dX9_layOut_49 : decode cX9_layOut 49 = .ok (.laload, 1) := by decide +kernel
theorem dX9_layOut_50 : decode cX9_layOut 50 = .ok (.l2i, 1) := by decide +kernel
theorem dX9_layOut_51 : decode cX9_layOut 51 = .ok (.iadd, 1) := by decide +kernel
theorem dX9_layOut_52 : decode cX9_layOut 52 = .ok (.istore 9, 2) := by decide +kernel
theorem dX9_layOut_54 : decode cX9_layOut 54 = .ok (.iload 4, 2) := by decide +kernel
theorem dX9_layOut_56 : decode cX9_layOut 56 = .ok (.ifCond .ne 16, 3) := by decide +kernel
theorem dX9_layOut_59 : decode cX9_layOut 59 = .ok (.iload 9, 2) := by decide +kernel
theorem dX9_layOut_61 : decode cX9_layOut 61 = .ok (.iload 8, 2) := by decide +kernel
theorem dX9_layOut_63 : decode cX9_layOut 63 = .ok (.iadd, 1) := by decide +kernel
theorem dX9_layOut_64 : decode cX9_layOut 64 = .ok (.iload_n 2, 1) := by decide +kernel
theorem dX9_layOut_65 : decode cX9_layOut 65 = .ok (.if_icmp .gt 7, 3) := by decide +kernel
theorem dX9_layOut_68 : decode cX9_layOut 68 = .ok (.iconst 1, 1) := by decide +kernel
theorem dX9_layOut_69 : decode cX9_layOut 69 = .ok (.goto 4, 3) := by decide +kernel
theorem dX9_layOut_72 : decode cX9_layOut 72 = .ok (.iconst 0, 1) := by decide +kernel
theorem dX9_layOut_73 : decode cX9_layOut 73 = .ok (.istore 10, 2) := by decide +kernel
theorem dX9_layOut_75 : decode cX9_layOut 75 = .ok (.iload 10, 2) := by decide +kernel
theorem dX9_layOut_77 : decode cX9_layOut 77 = .ok (.ifCond .ne 29, 3) := by decide +kernel
theorem dX9_layOut_80 : decode cX9_layOut 80 = .ok (.iload 4, 2) := by decide +kernel
theorem dX9_layOut_82 : decode cX9_layOut 82 = .ok (.ifCond .eq 10, 3) := by decide +kernel
theorem dX9_layOut_85 : decode cX9_layOut 85 = .ok (.aload_n 0, 1) := by decide +kernel
theorem dX9_layOut_86 : decode cX9_layOut 86 = .ok (.getfield 119, 3) := by decide +kernel
theorem dX9_layOut_89 : decode cX9_layOut 89 = .ok (.goto 5, 3) := by decide +kernel
theorem dX9_layOut_92 : decode cX9_layOut 92 = .ok (.iload 6, 2) := by decide +kernel
theorem dX9_layOut_94 : decode cX9_layOut 94 = .ok (.istore 6, 2) := by decide +kernel
theorem dX9_layOut_96 : decode cX9_layOut 96 = .ok (.aload_n 0, 1) := by decide +kernel
theorem dX9_layOut_97 : decode cX9_layOut 97 = .ok (.dup, 1) := by decide +kernel
theorem dX9_layOut_98 : decode cX9_layOut 98 = .ok (.getfield 119, 3) := by decide +kernel
theorem dX9_layOut_101 : decode cX9_layOut 101 = .ok (.iconst 1, 1) := by decide +kernel
theorem dX9_layOut_102 : decode cX9_layOut 102 = .ok (.iadd, 1) := by decide +kernel
theorem dX9_layOut_103 : decode cX9_layOut 103 = .ok (.putfield 119, 3) := by decide +kernel
theorem dX9_layOut_106 : decode cX9_layOut 106 = .ok (.aload_n 0, 1) := by decide +kernel
theorem dX9_layOut_107 : decode cX9_layOut 107 = .ok (.getfield 36, 3) := by decide +kernel
theorem dX9_layOut_110 : decode cX9_layOut 110 = .ok (.iload 7, 2) := by decide +kernel
theorem dX9_layOut_112 : decode cX9_layOut 112 = .ok (.iload 10, 2) := by decide +kernel
theorem dX9_layOut_114 : decode cX9_layOut 114 = .ok (.ifCond .eq 8, 3) := by decide +kernel
theorem dX9_layOut_117 : decode cX9_layOut 117 = .ok (.iload 9, 2) := by decide +kernel
theorem dX9_layOut_119 : decode cX9_layOut 119 = .ok (.goto 4, 3) := by decide +kernel
theorem dX9_layOut_122 : decode cX9_layOut 122 = .ok (.iconst 0, 1) := by decide +kernel
theorem dX9_layOut_123 : decode cX9_layOut 123 = .ok (.iastore, 1) := by decide +kernel
theorem dX9_layOut_124 : decode cX9_layOut 124 = .ok (.aload_n 0, 1) := by decide +kernel
theorem dX9_layOut_125 : decode cX9_layOut 125 = .ok (.getfield 39, 3) := by decide +kernel
theorem dX9_layOut_128 : decode cX9_layOut 128 = .ok (.iload 7, 2) := by decide +kernel
theorem dX9_layOut_130 : decode cX9_layOut 130 = .ok (.iload 8, 2) := by decide +kernel
theorem dX9_layOut_132 : decode cX9_layOut 132 = .ok (.iastore, 1) := by decide +kernel
theorem dX9_layOut_133 : decode cX9_layOut 133 = .ok (.aload_n 0, 1) := by decide +kernel
theorem dX9_layOut_134 : decode cX9_layOut 134 = .ok (.getfield 33, 3) := by decide +kernel
theorem dX9_layOut_137 : decode cX9_layOut 137 = .ok (.iload 7, 2) := by decide +kernel
theorem dX9_layOut_139 : decode cX9_layOut 139 = .ok (.aload_n 0, 1) := by decide +kernel
theorem dX9_layOut_140 : decode cX9_layOut 140 = .ok (.getfield 119, 3) := by decide +kernel
theorem dX9_layOut_143 : decode cX9_layOut 143 = .ok (.iconst 1, 1) := by decide +kernel
theorem dX9_layOut_144 : decode cX9_layOut 144 = .ok (.isub, 1) := by decide +kernel
theorem dX9_layOut_145 : decode cX9_layOut 145 = .ok (.iastore, 1) := by decide +kernel
theorem dX9_layOut_146 : decode cX9_layOut 146 = .ok (.aload_n 0, 1) := by decide +kernel
theorem dX9_layOut_147 : decode cX9_layOut 147 = .ok (.getfield 42, 3) := by decide +kernel
theorem dX9_layOut_150 : decode cX9_layOut 150 = .ok (.iload 7, 2) := by decide +kernel
theorem dX9_layOut_152 : decode cX9_layOut 152 = .ok (.aload_n 0, 1) := by decide +kernel
theorem dX9_layOut_153 : decode cX9_layOut 153 = .ok (.getfield 122, 3) := by decide +kernel
theorem dX9_layOut_156 : decode cX9_layOut 156 = .ok (.iastore, 1) := by decide +kernel
theorem dX9_layOut_157 : decode cX9_layOut 157 = .ok (.aload_n 0, 1) := by decide +kernel
theorem dX9_layOut_158 : decode cX9_layOut 158 = .ok (.getfield 36, 3) := by decide +kernel
theorem dX9_layOut_161 : decode cX9_layOut 161 = .ok (.iload 7, 2) := by decide +kernel
theorem dX9_layOut_163 : decode cX9_layOut 163 = .ok (.iaload, 1) := by decide +kernel
theorem dX9_layOut_164 : decode cX9_layOut 164 = .ok (.iload 8, 2) := by decide +kernel
theorem dX9_layOut_166 : decode cX9_layOut 166 = .ok (.iadd, 1) := by decide +kernel
theorem dX9_layOut_167 : decode cX9_layOut 167 = .ok (.istore 5, 2) := by decide +kernel
theorem dX9_layOut_169 : decode cX9_layOut 169 = .ok (.aload_n 0, 1) := by decide +kernel
theorem dX9_layOut_170 : decode cX9_layOut 170 = .ok (.getfield 45, 3) := by decide +kernel
theorem dX9_layOut_173 : decode cX9_layOut 173 = .ok (.aload_n 0, 1) := by decide +kernel
theorem dX9_layOut_174 : decode cX9_layOut 174 = .ok (.getfield 119, 3) := by decide +kernel
theorem dX9_layOut_177 : decode cX9_layOut 177 = .ok (.iconst 1, 1) := by decide +kernel
theorem dX9_layOut_178 : decode cX9_layOut 178 = .ok (.isub, 1) := by decide +kernel
theorem dX9_layOut_179 : decode cX9_layOut 179 = .ok (.iload 5, 2) := by decide +kernel
theorem dX9_layOut_181 : decode cX9_layOut 181 = .ok (.iastore, 1) := by decide +kernel
theorem dX9_layOut_182 : decode cX9_layOut 182 = .ok (.aload_n 1, 1) := by decide +kernel
theorem dX9_layOut_183 : decode cX9_layOut 183 = .ok (.iload 7, 2) := by decide +kernel
theorem dX9_layOut_185 : decode cX9_layOut 185 = .ok (.iconst 1, 1) := by decide +kernel
theorem dX9_layOut_186 : decode cX9_layOut 186 = .ok (.invokestatic 82, 3) := by decide +kernel
theorem dX9_layOut_189 : decode cX9_layOut 189 = .ok (.laload, 1) := by decide +kernel
theorem dX9_layOut_190 : decode cX9_layOut 190 = .ok (.lconst 1, 1) := by decide +kernel
theorem dX9_layOut_191 : decode cX9_layOut 191 = .ok (.lcmp, 1) := by decide +kernel
theorem dX9_layOut_192 : decode cX9_layOut 192 = .ok (.ifCond .eq 14, 3) := by decide +kernel
theorem dX9_layOut_195 : decode cX9_layOut 195 = .ok (.iload 7, 2) := by decide +kernel
theorem dX9_layOut_197 : decode cX9_layOut 197 = .ok (.aload_n 1, 1) := by decide +kernel
theorem dX9_layOut_198 : decode cX9_layOut 198 = .ok (.invokestatic 86, 3) := by decide +kernel
theorem dX9_layOut_201 : decode cX9_layOut 201 = .ok (.iconst 1, 1) := by decide +kernel
theorem dX9_layOut_202 : decode cX9_layOut 202 = .ok (.isub, 1) := by decide +kernel
theorem dX9_layOut_203 : decode cX9_layOut 203 = .ok (.if_icmp .ne 7, 3) := by decide +kernel
theorem dX9_layOut_206 : decode cX9_layOut 206 = .ok (.iconst 1, 1) := by decide +kernel
theorem dX9_layOut_207 : decode cX9_layOut 207 = .ok (.goto 4, 3) := by decide +kernel
theorem dX9_layOut_210 : decode cX9_layOut 210 = .ok (.iconst 0, 1) := by decide +kernel
theorem dX9_layOut_211 : decode cX9_layOut 211 = .ok (.istore 4, 2) := by decide +kernel
theorem dX9_layOut_213 : decode cX9_layOut 213 = .ok (.iload 4, 2) := by decide +kernel
theorem dX9_layOut_215 : decode cX9_layOut 215 = .ok (.ifCond .eq 87, 3) := by decide +kernel
theorem dX9_layOut_218 : decode cX9_layOut 218 = .ok (.iload 6, 2) := by decide +kernel
theorem dX9_layOut_220 : decode cX9_layOut 220 = .ok (.istore 11, 2) := by decide +kernel
theorem dX9_layOut_222 : decode cX9_layOut 222 = .ok (.iload 11, 2) := by decide +kernel
theorem dX9_layOut_224 : decode cX9_layOut 224 = .ok (.aload_n 0, 1) := by decide +kernel
theorem dX9_layOut_225 : decode cX9_layOut 225 = .ok (.getfield 119, 3) := by decide +kernel
theorem dX9_layOut_228 : decode cX9_layOut 228 = .ok (.if_icmp .ge 25, 3) := by decide +kernel
theorem dX9_layOut_231 : decode cX9_layOut 231 = .ok (.aload_n 0, 1) := by decide +kernel
theorem dX9_layOut_232 : decode cX9_layOut 232 = .ok (.iconst 0, 1) := by decide +kernel
theorem dX9_layOut_233 : decode cX9_layOut 233 = .ok (.iload 11, 2) := by decide +kernel
theorem dX9_layOut_235 : decode cX9_layOut 235 = .ok (.iconst 0, 1) := by decide +kernel
theorem dX9_layOut_236 : decode cX9_layOut 236 = .ok (.invokevirtual 128, 3) := by decide +kernel
theorem dX9_layOut_239 : decode cX9_layOut 239 = .ok (.aload_n 0, 1) := by decide +kernel
theorem dX9_layOut_240 : decode cX9_layOut 240 = .ok (.iconst 1, 1) := by decide +kernel
theorem dX9_layOut_241 : decode cX9_layOut 241 = .ok (.iload 11, 2) := by decide +kernel
theorem dX9_layOut_243 : decode cX9_layOut 243 = .ok (.iconst 0, 1) := by decide +kernel
theorem dX9_layOut_244 : decode cX9_layOut 244 = .ok (.invokevirtual 128, 3) := by decide +kernel
theorem dX9_layOut_247 : decode cX9_layOut 247 = .ok (.iinc 11 1, 3) := by decide +kernel
theorem dX9_layOut_250 : decode cX9_layOut 250 = .ok (.goto (-28), 3) := by decide +kernel
theorem dX9_layOut_253 : decode cX9_layOut 253 = .ok (.aload_n 1, 1) := by decide +kernel
theorem dX9_layOut_254 : decode cX9_layOut 254 = .ok (.iload 7, 2) := by decide +kernel
theorem dX9_layOut_256 : decode cX9_layOut 256 = .ok (.iconst 2, 1) := by decide +kernel
theorem dX9_layOut_257 : decode cX9_layOut 257 = .ok (.invokestatic 82, 3) := by decide +kernel
theorem dX9_layOut_260 : decode cX9_layOut 260 = .ok (.laload, 1) := by decide +kernel
theorem dX9_layOut_261 : decode cX9_layOut 261 = .ok (.l2i, 1) := by decide +kernel
theorem dX9_layOut_262 : decode cX9_layOut 262 = .ok (.istore 11, 2) := by decide +kernel
theorem dX9_layOut_264 : decode cX9_layOut 264 = .ok (.iconst 0, 1) := by decide +kernel
theorem dX9_layOut_265 : decode cX9_layOut 265 = .ok (.istore 12, 2) := by decide +kernel
theorem dX9_layOut_267 : decode cX9_layOut 267 = .ok (.iload 12, 2) := by decide +kernel
theorem dX9_layOut_269 : decode cX9_layOut 269 = .ok (.iload 11, 2) := by decide +kernel
theorem dX9_layOut_271 : decode cX9_layOut 271 = .ok (.if_icmp .ge 21, 3) := by decide +kernel
theorem dX9_layOut_274 : decode cX9_layOut 274 = .ok (.aload_n 0, 1) := by decide +kernel
theorem dX9_layOut_275 : decode cX9_layOut 275 = .ok (.iconst 2, 1) := by decide +kernel
theorem dX9_layOut_276 : decode cX9_layOut 276 = .ok (.iload 7, 2) := by decide +kernel
theorem dX9_layOut_278 : decode cX9_layOut 278 = .ok (.iload 12, 2) := by decide +kernel
theorem dX9_layOut_280 : decode cX9_layOut 280 = .ok (.invokevirtual 128, 3) := by decide +kernel
theorem dX9_layOut_283 : decode cX9_layOut 283 = .ok (.iload 12, 2) := by decide +kernel
theorem dX9_layOut_285 : decode cX9_layOut 285 = .ok (.iload_n 2, 1) := by decide +kernel
theorem dX9_layOut_286 : decode cX9_layOut 286 = .ok (.iadd, 1) := by decide +kernel
theorem dX9_layOut_287 : decode cX9_layOut 287 = .ok (.istore 12, 2) := by decide +kernel
theorem dX9_layOut_289 : decode cX9_layOut 289 = .ok (.goto (-22), 3) := by decide +kernel
theorem dX9_layOut_292 : decode cX9_layOut 292 = .ok (.aload_n 0, 1) := by decide +kernel
theorem dX9_layOut_293 : decode cX9_layOut 293 = .ok (.dup, 1) := by decide +kernel
theorem dX9_layOut_294 : decode cX9_layOut 294 = .ok (.getfield 122, 3) := by decide +kernel
theorem dX9_layOut_297 : decode cX9_layOut 297 = .ok (.iconst 1, 1) := by decide +kernel
theorem dX9_layOut_298 : decode cX9_layOut 298 = .ok (.iadd, 1) := by decide +kernel
theorem dX9_layOut_299 : decode cX9_layOut 299 = .ok (.putfield 122, 3) := by decide +kernel
theorem dX9_layOut_302 : decode cX9_layOut 302 = .ok (.iinc 7 1, 3) := by decide +kernel
theorem dX9_layOut_305 : decode cX9_layOut 305 = .ok (.goto (-278), 3) := by decide +kernel
theorem dX9_layOut_308 : decode cX9_layOut 308 = .ok (.return_, 1) := by decide +kernel
theorem dX9_rowsOf_0 : decode cX9_rowsOf 0 = .ok (.aload_n 0, 1) := by decide +kernel
theorem dX9_rowsOf_1 : decode cX9_rowsOf 1 = .ok (.aload_n 1, 1) := by decide +kernel
theorem dX9_rowsOf_2 : decode cX9_rowsOf 2 = .ok (.aload_n 1, 1) := by decide +kernel
theorem dX9_rowsOf_3 : decode cX9_rowsOf 3 = .ok (.iconst 2, 1) := by decide +kernel
theorem dX9_rowsOf_4 : decode cX9_rowsOf 4 = .ok (.laload, 1) := by decide +kernel
theorem dX9_rowsOf_5 : decode cX9_rowsOf 5 = .ok (.l2i, 1) := by decide +kernel
theorem dX9_rowsOf_6 : decode cX9_rowsOf 6 = .ok (.aload_n 1, 1) := by decide +kernel
theorem dX9_rowsOf_7 : decode cX9_rowsOf 7 = .ok (.iconst 4, 1) := by decide +kernel
theorem dX9_rowsOf_8 : decode cX9_rowsOf 8 = .ok (.laload, 1) := by decide +kernel
theorem dX9_rowsOf_9 : decode cX9_rowsOf 9 = .ok (.l2i, 1) := by decide +kernel
theorem dX9_rowsOf_10 : decode cX9_rowsOf 10 = .ok (.invokevirtual 132, 3) := by decide +kernel
theorem dX9_rowsOf_13 : decode cX9_rowsOf 13 = .ok (.aload_n 0, 1) := by decide +kernel
theorem dX9_rowsOf_14 : decode cX9_rowsOf 14 = .ok (.getfield 116, 3) := by decide +kernel
theorem dX9_rowsOf_17 : decode cX9_rowsOf 17 = .ok (.ireturn, 1) := by decide +kernel
theorem dX9_sentencesOf_0 : decode cX9_sentencesOf 0 = .ok (.aload_n 0, 1) := by decide +kernel
theorem dX9_sentencesOf_1 : decode cX9_sentencesOf 1 = .ok (.aload_n 1, 1) := by decide +kernel
theorem dX9_sentencesOf_2 : decode cX9_sentencesOf 2 = .ok (.aload_n 1, 1) := by decide +kernel
theorem dX9_sentencesOf_3 : decode cX9_sentencesOf 3 = .ok (.iconst 2, 1) := by decide +kernel
theorem dX9_sentencesOf_4 : decode cX9_sentencesOf 4 = .ok (.laload, 1) := by decide +kernel
theorem dX9_sentencesOf_5 : decode cX9_sentencesOf 5 = .ok (.l2i, 1) := by decide +kernel
theorem dX9_sentencesOf_6 : decode cX9_sentencesOf 6 = .ok (.aload_n 1, 1) := by decide +kernel
theorem dX9_sentencesOf_7 : decode cX9_sentencesOf 7 = .ok (.iconst 4, 1) := by decide +kernel
theorem dX9_sentencesOf_8 : decode cX9_sentencesOf 8 = .ok (.laload, 1) := by decide +kernel
theorem dX9_sentencesOf_9 : decode cX9_sentencesOf 9 = .ok (.l2i, 1) := by decide +kernel
theorem dX9_sentencesOf_10 : decode cX9_sentencesOf 10 = .ok (.invokevirtual 132, 3) := by decide +kernel
theorem dX9_sentencesOf_13 : decode cX9_sentencesOf 13 = .ok (.aload_n 0, 1) := by decide +kernel
theorem dX9_sentencesOf_14 : decode cX9_sentencesOf 14 = .ok (.getfield 122, 3) := by decide +kernel
theorem dX9_sentencesOf_17 : decode cX9_sentencesOf 17 = .ok (.ireturn, 1) := by decide +kernel
theorem dX9_freeChar_0 : decode cX9_freeChar 0 = .ok (.aload_n 0, 1) := by decide +kernel
theorem dX9_freeChar_1 : decode cX9_freeChar 1 = .ok (.iload_n 1, 1) := by decide +kernel
theorem dX9_freeChar_2 : decode cX9_freeChar 2 = .ok (.iconst 3, 1) := by decide +kernel
theorem dX9_freeChar_3 : decode cX9_freeChar 3 = .ok (.iload_n 2, 1) := by decide +kernel
theorem dX9_freeChar_4 : decode cX9_freeChar 4 = .ok (.bipush 8, 2) := by decide +kernel
theorem dX9_freeChar_6 : decode cX9_freeChar 6 = .ok (.idiv, 1) := by decide +kernel
theorem dX9_freeChar_7 : decode cX9_freeChar 7 = .ok (.iadd, 1) := by decide +kernel
theorem dX9_freeChar_8 : decode cX9_freeChar 8 = .ok (.invokestatic 82, 3) := by decide +kernel
theorem dX9_freeChar_11 : decode cX9_freeChar 11 = .ok (.laload, 1) := by decide +kernel
theorem dX9_freeChar_12 : decode cX9_freeChar 12 = .ok (.bipush 7, 2) := by decide +kernel
theorem dX9_freeChar_14 : decode cX9_freeChar 14 = .ok (.iload_n 2, 1) := by decide +kernel
theorem dX9_freeChar_15 : decode cX9_freeChar 15 = .ok (.bipush 8, 2) := by decide +kernel
theorem dX9_freeChar_17 : decode cX9_freeChar 17 = .ok (.irem, 1) := by decide +kernel
theorem dX9_freeChar_18 : decode cX9_freeChar 18 = .ok (.imul, 1) := by decide +kernel
theorem dX9_freeChar_19 : decode cX9_freeChar 19 = .ok (.lshr, 1) := by decide +kernel
theorem dX9_freeChar_20 : decode cX9_freeChar 20 = .ok (.ldc2_w 136, 3) := by decide +kernel
theorem dX9_freeChar_23 : decode cX9_freeChar 23 = .ok (.land, 1) := by decide +kernel
theorem dX9_freeChar_24 : decode cX9_freeChar 24 = .ok (.l2i, 1) := by decide +kernel
theorem dX9_freeChar_25 : decode cX9_freeChar 25 = .ok (.ireturn, 1) := by decide +kernel
theorem dX9_shown_0 : decode cX9_shown 0 = .ok (.iconst 0, 1) := by decide +kernel
theorem dX9_shown_1 : decode cX9_shown 1 = .ok (.istore 5, 2) := by decide +kernel
theorem dX9_shown_3 : decode cX9_shown 3 = .ok (.iconst 0, 1) := by decide +kernel
theorem dX9_shown_4 : decode cX9_shown 4 = .ok (.istore 6, 2) := by decide +kernel
theorem dX9_shown_6 : decode cX9_shown 6 = .ok (.iload 6, 2) := by decide +kernel
theorem dX9_shown_8 : decode cX9_shown 8 = .ok (.aload_n 0, 1) := by decide +kernel
theorem dX9_shown_9 : decode cX9_shown 9 = .ok (.iload_n 1, 1) := by decide +kernel
theorem dX9_shown_10 : decode cX9_shown 10 = .ok (.invokestatic 98, 3) := by decide +kernel
theorem dX9_shown_13 : decode cX9_shown 13 = .ok (.if_icmp .ge 170, 3) := by decide +kernel
theorem dX9_shown_16 : decode cX9_shown 16 = .ok (.aload_n 0, 1) := by decide +kernel
theorem dX9_shown_17 : decode cX9_shown 17 = .ok (.iload_n 1, 1) := by decide +kernel
theorem dX9_shown_18 : decode cX9_shown 18 = .ok (.iload 6, 2) := by decide +kernel
theorem dX9_shown_20 : decode cX9_shown 20 = .ok (.invokestatic 109, 3) := by decide +kernel
theorem dX9_shown_23 : decode cX9_shown 23 = .ok (.laload, 1) := by decide +kernel
theorem dX9_shown_24 : decode cX9_shown 24 = .ok (.invokestatic 105, 3) := by decide +kernel
theorem dX9_shown_27 : decode cX9_shown 27 = .ok (.istore 7, 2) := by decide +kernel
theorem dX9_shown_29 : decode cX9_shown 29 = .ok (.aload_n 0, 1) := by decide +kernel
theorem dX9_shown_30 : decode cX9_shown 30 = .ok (.iload_n 1, 1) := by decide +kernel
theorem dX9_shown_31 : decode cX9_shown 31 = .ok (.iload 6, 2) := by decide +kernel
theorem dX9_shown_33 : decode cX9_shown 33 = .ok (.invokestatic 112, 3) := by decide +kernel
theorem dX9_shown_36 : decode cX9_shown 36 = .ok (.istore 8, 2) := by decide +kernel
theorem dX9_shown_38 : decode cX9_shown 38 = .ok (.iload_n 2, 1) := by decide +kernel
theorem dX9_shown_39 : decode cX9_shown 39 = .ok (.ifCond .eq 8, 3) := by decide +kernel
theorem dX9_shown_42 : decode cX9_shown 42 = .ok (.iload 8, 2) := by decide +kernel
theorem dX9_shown_44 : decode cX9_shown 44 = .ok (.goto 5, 3) := by decide +kernel
theorem dX9_shown_47 : decode cX9_shown 47 = .ok (.iload 7, 2) := by decide +kernel
theorem dX9_shown_49 : decode cX9_shown 49 = .ok (.istore 9, 2) := by decide +kernel
theorem dX9_shown_51 : decode cX9_shown 51 = .ok (.iload_n 3, 1) := by decide +kernel
theorem dX9_shown_52 : decode cX9_shown 52 = .ok (.ifCond .ne 8, 3) := by decide +kernel
theorem dX9_shown_55 : decode cX9_shown 55 = .ok (.iload 9, 2) := by decide +kernel
theorem dX9_shown_57 : decode cX9_shown 57 = .ok (.goto 17, 3) := by decide +kernel
theorem dX9_shown_60 : decode cX9_shown 60 = .ok (.iload 7, 2) := by decide +kernel
theorem dX9_shown_62 : decode cX9_shown 62 = .ok (.iload 8, 2) := by decide +kernel
theorem dX9_shown_64 : decode cX9_shown 64 = .ok (.if_icmp .le 8, 3) := by decide +kernel
theorem dX9_shown_67 : decode cX9_shown 67 = .ok (.iload 7, 2) := by decide +kernel
theorem dX9_shown_69 : decode cX9_shown 69 = .ok (.goto 5, 3) := by decide +kernel
theorem dX9_shown_72 : decode cX9_shown 72 = .ok (.iload 8, 2) := by decide +kernel
theorem dX9_shown_74 : decode cX9_shown 74 = .ok (.istore 10, 2) := by decide +kernel
theorem dX9_shown_76 : decode cX9_shown 76 = .ok (.iload 6, 2) := by decide +kernel
theorem dX9_shown_78 : decode cX9_shown 78 = .ok (.ifCond .le 23, 3) := by decide +kernel
theorem dX9_shown_81 : decode cX9_shown 81 = .ok (.iload 4, 2) := by decide +kernel
theorem dX9_shown_83 : decode cX9_shown 83 = .ok (.iload 5, 2) := by decide +kernel
theorem dX9_shown_85 : decode cX9_shown 85 = .ok (.if_icmp .ne 13, 3) := by decide +kernel
theorem dX9_shown_88 : decode cX9_shown 88 = .ok (.aload_n 0, 1) := by decide +kernel
theorem dX9_shown_89 : decode cX9_shown 89 = .ok (.iload_n 1, 1) := by decide +kernel
theorem dX9_shown_90 : decode cX9_shown 90 = .ok (.iload 6, 2) := by decide +kernel
theorem dX9_shown_92 : decode cX9_shown 92 = .ok (.invokestatic 138, 3) := by decide +kernel
theorem dX9_shown_95 : decode cX9_shown 95 = .ok (.laload, 1) := by decide +kernel
theorem dX9_shown_96 : decode cX9_shown 96 = .ok (.l2i, 1) := by decide +kernel
theorem dX9_shown_97 : decode cX9_shown 97 = .ok (.ireturn, 1) := by decide +kernel
theorem dX9_shown_98 : decode cX9_shown 98 = .ok (.iinc 5 1, 3) := by decide +kernel
theorem dX9_shown_101 : decode cX9_shown 101 = .ok (.iload 4, 2) := by decide +kernel
theorem dX9_shown_103 : decode cX9_shown 103 = .ok (.iload 5, 2) := by decide +kernel
theorem dX9_shown_105 : decode cX9_shown 105 = .ok (.if_icmp .lt 65, 3) := by decide +kernel
theorem dX9_shown_108 : decode cX9_shown 108 = .ok (.iload 4, 2) := by decide +kernel
theorem dX9_shown_110 : decode cX9_shown 110 = .ok (.iload 5, 2) := by decide +kernel
theorem dX9_shown_112 : decode cX9_shown 112 = .ok (.iload 9, 2) := by decide +kernel
theorem dX9_shown_114 : decode cX9_shown 114 = .ok (.iadd, 1) := by decide +kernel
theorem dX9_shown_115 : decode cX9_shown 115 = .ok (.if_icmp .ge 55, 3) := by decide +kernel
theorem dX9_shown_118 : decode cX9_shown 118 = .ok (.iload_n 2, 1) := by decide +kernel
theorem dX9_shown_119 : decode cX9_shown 119 = .ok (.ifCond .eq 14, 3) := by decide +kernel
theorem dX9_shown_122 : decode cX9_shown 122 = .ok (.aload_n 0, 1) := by decide +kernel
theorem dX9_shown_123 : decode cX9_shown 123 = .ok (.iload_n 1, 1) := by decide +kernel
theorem dX9_shown_124 : decode cX9_shown 124 = .ok (.iload 6, 2) := by decide +kernel
theorem dX9_shown_126 : decode cX9_shown 126 = .ok (.invokestatic 102, 3) := by decide +kernel
theorem dX9_shown_129 : decode cX9_shown 129 = .ok (.laload, 1) := by decide +kernel
theorem dX9_shown_130 : decode cX9_shown 130 = .ok (.goto 11, 3) := by decide +kernel
theorem dX9_shown_133 : decode cX9_shown 133 = .ok (.aload_n 0, 1) := by decide +kernel
theorem dX9_shown_134 : decode cX9_shown 134 = .ok (.iload_n 1, 1) := by decide +kernel
theorem dX9_shown_135 : decode cX9_shown 135 = .ok (.iload 6, 2) := by decide +kernel
theorem dX9_shown_137 : decode cX9_shown 137 = .ok (.invokestatic 109, 3) := by decide +kernel
theorem dX9_shown_140 : decode cX9_shown 140 = .ok (.laload, 1) := by decide +kernel
theorem dX9_shown_141 : decode cX9_shown 141 = .ok (.lstore 11, 2) := by decide +kernel
theorem dX9_shown_143 : decode cX9_shown 143 = .ok (.iload_n 2, 1) := by decide +kernel
theorem dX9_shown_144 : decode cX9_shown 144 = .ok (.ifCond .eq 15, 3) := by decide +kernel
theorem dX9_shown_147 : decode cX9_shown 147 = .ok (.lload 11, 2) := by decide +kernel
theorem dX9_shown_149 : decode cX9_shown 149 = .ok (.lconst 0, 1) := by decide +kernel
theorem dX9_shown_150 : decode cX9_shown 150 = .ok (.lcmp, 1) := by decide +kernel
theorem dX9_shown_151 : decode cX9_shown 151 = .ok (.ifCond .ne 8, 3) := by decide +kernel
theorem dX9_shown_154 : decode cX9_shown 154 = .ok (.bipush 42, 2) := by decide +kernel
theorem dX9_shown_156 : decode cX9_shown 156 = .ok (.goto 13, 3) := by decide +kernel
theorem dX9_shown_159 : decode cX9_shown 159 = .ok (.lload 11, 2) := by decide +kernel
theorem dX9_shown_161 : decode cX9_shown 161 = .ok (.iload 4, 2) := by decide +kernel
theorem dX9_shown_163 : decode cX9_shown 163 = .ok (.iload 5, 2) := by decide +kernel
theorem dX9_shown_165 : decode cX9_shown 165 = .ok (.isub, 1) := by decide +kernel
theorem dX9_shown_166 : decode cX9_shown 166 = .ok (.invokestatic 141, 3) := by decide +kernel
theorem dX9_shown_169 : decode cX9_shown 169 = .ok (.ireturn, 1) := by decide +kernel
theorem dX9_shown_170 : decode cX9_shown 170 = .ok (.iload 5, 2) := by decide +kernel
theorem dX9_shown_172 : decode cX9_shown 172 = .ok (.iload 10, 2) := by decide +kernel
theorem dX9_shown_174 : decode cX9_shown 174 = .ok (.iadd, 1) := by decide +kernel
theorem dX9_shown_175 : decode cX9_shown 175 = .ok (.istore 5, 2) := by decide +kernel
theorem dX9_shown_177 : decode cX9_shown 177 = .ok (.iinc 6 1, 3) := by decide +kernel
theorem dX9_shown_180 : decode cX9_shown 180 = .ok (.goto (-174), 3) := by decide +kernel
theorem dX9_shown_183 : decode cX9_shown 183 = .ok (.bipush 32, 2) := by decide +kernel
theorem dX9_shown_185 : decode cX9_shown 185 = .ok (.ireturn, 1) := by decide +kernel
theorem dX9_entryOf_0 : decode cX9_entryOf 0 = .ok (.iconst 0, 1) := by decide +kernel
theorem dX9_entryOf_1 : decode cX9_entryOf 1 = .ok (.istore_n 3, 1) := by decide +kernel
theorem dX9_entryOf_2 : decode cX9_entryOf 2 = .ok (.iload_n 3, 1) := by decide +kernel
theorem dX9_entryOf_3 : decode cX9_entryOf 3 = .ok (.i2l, 1) := by decide +kernel
theorem dX9_entryOf_4 : decode cX9_entryOf 4 = .ok (.aload_n 0, 1) := by decide +kernel
theorem dX9_entryOf_5 : decode cX9_entryOf 5 = .ok (.iconst 1, 1) := by decide +kernel
theorem dX9_entryOf_6 : decode cX9_entryOf 6 = .ok (.laload, 1) := by decide +kernel
theorem dX9_entryOf_7 : decode cX9_entryOf 7 = .ok (.lcmp, 1) := by decide +kernel
theorem dX9_entryOf_8 : decode cX9_entryOf 8 = .ok (.ifCond .ge 25, 3) := by decide +kernel
theorem dX9_entryOf_11 : decode cX9_entryOf 11 = .ok (.aload_n 0, 1) := by decide +kernel
theorem dX9_entryOf_12 : decode cX9_entryOf 12 = .ok (.sipush 221, 3) := by decide +kernel
theorem dX9_entryOf_15 : decode cX9_entryOf 15 = .ok (.iconst 2, 1) := by decide +kernel
theorem dX9_entryOf_16 : decode cX9_entryOf 16 = .ok (.iload_n 3, 1) := by decide +kernel
theorem dX9_entryOf_17 : decode cX9_entryOf 17 = .ok (.imul, 1) := by decide +kernel
theorem dX9_entryOf_18 : decode cX9_entryOf 18 = .ok (.iadd, 1) := by decide +kernel
theorem dX9_entryOf_19 : decode cX9_entryOf 19 = .ok (.laload, 1) := by decide +kernel
theorem dX9_entryOf_20 : decode cX9_entryOf 20 = .ok (.lload_n 1, 1) := by decide +kernel
theorem dX9_entryOf_21 : decode cX9_entryOf 21 = .ok (.lcmp, 1) := by decide +kernel
theorem dX9_entryOf_22 : decode cX9_entryOf 22 = .ok (.ifCond .ne 5, 3) := by decide +kernel
theorem dX9_entryOf_25 : decode cX9_entryOf 25 = .ok (.iload_n 3, 1) := by decide +kernel
theorem dX9_entryOf_26 : decode cX9_entryOf 26 = .ok (.ireturn, 1) := by decide +kernel
theorem dX9_entryOf_27 : decode cX9_entryOf 27 = .ok (.iinc 3 1, 3) := by decide +kernel
theorem dX9_entryOf_30 : decode cX9_entryOf 30 = .ok (.goto (-28), 3) := by decide +kernel
theorem dX9_entryOf_33 : decode cX9_entryOf 33 = .ok (.bipush (-9), 2) := by decide +kernel
theorem dX9_entryOf_35 : decode cX9_entryOf 35 = .ok (.ireturn, 1) := by decide +kernel
theorem dX9_learnOn_0 : decode cX9_learnOn 0 = .ok (.aload_n 0, 1) := by decide +kernel
theorem dX9_learnOn_1 : decode cX9_learnOn 1 = .ok (.iload_n 1, 1) := by decide +kernel
theorem dX9_learnOn_2 : decode cX9_learnOn 2 = .ok (.iload_n 2, 1) := by decide +kernel
theorem dX9_learnOn_3 : decode cX9_learnOn 3 = .ok (.invokestatic 109, 3) := by decide +kernel
theorem dX9_learnOn_6 : decode cX9_learnOn 6 = .ok (.laload, 1) := by decide +kernel
theorem dX9_learnOn_7 : decode cX9_learnOn 7 = .ok (.lstore_n 3, 1) := by decide +kernel
theorem dX9_learnOn_8 : decode cX9_learnOn 8 = .ok (.aload_n 0, 1) := by decide +kernel
theorem dX9_learnOn_9 : decode cX9_learnOn 9 = .ok (.lload_n 3, 1) := by decide +kernel
theorem dX9_learnOn_10 : decode cX9_learnOn 10 = .ok (.invokestatic 145, 3) := by decide +kernel
theorem dX9_learnOn_13 : decode cX9_learnOn 13 = .ok (.istore 5, 2) := by decide +kernel
theorem dX9_learnOn_15 : decode cX9_learnOn 15 = .ok (.iload 5, 2) := by decide +kernel
theorem dX9_learnOn_17 : decode cX9_learnOn 17 = .ok (.ifCond .ge 90, 3) := by decide +kernel
theorem dX9_learnOn_20 : decode cX9_learnOn 20 = .ok (.aload_n 0, 1) := by decide +kernel
theorem dX9_learnOn_21 : decode cX9_learnOn 21 = .ok (.iconst 1, 1) := by decide +kernel
theorem dX9_learnOn_22 : decode cX9_learnOn 22 = .ok (.laload, 1) := by decide +kernel
theorem dX9_learnOn_23 : decode cX9_learnOn 23 = .ok (.l2i, 1) := by decide +kernel
theorem dX9_learnOn_24 : decode cX9_learnOn 24 = .ok (.istore 5, 2) := by decide +kernel
theorem dX9_learnOn_26 : decode cX9_learnOn 26 = .ok (.iload 5, 2) := by decide +kernel
theorem dX9_learnOn_28 : decode cX9_learnOn 28 = .ok (.ifCond .le 72, 3) := by decide +kernel
theorem dX9_learnOn_31 : decode cX9_learnOn 31 = .ok (.aload_n 0, 1) := by decide +kernel
theorem dX9_learnOn_32 : decode cX9_learnOn 32 = .ok (.sipush 221, 3) := by decide +kernel
theorem dX9_learnOn_35 : decode cX9_learnOn 35 = .ok (.iconst 2, 1) := by decide +kernel
theorem dX9_learnOn_36 : decode cX9_learnOn 36 = .ok (.iload 5, 2) := by decide +kernel
theorem dX9_learnOn_38 : decode cX9_learnOn 38 = .ok (.imul, 1) := by decide +kernel
theorem dX9_learnOn_39 : decode cX9_learnOn 39 = .ok (.iadd, 1) := by decide +kernel
theorem dX9_learnOn_40 : decode cX9_learnOn 40 = .ok (.iconst 2, 1) := by decide +kernel
theorem dX9_learnOn_41 : decode cX9_learnOn 41 = .ok (.isub, 1) := by decide +kernel
theorem dX9_learnOn_42 : decode cX9_learnOn 42 = .ok (.laload, 1) := by decide +kernel
theorem dX9_learnOn_43 : decode cX9_learnOn 43 = .ok (.lload_n 3, 1) := by decide +kernel
theorem dX9_learnOn_44 : decode cX9_learnOn 44 = .ok (.lcmp, 1) := by decide +kernel
theorem dX9_learnOn_45 : decode cX9_learnOn 45 = .ok (.ifCond .le 55, 3) := by decide +kernel
theorem dX9_learnOn_48 : decode cX9_learnOn 48 = .ok (.aload_n 0, 1) := by decide +kernel
theorem dX9_learnOn_49 : decode cX9_learnOn 49 = .ok (.sipush 221, 3) := by decide +kernel
theorem dX9_learnOn_52 : decode cX9_learnOn 52 = .ok (.iconst 2, 1) := by decide +kernel
theorem dX9_learnOn_53 : decode cX9_learnOn 53 = .ok (.iload 5, 2) := by decide +kernel
theorem dX9_learnOn_55 : decode cX9_learnOn 55 = .ok (.imul, 1) := by decide +kernel
theorem dX9_learnOn_56 : decode cX9_learnOn 56 = .ok (.iadd, 1) := by decide +kernel
theorem dX9_learnOn_57 : decode cX9_learnOn 57 = .ok (.aload_n 0, 1) := by decide +kernel
theorem dX9_learnOn_58 : decode cX9_learnOn 58 = .ok (.sipush 221, 3) := by decide +kernel
theorem dX9_learnOn_61 : decode cX9_learnOn 61 = .ok (.iconst 2, 1) := by decide +kernel
theorem dX9_learnOn_62 : decode cX9_learnOn 62 = .ok (.iload 5, 2) := by decide +kernel
theorem dX9_learnOn_64 : decode cX9_learnOn 64 = .ok (.imul, 1) := by decide +kernel
theorem dX9_learnOn_65 : decode cX9_learnOn 65 = .ok (.iadd, 1) := by decide +kernel
theorem dX9_learnOn_66 : decode cX9_learnOn 66 = .ok (.iconst 2, 1) := by decide +kernel
theorem dX9_learnOn_67 : decode cX9_learnOn 67 = .ok (.isub, 1) := by decide +kernel
theorem dX9_learnOn_68 : decode cX9_learnOn 68 = .ok (.laload, 1) := by decide +kernel
theorem dX9_learnOn_69 : decode cX9_learnOn 69 = .ok (.lastore, 1) := by decide +kernel
theorem dX9_learnOn_70 : decode cX9_learnOn 70 = .ok (.aload_n 0, 1) := by decide +kernel
theorem dX9_learnOn_71 : decode cX9_learnOn 71 = .ok (.sipush 221, 3) := by decide +kernel
theorem dX9_learnOn_74 : decode cX9_learnOn 74 = .ok (.iconst 2, 1) := by decide +kernel
theorem dX9_learnOn_75 : decode cX9_learnOn 75 = .ok (.iload 5, 2) := by decide +kernel
theorem dX9_learnOn_77 : decode cX9_learnOn 77 = .ok (.imul, 1) := by decide +kernel
theorem dX9_learnOn_78 : decode cX9_learnOn 78 = .ok (.iadd, 1) := by decide +kernel
theorem dX9_learnOn_79 : decode cX9_learnOn 79 = .ok (.iconst 1, 1) := by decide +kernel
theorem dX9_learnOn_80 : decode cX9_learnOn 80 = .ok (.iadd, 1) := by decide +kernel
theorem dX9_learnOn_81 : decode cX9_learnOn 81 = .ok (.aload_n 0, 1) := by decide +kernel
theorem dX9_learnOn_82 : decode cX9_learnOn 82 = .ok (.sipush 221, 3) := by decide +kernel
theorem dX9_learnOn_85 : decode cX9_learnOn 85 = .ok (.iconst 2, 1) := by decide +kernel
theorem dX9_learnOn_86 : decode cX9_learnOn 86 = .ok (.iload 5, 2) := by decide +kernel
theorem dX9_learnOn_88 : decode cX9_learnOn 88 = .ok (.imul, 1) := by decide +kernel
theorem dX9_learnOn_89 : decode cX9_learnOn 89 = .ok (.iadd, 1) := by decide +kernel
theorem dX9_learnOn_90 : decode cX9_learnOn 90 = .ok (.iconst 1, 1) := by decide +kernel
theorem dX9_learnOn_91 : decode cX9_learnOn 91 = .ok (.isub, 1) := by decide +kernel
theorem dX9_learnOn_92 : decode cX9_learnOn 92 = .ok (.laload, 1) := by decide +kernel
theorem dX9_learnOn_93 : decode cX9_learnOn 93 = .ok (.lastore, 1) := by decide +kernel
theorem dX9_learnOn_94 : decode cX9_learnOn 94 = .ok (.iinc 5 (-1), 3) := by decide +kernel
theorem dX9_learnOn_97 : decode cX9_learnOn 97 = .ok (.goto (-71), 3) := by decide +kernel
theorem dX9_learnOn_100 : decode cX9_learnOn 100 = .ok (.aload_n 0, 1) := by decide +kernel
theorem dX9_learnOn_101 : decode cX9_learnOn 101 = .ok (.iconst 1, 1) := by decide +kernel
theorem dX9_learnOn_102 : decode cX9_learnOn 102 = .ok (.dup2, 1) := by decide +kernel
theorem dX9_learnOn_103 : decode cX9_learnOn 103 = .ok (.laload, 1) := by decide +kernel
theorem dX9_learnOn_104 : decode cX9_learnOn 104 = .ok (.lconst 1, 1) := by decide +kernel
theorem dX9_learnOn_105 : decode cX9_learnOn 105 = .ok (.ladd, 1) := by decide +kernel
theorem dX9_learnOn_106 : decode cX9_learnOn 106 = .ok (.lastore, 1) := by decide +kernel
theorem dX9_learnOn_107 : decode cX9_learnOn 107 = .ok (.aload_n 0, 1) := by decide +kernel
theorem dX9_learnOn_108 : decode cX9_learnOn 108 = .ok (.sipush 221, 3) := by decide +kernel
theorem dX9_learnOn_111 : decode cX9_learnOn 111 = .ok (.iconst 2, 1) := by decide +kernel
theorem dX9_learnOn_112 : decode cX9_learnOn 112 = .ok (.iload 5, 2) := by decide +kernel
theorem dX9_learnOn_114 : decode cX9_learnOn 114 = .ok (.imul, 1) := by decide +kernel
theorem dX9_learnOn_115 : decode cX9_learnOn 115 = .ok (.iadd, 1) := by decide +kernel
theorem dX9_learnOn_116 : decode cX9_learnOn 116 = .ok (.lload_n 3, 1) := by decide +kernel
theorem dX9_learnOn_117 : decode cX9_learnOn 117 = .ok (.lastore, 1) := by decide +kernel
theorem dX9_learnOn_118 : decode cX9_learnOn 118 = .ok (.aload_n 0, 1) := by decide +kernel
theorem dX9_learnOn_119 : decode cX9_learnOn 119 = .ok (.sipush 221, 3) := by decide +kernel
theorem dX9_learnOn_122 : decode cX9_learnOn 122 = .ok (.iconst 2, 1) := by decide +kernel
theorem dX9_learnOn_123 : decode cX9_learnOn 123 = .ok (.iload 5, 2) := by decide +kernel
theorem dX9_learnOn_125 : decode cX9_learnOn 125 = .ok (.imul, 1) := by decide +kernel
theorem dX9_learnOn_126 : decode cX9_learnOn 126 = .ok (.iadd, 1) := by decide +kernel
theorem dX9_learnOn_127 : decode cX9_learnOn 127 = .ok (.iconst 1, 1) := by decide +kernel
theorem dX9_learnOn_128 : decode cX9_learnOn 128 = .ok (.iadd, 1) := by decide +kernel
theorem dX9_learnOn_129 : decode cX9_learnOn 129 = .ok (.aload_n 0, 1) := by decide +kernel
theorem dX9_learnOn_130 : decode cX9_learnOn 130 = .ok (.iload_n 1, 1) := by decide +kernel
theorem dX9_learnOn_131 : decode cX9_learnOn 131 = .ok (.iload_n 2, 1) := by decide +kernel
theorem dX9_learnOn_132 : decode cX9_learnOn 132 = .ok (.invokestatic 102, 3) := by decide +kernel
theorem dX9_learnOn_135 : decode cX9_learnOn 135 = .ok (.laload, 1) := by decide +kernel
theorem dX9_learnOn_136 : decode cX9_learnOn 136 = .ok (.lastore, 1) := by decide +kernel
theorem dX9_learnOn_137 : decode cX9_learnOn 137 = .ok (.return_, 1) := by decide +kernel
theorem dX9_canLearn_0 : decode cX9_canLearn 0 = .ok (.aload_n 0, 1) := by decide +kernel
theorem dX9_canLearn_1 : decode cX9_canLearn 1 = .ok (.iload_n 1, 1) := by decide +kernel
theorem dX9_canLearn_2 : decode cX9_canLearn 2 = .ok (.iload_n 2, 1) := by decide +kernel
theorem dX9_canLearn_3 : decode cX9_canLearn 3 = .ok (.invokestatic 102, 3) := by decide +kernel
theorem dX9_canLearn_6 : decode cX9_canLearn 6 = .ok (.laload, 1) := by decide +kernel
theorem dX9_canLearn_7 : decode cX9_canLearn 7 = .ok (.lconst 0, 1) := by decide +kernel
theorem dX9_canLearn_8 : decode cX9_canLearn 8 = .ok (.lcmp, 1) := by decide +kernel
theorem dX9_canLearn_9 : decode cX9_canLearn 9 = .ok (.ifCond .eq 31, 3) := by decide +kernel
theorem dX9_canLearn_12 : decode cX9_canLearn 12 = .ok (.aload_n 0, 1) := by decide +kernel
theorem dX9_canLearn_13 : decode cX9_canLearn 13 = .ok (.iconst 1, 1) := by decide +kernel
theorem dX9_canLearn_14 : decode cX9_canLearn 14 = .ok (.laload, 1) := by decide +kernel
theorem dX9_canLearn_15 : decode cX9_canLearn 15 = .ok (.ldc2_w 149, 3) := by decide +kernel
theorem dX9_canLearn_18 : decode cX9_canLearn 18 = .ok (.lcmp, 1) := by decide +kernel
theorem dX9_canLearn_19 : decode cX9_canLearn 19 = .ok (.ifCond .lt 17, 3) := by decide +kernel
theorem dX9_canLearn_22 : decode cX9_canLearn 22 = .ok (.aload_n 0, 1) := by decide +kernel
theorem dX9_canLearn_23 : decode cX9_canLearn 23 = .ok (.aload_n 0, 1) := by decide +kernel
theorem dX9_canLearn_24 : decode cX9_canLearn 24 = .ok (.iload_n 1, 1) := by decide +kernel
theorem dX9_canLearn_25 : decode cX9_canLearn 25 = .ok (.iload_n 2, 1) := by decide +kernel
theorem dX9_canLearn_26 : decode cX9_canLearn 26 = .ok (.invokestatic 109, 3) := by decide +kernel
theorem dX9_canLearn_29 : decode cX9_canLearn 29 = .ok (.laload, 1) := by decide +kernel
theorem dX9_canLearn_30 : decode cX9_canLearn 30 = .ok (.invokestatic 145, 3) := by decide +kernel
theorem dX9_canLearn_33 : decode cX9_canLearn 33 = .ok (.ifCond .lt 7, 3) := by decide +kernel
theorem dX9_canLearn_36 : decode cX9_canLearn 36 = .ok (.iconst 1, 1) := by decide +kernel
theorem dX9_canLearn_37 : decode cX9_canLearn 37 = .ok (.goto 4, 3) := by decide +kernel
theorem dX9_canLearn_40 : decode cX9_canLearn 40 = .ok (.iconst 0, 1) := by decide +kernel
theorem dX9_canLearn_41 : decode cX9_canLearn 41 = .ok (.ireturn, 1) := by decide +kernel
theorem dX9_fillOn_0 : decode cX9_fillOn 0 = .ok (.iconst 0, 1) := by decide +kernel
theorem dX9_fillOn_1 : decode cX9_fillOn 1 = .ok (.istore_n 1, 1) := by decide +kernel
theorem dX9_fillOn_2 : decode cX9_fillOn 2 = .ok (.iconst 0, 1) := by decide +kernel
theorem dX9_fillOn_3 : decode cX9_fillOn 3 = .ok (.istore_n 2, 1) := by decide +kernel
theorem dX9_fillOn_4 : decode cX9_fillOn 4 = .ok (.iload_n 2, 1) := by decide +kernel
theorem dX9_fillOn_5 : decode cX9_fillOn 5 = .ok (.aload_n 0, 1) := by decide +kernel
theorem dX9_fillOn_6 : decode cX9_fillOn 6 = .ok (.invokestatic 86, 3) := by decide +kernel
theorem dX9_fillOn_9 : decode cX9_fillOn 9 = .ok (.if_icmp .ge 83, 3) := by decide +kernel
theorem dX9_fillOn_12 : decode cX9_fillOn 12 = .ok (.iconst 0, 1) := by decide +kernel
theorem dX9_fillOn_13 : decode cX9_fillOn 13 = .ok (.istore_n 3, 1) := by decide +kernel
theorem dX9_fillOn_14 : decode cX9_fillOn 14 = .ok (.iload_n 3, 1) := by decide +kernel
theorem dX9_fillOn_15 : decode cX9_fillOn 15 = .ok (.aload_n 0, 1) := by decide +kernel
theorem dX9_fillOn_16 : decode cX9_fillOn 16 = .ok (.iload_n 2, 1) := by decide +kernel
theorem dX9_fillOn_17 : decode cX9_fillOn 17 = .ok (.invokestatic 98, 3) := by decide +kernel
theorem dX9_fillOn_20 : decode cX9_fillOn 20 = .ok (.if_icmp .ge 66, 3) := by decide +kernel
theorem dX9_fillOn_23 : decode cX9_fillOn 23 = .ok (.aload_n 0, 1) := by decide +kernel
theorem dX9_fillOn_24 : decode cX9_fillOn 24 = .ok (.iload_n 2, 1) := by decide +kernel
theorem dX9_fillOn_25 : decode cX9_fillOn 25 = .ok (.iload_n 3, 1) := by decide +kernel
theorem dX9_fillOn_26 : decode cX9_fillOn 26 = .ok (.invokestatic 102, 3) := by decide +kernel
theorem dX9_fillOn_29 : decode cX9_fillOn 29 = .ok (.laload, 1) := by decide +kernel
theorem dX9_fillOn_30 : decode cX9_fillOn 30 = .ok (.lconst 0, 1) := by decide +kernel
theorem dX9_fillOn_31 : decode cX9_fillOn 31 = .ok (.lcmp, 1) := by decide +kernel
theorem dX9_fillOn_32 : decode cX9_fillOn 32 = .ok (.ifCond .ne 17, 3) := by decide +kernel
theorem dX9_fillOn_35 : decode cX9_fillOn 35 = .ok (.aload_n 0, 1) := by decide +kernel
theorem dX9_fillOn_36 : decode cX9_fillOn 36 = .ok (.aload_n 0, 1) := by decide +kernel
theorem dX9_fillOn_37 : decode cX9_fillOn 37 = .ok (.iload_n 2, 1) := by decide +kernel
theorem dX9_fillOn_38 : decode cX9_fillOn 38 = .ok (.iload_n 3, 1) := by decide +kernel
theorem dX9_fillOn_39 : decode cX9_fillOn 39 = .ok (.invokestatic 109, 3) := by decide +kernel
theorem dX9_fillOn_42 : decode cX9_fillOn 42 = .ok (.laload, 1) := by decide +kernel
theorem dX9_fillOn_43 : decode cX9_fillOn 43 = .ok (.invokestatic 145, 3) := by decide +kernel
theorem dX9_fillOn_46 : decode cX9_fillOn 46 = .ok (.goto 5, 3) := by decide +kernel
theorem dX9_fillOn_49 : decode cX9_fillOn 49 = .ok (.bipush (-9), 2) := by decide +kernel
theorem dX9_fillOn_51 : decode cX9_fillOn 51 = .ok (.istore 4, 2) := by decide +kernel
theorem dX9_fillOn_53 : decode cX9_fillOn 53 = .ok (.iload 4, 2) := by decide +kernel
theorem dX9_fillOn_55 : decode cX9_fillOn 55 = .ok (.ifCond .lt 25, 3) := by decide +kernel
theorem dX9_fillOn_58 : decode cX9_fillOn 58 = .ok (.aload_n 0, 1) := by decide +kernel
theorem dX9_fillOn_59 : decode cX9_fillOn 59 = .ok (.iload_n 2, 1) := by decide +kernel
theorem dX9_fillOn_60 : decode cX9_fillOn 60 = .ok (.iload_n 3, 1) := by decide +kernel
theorem dX9_fillOn_61 : decode cX9_fillOn 61 = .ok (.invokestatic 102, 3) := by decide +kernel
theorem dX9_fillOn_64 : decode cX9_fillOn 64 = .ok (.aload_n 0, 1) := by decide +kernel
theorem dX9_fillOn_65 : decode cX9_fillOn 65 = .ok (.sipush 221, 3) := by decide +kernel
theorem dX9_fillOn_68 : decode cX9_fillOn 68 = .ok (.iconst 2, 1) := by decide +kernel
theorem dX9_fillOn_69 : decode cX9_fillOn 69 = .ok (.iload 4, 2) := by decide +kernel
theorem dX9_fillOn_71 : decode cX9_fillOn 71 = .ok (.imul, 1) := by decide +kernel
theorem dX9_fillOn_72 : decode cX9_fillOn 72 = .ok (.iadd, 1) := by decide +kernel
theorem dX9_fillOn_73 : decode cX9_fillOn 73 = .ok (.iconst 1, 1) := by decide +kernel
theorem dX9_fillOn_74 : decode cX9_fillOn 74 = .ok (.iadd, 1) := by decide +kernel
theorem dX9_fillOn_75 : decode cX9_fillOn 75 = .ok (.laload, 1) := by decide +kernel
theorem dX9_fillOn_76 : decode cX9_fillOn 76 = .ok (.lastore, 1) := by decide +kernel
theorem dX9_fillOn_77 : decode cX9_fillOn 77 = .ok (.iinc 1 1, 3) := by decide +kernel
theorem dX9_fillOn_80 : decode cX9_fillOn 80 = .ok (.iinc 3 1, 3) := by decide +kernel
theorem dX9_fillOn_83 : decode cX9_fillOn 83 = .ok (.goto (-69), 3) := by decide +kernel
theorem dX9_fillOn_86 : decode cX9_fillOn 86 = .ok (.iinc 2 1, 3) := by decide +kernel
theorem dX9_fillOn_89 : decode cX9_fillOn 89 = .ok (.goto (-85), 3) := by decide +kernel
theorem dX9_fillOn_92 : decode cX9_fillOn 92 = .ok (.iload_n 1, 1) := by decide +kernel
theorem dX9_fillOn_93 : decode cX9_fillOn 93 = .ok (.ireturn, 1) := by decide +kernel
theorem dX9_gapsOf_0 : decode cX9_gapsOf 0 = .ok (.iconst 0, 1) := by decide +kernel
theorem dX9_gapsOf_1 : decode cX9_gapsOf 1 = .ok (.istore_n 2, 1) := by decide +kernel
theorem dX9_gapsOf_2 : decode cX9_gapsOf 2 = .ok (.iconst 0, 1) := by decide +kernel
theorem dX9_gapsOf_3 : decode cX9_gapsOf 3 = .ok (.istore_n 3, 1) := by decide +kernel
theorem dX9_gapsOf_4 : decode cX9_gapsOf 4 = .ok (.iload_n 3, 1) := by decide +kernel
theorem dX9_gapsOf_5 : decode cX9_gapsOf 5 = .ok (.aload_n 0, 1) := by decide +kernel
theorem dX9_gapsOf_6 : decode cX9_gapsOf 6 = .ok (.iload_n 1, 1) := by decide +kernel
theorem dX9_gapsOf_7 : decode cX9_gapsOf 7 = .ok (.invokestatic 98, 3) := by decide +kernel
theorem dX9_gapsOf_10 : decode cX9_gapsOf 10 = .ok (.if_icmp .ge 29, 3) := by decide +kernel
theorem dX9_gapsOf_13 : decode cX9_gapsOf 13 = .ok (.iload_n 2, 1) := by decide +kernel
theorem dX9_gapsOf_14 : decode cX9_gapsOf 14 = .ok (.aload_n 0, 1) := by decide +kernel
theorem dX9_gapsOf_15 : decode cX9_gapsOf 15 = .ok (.iload_n 1, 1) := by decide +kernel
theorem dX9_gapsOf_16 : decode cX9_gapsOf 16 = .ok (.iload_n 3, 1) := by decide +kernel
theorem dX9_gapsOf_17 : decode cX9_gapsOf 17 = .ok (.invokestatic 102, 3) := by decide +kernel
theorem dX9_gapsOf_20 : decode cX9_gapsOf 20 = .ok (.laload, 1) := by decide +kernel
theorem dX9_gapsOf_21 : decode cX9_gapsOf 21 = .ok (.lconst 0, 1) := by decide +kernel
theorem dX9_gapsOf_22 : decode cX9_gapsOf 22 = .ok (.lcmp, 1) := by decide +kernel
theorem dX9_gapsOf_23 : decode cX9_gapsOf 23 = .ok (.ifCond .ne 7, 3) := by decide +kernel
theorem dX9_gapsOf_26 : decode cX9_gapsOf 26 = .ok (.iconst 1, 1) := by decide +kernel
theorem dX9_gapsOf_27 : decode cX9_gapsOf 27 = .ok (.goto 4, 3) := by decide +kernel
theorem dX9_gapsOf_30 : decode cX9_gapsOf 30 = .ok (.iconst 0, 1) := by decide +kernel
theorem dX9_gapsOf_31 : decode cX9_gapsOf 31 = .ok (.iadd, 1) := by decide +kernel
theorem dX9_gapsOf_32 : decode cX9_gapsOf 32 = .ok (.istore_n 2, 1) := by decide +kernel
theorem dX9_gapsOf_33 : decode cX9_gapsOf 33 = .ok (.iinc 3 1, 3) := by decide +kernel
theorem dX9_gapsOf_36 : decode cX9_gapsOf 36 = .ok (.goto (-32), 3) := by decide +kernel
theorem dX9_gapsOf_39 : decode cX9_gapsOf 39 = .ok (.iload_n 2, 1) := by decide +kernel
theorem dX9_gapsOf_40 : decode cX9_gapsOf 40 = .ok (.ireturn, 1) := by decide +kernel
theorem dX9_gaps_0 : decode cX9_gaps 0 = .ok (.iconst 0, 1) := by decide +kernel
theorem dX9_gaps_1 : decode cX9_gaps 1 = .ok (.istore_n 1, 1) := by decide +kernel
theorem dX9_gaps_2 : decode cX9_gaps 2 = .ok (.iconst 0, 1) := by decide +kernel
theorem dX9_gaps_3 : decode cX9_gaps 3 = .ok (.istore_n 2, 1) := by decide +kernel
theorem dX9_gaps_4 : decode cX9_gaps 4 = .ok (.iload_n 2, 1) := by decide +kernel
theorem dX9_gaps_5 : decode cX9_gaps 5 = .ok (.aload_n 0, 1) := by decide +kernel
theorem dX9_gaps_6 : decode cX9_gaps 6 = .ok (.invokestatic 86, 3) := by decide +kernel
theorem dX9_gaps_9 : decode cX9_gaps 9 = .ok (.if_icmp .ge 17, 3) := by decide +kernel
theorem dX9_gaps_12 : decode cX9_gaps 12 = .ok (.iload_n 1, 1) := by decide +kernel
theorem dX9_gaps_13 : decode cX9_gaps 13 = .ok (.aload_n 0, 1) := by decide +kernel
theorem dX9_gaps_14 : decode cX9_gaps 14 = .ok (.iload_n 2, 1) := by decide +kernel
theorem dX9_gaps_15 : decode cX9_gaps 15 = .ok (.invokestatic 151, 3) := by decide +kernel
theorem dX9_gaps_18 : decode cX9_gaps 18 = .ok (.iadd, 1) := by decide +kernel
theorem dX9_gaps_19 : decode cX9_gaps 19 = .ok (.istore_n 1, 1) := by decide +kernel
theorem dX9_gaps_20 : decode cX9_gaps 20 = .ok (.iinc 2 1, 3) := by decide +kernel
theorem dX9_gaps_23 : decode cX9_gaps 23 = .ok (.goto (-19), 3) := by decide +kernel
theorem dX9_gaps_26 : decode cX9_gaps 26 = .ok (.iload_n 1, 1) := by decide +kernel
theorem dX9_gaps_27 : decode cX9_gaps 27 = .ok (.ireturn, 1) := by decide +kernel
theorem dX9_removeOn_0 : decode cX9_removeOn 0 = .ok (.aload_n 0, 1) := by decide +kernel
theorem dX9_removeOn_1 : decode cX9_removeOn 1 = .ok (.iconst 5, 1) := by decide +kernel
theorem dX9_removeOn_2 : decode cX9_removeOn 2 = .ok (.bipush 18, 2) := by decide +kernel
theorem dX9_removeOn_4 : decode cX9_removeOn 4 = .ok (.iload_n 1, 1) := by decide +kernel
theorem dX9_removeOn_5 : decode cX9_removeOn 5 = .ok (.iconst 1, 1) := by decide +kernel
theorem dX9_removeOn_6 : decode cX9_removeOn 6 = .ok (.iadd, 1) := by decide +kernel
theorem dX9_removeOn_7 : decode cX9_removeOn 7 = .ok (.imul, 1) := by decide +kernel
theorem dX9_removeOn_8 : decode cX9_removeOn 8 = .ok (.iadd, 1) := by decide +kernel
theorem dX9_removeOn_9 : decode cX9_removeOn 9 = .ok (.aload_n 0, 1) := by decide +kernel
theorem dX9_removeOn_10 : decode cX9_removeOn 10 = .ok (.iconst 5, 1) := by decide +kernel
theorem dX9_removeOn_11 : decode cX9_removeOn 11 = .ok (.bipush 18, 2) := by decide +kernel
theorem dX9_removeOn_13 : decode cX9_removeOn 13 = .ok (.iload_n 1, 1) := by decide +kernel
theorem dX9_removeOn_14 : decode cX9_removeOn 14 = .ok (.imul, 1) := by decide +kernel
theorem dX9_removeOn_15 : decode cX9_removeOn 15 = .ok (.iadd, 1) := by decide +kernel
theorem dX9_removeOn_16 : decode cX9_removeOn 16 = .ok (.bipush 18, 2) := by decide +kernel
theorem dX9_removeOn_18 : decode cX9_removeOn 18 = .ok (.aload_n 0, 1) := by decide +kernel
theorem dX9_removeOn_19 : decode cX9_removeOn 19 = .ok (.invokestatic 86, 3) := by decide +kernel
theorem dX9_removeOn_22 : decode cX9_removeOn 22 = .ok (.iconst 1, 1) := by decide +kernel
theorem dX9_removeOn_23 : decode cX9_removeOn 23 = .ok (.isub, 1) := by decide +kernel
theorem dX9_removeOn_24 : decode cX9_removeOn 24 = .ok (.iload_n 1, 1) := by decide +kernel
theorem dX9_removeOn_25 : decode cX9_removeOn 25 = .ok (.isub, 1) := by decide +kernel
theorem dX9_removeOn_26 : decode cX9_removeOn 26 = .ok (.imul, 1) := by decide +kernel
theorem dX9_removeOn_27 : decode cX9_removeOn 27 = .ok (.invokestatic 74, 3) := by decide +kernel
theorem dX9_removeOn_30 : decode cX9_removeOn 30 = .ok (.aload_n 0, 1) := by decide +kernel
theorem dX9_removeOn_31 : decode cX9_removeOn 31 = .ok (.iconst 0, 1) := by decide +kernel
theorem dX9_removeOn_32 : decode cX9_removeOn 32 = .ok (.dup2, 1) := by decide +kernel
theorem dX9_removeOn_33 : decode cX9_removeOn 33 = .ok (.laload, 1) := by decide +kernel
theorem dX9_removeOn_34 : decode cX9_removeOn 34 = .ok (.lconst 1, 1) := by decide +kernel
theorem dX9_removeOn_35 : decode cX9_removeOn 35 = .ok (.lsub, 1) := by decide +kernel
theorem dX9_removeOn_36 : decode cX9_removeOn 36 = .ok (.lastore, 1) := by decide +kernel
theorem dX9_removeOn_37 : decode cX9_removeOn 37 = .ok (.return_, 1) := by decide +kernel
theorem dX9_joinOn_0 : decode cX9_joinOn 0 = .ok (.aload_n 0, 1) := by decide +kernel
theorem dX9_joinOn_1 : decode cX9_joinOn 1 = .ok (.iload_n 1, 1) := by decide +kernel
theorem dX9_joinOn_2 : decode cX9_joinOn 2 = .ok (.iconst 1, 1) := by decide +kernel
theorem dX9_joinOn_3 : decode cX9_joinOn 3 = .ok (.invokestatic 82, 3) := by decide +kernel
theorem dX9_joinOn_6 : decode cX9_joinOn 6 = .ok (.lconst 0, 1) := by decide +kernel
theorem dX9_joinOn_7 : decode cX9_joinOn 7 = .ok (.lastore, 1) := by decide +kernel
theorem dX9_joinOn_8 : decode cX9_joinOn 8 = .ok (.iconst 2, 1) := by decide +kernel
theorem dX9_joinOn_9 : decode cX9_joinOn 9 = .ok (.istore_n 2, 1) := by decide +kernel
theorem dX9_joinOn_10 : decode cX9_joinOn 10 = .ok (.iload_n 2, 1) := by decide +kernel
theorem dX9_joinOn_11 : decode cX9_joinOn 11 = .ok (.bipush 6, 2) := by decide +kernel
theorem dX9_joinOn_13 : decode cX9_joinOn 13 = .ok (.if_icmp .ge 17, 3) := by decide +kernel
theorem dX9_joinOn_16 : decode cX9_joinOn 16 = .ok (.aload_n 0, 1) := by decide +kernel
theorem dX9_joinOn_17 : decode cX9_joinOn 17 = .ok (.iload_n 1, 1) := by decide +kernel
theorem dX9_joinOn_18 : decode cX9_joinOn 18 = .ok (.iload_n 2, 1) := by decide +kernel
theorem dX9_joinOn_19 : decode cX9_joinOn 19 = .ok (.invokestatic 82, 3) := by decide +kernel
theorem dX9_joinOn_22 : decode cX9_joinOn 22 = .ok (.lconst 0, 1) := by decide +kernel
theorem dX9_joinOn_23 : decode cX9_joinOn 23 = .ok (.lastore, 1) := by decide +kernel
theorem dX9_joinOn_24 : decode cX9_joinOn 24 = .ok (.iinc 2 1, 3) := by decide +kernel
theorem dX9_joinOn_27 : decode cX9_joinOn 27 = .ok (.goto (-17), 3) := by decide +kernel
theorem dX9_joinOn_30 : decode cX9_joinOn 30 = .ok (.return_, 1) := by decide +kernel
theorem dX9_insertOn_0 : decode cX9_insertOn 0 = .ok (.aload_n 1, 1) := by decide +kernel
theorem dX9_insertOn_1 : decode cX9_insertOn 1 = .ok (.invokestatic 86, 3) := by decide +kernel
theorem dX9_insertOn_4 : decode cX9_insertOn 4 = .ok (.iconst 1, 1) := by decide +kernel
theorem dX9_insertOn_5 : decode cX9_insertOn 5 = .ok (.isub, 1) := by decide +kernel
theorem dX9_insertOn_6 : decode cX9_insertOn 6 = .ok (.istore_n 3, 1) := by decide +kernel
theorem dX9_insertOn_7 : decode cX9_insertOn 7 = .ok (.iload_n 3, 1) := by decide +kernel
theorem dX9_insertOn_8 : decode cX9_insertOn 8 = .ok (.iload_n 2, 1) := by decide +kernel
theorem dX9_insertOn_9 : decode cX9_insertOn 9 = .ok (.if_icmp .lt 33, 3) := by decide +kernel
theorem dX9_insertOn_12 : decode cX9_insertOn 12 = .ok (.aload_n 1, 1) := by decide +kernel
theorem dX9_insertOn_13 : decode cX9_insertOn 13 = .ok (.iconst 5, 1) := by decide +kernel
theorem dX9_insertOn_14 : decode cX9_insertOn 14 = .ok (.bipush 18, 2) := by decide +kernel
theorem dX9_insertOn_16 : decode cX9_insertOn 16 = .ok (.iload_n 3, 1) := by decide +kernel
theorem dX9_insertOn_17 : decode cX9_insertOn 17 = .ok (.imul, 1) := by decide +kernel
theorem dX9_insertOn_18 : decode cX9_insertOn 18 = .ok (.iadd, 1) := by decide +kernel
theorem dX9_insertOn_19 : decode cX9_insertOn 19 = .ok (.aload_n 1, 1) := by decide +kernel
theorem dX9_insertOn_20 : decode cX9_insertOn 20 = .ok (.iconst 5, 1) := by decide +kernel
theorem dX9_insertOn_21 : decode cX9_insertOn 21 = .ok (.bipush 18, 2) := by decide +kernel
theorem dX9_insertOn_23 : decode cX9_insertOn 23 = .ok (.iload_n 3, 1) := by decide +kernel
theorem dX9_insertOn_24 : decode cX9_insertOn 24 = .ok (.aload_n 0, 1) := by decide +kernel
theorem dX9_insertOn_25 : decode cX9_insertOn 25 = .ok (.getfield 154, 3) := by decide +kernel
theorem dX9_insertOn_28 : decode cX9_insertOn 28 = .ok (.iadd, 1) := by decide +kernel
theorem dX9_insertOn_29 : decode cX9_insertOn 29 = .ok (.imul, 1) := by decide +kernel
theorem dX9_insertOn_30 : decode cX9_insertOn 30 = .ok (.iadd, 1) := by decide +kernel
theorem dX9_insertOn_31 : decode cX9_insertOn 31 = .ok (.bipush 18, 2) := by decide +kernel
theorem dX9_insertOn_33 : decode cX9_insertOn 33 = .ok (.invokestatic 74, 3) := by decide +kernel
theorem dX9_insertOn_36 : decode cX9_insertOn 36 = .ok (.iinc 3 (-1), 3) := by decide +kernel
theorem dX9_insertOn_39 : decode cX9_insertOn 39 = .ok (.goto (-32), 3) := by decide +kernel
theorem dX9_insertOn_42 : decode cX9_insertOn 42 = .ok (.aload_n 0, 1) := by decide +kernel
theorem dX9_insertOn_43 : decode cX9_insertOn 43 = .ok (.getfield 13, 3) := by decide +kernel
theorem dX9_insertOn_46 : decode cX9_insertOn 46 = .ok (.iconst 0, 1) := by decide +kernel
theorem dX9_insertOn_47 : decode cX9_insertOn 47 = .ok (.aload_n 1, 1) := by decide +kernel
theorem dX9_insertOn_48 : decode cX9_insertOn 48 = .ok (.iconst 5, 1) := by decide +kernel
theorem dX9_insertOn_49 : decode cX9_insertOn 49 = .ok (.bipush 18, 2) := by decide +kernel
theorem dX9_insertOn_51 : decode cX9_insertOn 51 = .ok (.iload_n 2, 1) := by decide +kernel
theorem dX9_insertOn_52 : decode cX9_insertOn 52 = .ok (.imul, 1) := by decide +kernel
theorem dX9_insertOn_53 : decode cX9_insertOn 53 = .ok (.iadd, 1) := by decide +kernel
theorem dX9_insertOn_54 : decode cX9_insertOn 54 = .ok (.bipush 18, 2) := by decide +kernel
theorem dX9_insertOn_56 : decode cX9_insertOn 56 = .ok (.aload_n 0, 1) := by decide +kernel
theorem dX9_insertOn_57 : decode cX9_insertOn 57 = .ok (.getfield 154, 3) := by decide +kernel
theorem dX9_insertOn_60 : decode cX9_insertOn 60 = .ok (.imul, 1) := by decide +kernel
theorem dX9_insertOn_61 : decode cX9_insertOn 61 = .ok (.invokestatic 74, 3) := by decide +kernel
theorem dX9_insertOn_64 : decode cX9_insertOn 64 = .ok (.aload_n 1, 1) := by decide +kernel
theorem dX9_insertOn_65 : decode cX9_insertOn 65 = .ok (.iconst 0, 1) := by decide +kernel
theorem dX9_insertOn_66 : decode cX9_insertOn 66 = .ok (.dup2, 1) := by decide +kernel
theorem dX9_insertOn_67 : decode cX9_insertOn 67 = .ok (.laload, 1) := by decide +kernel
theorem dX9_insertOn_68 : decode cX9_insertOn 68 = .ok (.aload_n 0, 1) := by decide +kernel
theorem dX9_insertOn_69 : decode cX9_insertOn 69 = .ok (.getfield 154, 3) := by decide +kernel
theorem dX9_insertOn_72 : decode cX9_insertOn 72 = .ok (.i2l, 1) := by decide +kernel
theorem dX9_insertOn_73 : decode cX9_insertOn 73 = .ok (.ladd, 1) := by decide +kernel
theorem dX9_insertOn_74 : decode cX9_insertOn 74 = .ok (.lastore, 1) := by decide +kernel
theorem dX9_insertOn_75 : decode cX9_insertOn 75 = .ok (.return_, 1) := by decide +kernel
theorem dX9_append_0 : decode cX9_append 0 = .ok (.aload_n 0, 1) := by decide +kernel
theorem dX9_append_1 : decode cX9_append 1 = .ok (.iload_n 1, 1) := by decide +kernel
theorem dX9_append_2 : decode cX9_append 2 = .ok (.i2l, 1) := by decide +kernel
theorem dX9_append_3 : decode cX9_append 3 = .ok (.lconst 0, 1) := by decide +kernel
theorem dX9_append_4 : decode cX9_append 4 = .ok (.ldc2_w 157, 3) := by decide +kernel
theorem dX9_append_7 : decode cX9_append 7 = .ok (.invokestatic 90, 3) := by decide +kernel
theorem dX9_append_10 : decode cX9_append 10 = .ok (.ifCond .ne 7, 3) := by decide +kernel
theorem dX9_append_13 : decode cX9_append 13 = .ok (.iconst 1, 1) := by decide +kernel
theorem dX9_append_14 : decode cX9_append 14 = .ok (.goto 17, 3) := by decide +kernel
theorem dX9_append_17 : decode cX9_append 17 = .ok (.aload_n 0, 1) := by decide +kernel
theorem dX9_append_18 : decode cX9_append 18 = .ok (.getfield 159, 3) := by decide +kernel
theorem dX9_append_21 : decode cX9_append 21 = .ok (.bipush 60, 2) := by decide +kernel
theorem dX9_append_23 : decode cX9_append 23 = .ok (.if_icmp .ne 7, 3) := by decide +kernel
theorem dX9_append_26 : decode cX9_append 26 = .ok (.iconst 2, 1) := by decide +kernel
theorem dX9_append_27 : decode cX9_append 27 = .ok (.goto 4, 3) := by decide +kernel
theorem dX9_append_30 : decode cX9_append 30 = .ok (.iconst 0, 1) := by decide +kernel
theorem dX9_append_31 : decode cX9_append 31 = .ok (.invokevirtual 162, 3) := by decide +kernel
theorem dX9_append_34 : decode cX9_append 34 = .ok (.ifCond .eq 5, 3) := by decide +kernel
theorem dX9_append_37 : decode cX9_append 37 = .ok (.iconst 0, 1) := by decide +kernel
theorem dX9_append_38 : decode cX9_append 38 = .ok (.ireturn, 1) := by decide +kernel
theorem dX9_append_39 : decode cX9_append 39 = .ok (.aload_n 0, 1) := by decide +kernel
theorem dX9_append_40 : decode cX9_append 40 = .ok (.getfield 7, 3) := by decide +kernel
theorem dX9_append_43 : decode cX9_append 43 = .ok (.aload_n 0, 1) := by decide +kernel
theorem dX9_append_44 : decode cX9_append 44 = .ok (.getfield 159, 3) := by decide +kernel
theorem dX9_append_47 : decode cX9_append 47 = .ok (.iload_n 1, 1) := by decide +kernel
theorem dX9_append_48 : decode cX9_append 48 = .ok (.iastore, 1) := by decide +kernel
theorem dX9_append_49 : decode cX9_append 49 = .ok (.aload_n 0, 1) := by decide +kernel
theorem dX9_append_50 : decode cX9_append 50 = .ok (.dup, 1) := by decide +kernel
theorem dX9_append_51 : decode cX9_append 51 = .ok (.getfield 159, 3) := by decide +kernel
theorem dX9_append_54 : decode cX9_append 54 = .ok (.iconst 1, 1) := by decide +kernel
theorem dX9_append_55 : decode cX9_append 55 = .ok (.iadd, 1) := by decide +kernel
theorem dX9_append_56 : decode cX9_append 56 = .ok (.putfield 159, 3) := by decide +kernel
theorem dX9_append_59 : decode cX9_append 59 = .ok (.aload_n 0, 1) := by decide +kernel
theorem dX9_append_60 : decode cX9_append 60 = .ok (.getfield 159, 3) := by decide +kernel
theorem dX9_append_63 : decode cX9_append 63 = .ok (.ireturn, 1) := by decide +kernel
theorem dX9_clearText_0 : decode cX9_clearText 0 = .ok (.aload_n 0, 1) := by decide +kernel
theorem dX9_clearText_1 : decode cX9_clearText 1 = .ok (.iconst 0, 1) := by decide +kernel
theorem dX9_clearText_2 : decode cX9_clearText 2 = .ok (.putfield 65, 3) := by decide +kernel
theorem dX9_clearText_5 : decode cX9_clearText 5 = .ok (.aload_n 0, 1) := by decide +kernel
theorem dX9_clearText_6 : decode cX9_clearText 6 = .ok (.getfield 159, 3) := by decide +kernel
theorem dX9_clearText_9 : decode cX9_clearText 9 = .ok (.istore_n 1, 1) := by decide +kernel
theorem dX9_clearText_10 : decode cX9_clearText 10 = .ok (.aload_n 0, 1) := by decide +kernel
theorem dX9_clearText_11 : decode cX9_clearText 11 = .ok (.iconst 0, 1) := by decide +kernel
theorem dX9_clearText_12 : decode cX9_clearText 12 = .ok (.putfield 159, 3) := by decide +kernel
theorem dX9_clearText_15 : decode cX9_clearText 15 = .ok (.iload_n 1, 1) := by decide +kernel
theorem dX9_clearText_16 : decode cX9_clearText 16 = .ok (.ireturn, 1) := by decide +kernel
theorem dX9_isLetter_0 : decode cX9_isLetter 0 = .ok (.iload_n 0, 1) := by decide +kernel
theorem dX9_isLetter_1 : decode cX9_isLetter 1 = .ok (.i2l, 1) := by decide +kernel
theorem dX9_isLetter_2 : decode cX9_isLetter 2 = .ok (.ldc2_w 166, 3) := by decide +kernel
theorem dX9_isLetter_5 : decode cX9_isLetter 5 = .ok (.ldc2_w 168, 3) := by decide +kernel
theorem dX9_isLetter_8 : decode cX9_isLetter 8 = .ok (.invokestatic 90, 3) := by decide +kernel
theorem dX9_isLetter_11 : decode cX9_isLetter 11 = .ok (.ireturn, 1) := by decide +kernel
theorem dX9_isGlossLetter_0 : decode cX9_isGlossLetter 0 = .ok (.iload_n 0, 1) := by decide +kernel
theorem dX9_isGlossLetter_1 : decode cX9_isGlossLetter 1 = .ok (.invokestatic 170, 3) := by decide +kernel
theorem dX9_isGlossLetter_4 : decode cX9_isGlossLetter 4 = .ok (.ifCond .ne 9, 3) := by decide +kernel
theorem dX9_isGlossLetter_7 : decode cX9_isGlossLetter 7 = .ok (.iload_n 0, 1) := by decide +kernel
theorem dX9_isGlossLetter_8 : decode cX9_isGlossLetter 8 = .ok (.bipush 46, 2) := by decide +kernel
theorem dX9_isGlossLetter_10 : decode cX9_isGlossLetter 10 = .ok (.if_icmp .ne 7, 3) := by decide +kernel
theorem dX9_isGlossLetter_13 : decode cX9_isGlossLetter 13 = .ok (.iconst 1, 1) := by decide +kernel
theorem dX9_isGlossLetter_14 : decode cX9_isGlossLetter 14 = .ok (.goto 4, 3) := by decide +kernel
theorem dX9_isGlossLetter_17 : decode cX9_isGlossLetter 17 = .ok (.iconst 0, 1) := by decide +kernel
theorem dX9_isGlossLetter_18 : decode cX9_isGlossLetter 18 = .ok (.ireturn, 1) := by decide +kernel
theorem dX9_isMark_0 : decode cX9_isMark 0 = .ok (.iload_n 0, 1) := by decide +kernel
theorem dX9_isMark_1 : decode cX9_isMark 1 = .ok (.bipush 45, 2) := by decide +kernel
theorem dX9_isMark_3 : decode cX9_isMark 3 = .ok (.if_icmp .eq 9, 3) := by decide +kernel
theorem dX9_isMark_6 : decode cX9_isMark 6 = .ok (.iload_n 0, 1) := by decide +kernel
theorem dX9_isMark_7 : decode cX9_isMark 7 = .ok (.bipush 61, 2) := by decide +kernel
theorem dX9_isMark_9 : decode cX9_isMark 9 = .ok (.if_icmp .ne 7, 3) := by decide +kernel
theorem dX9_isMark_12 : decode cX9_isMark 12 = .ok (.iconst 1, 1) := by decide +kernel
theorem dX9_isMark_13 : decode cX9_isMark 13 = .ok (.goto 4, 3) := by decide +kernel
theorem dX9_isMark_16 : decode cX9_isMark 16 = .ok (.iconst 0, 1) := by decide +kernel
theorem dX9_isMark_17 : decode cX9_isMark 17 = .ok (.ireturn, 1) := by decide +kernel
theorem dX9_begin_0 : decode cX9_begin 0 = .ok (.iconst 0, 1) := by decide +kernel
theorem dX9_begin_1 : decode cX9_begin 1 = .ok (.istore_n 1, 1) := by decide +kernel
theorem dX9_begin_2 : decode cX9_begin 2 = .ok (.iload_n 1, 1) := by decide +kernel
theorem dX9_begin_3 : decode cX9_begin 3 = .ok (.bipush 18, 2) := by decide +kernel
theorem dX9_begin_5 : decode cX9_begin 5 = .ok (.if_icmp .ge 24, 3) := by decide +kernel
theorem dX9_begin_8 : decode cX9_begin 8 = .ok (.aload_n 0, 1) := by decide +kernel
theorem dX9_begin_9 : decode cX9_begin 9 = .ok (.getfield 13, 3) := by decide +kernel
theorem dX9_begin_12 : decode cX9_begin 12 = .ok (.bipush 18, 2) := by decide +kernel
theorem dX9_begin_14 : decode cX9_begin 14 = .ok (.aload_n 0, 1) := by decide +kernel
theorem dX9_begin_15 : decode cX9_begin 15 = .ok (.getfield 154, 3) := by decide +kernel
theorem dX9_begin_18 : decode cX9_begin 18 = .ok (.imul, 1) := by decide +kernel
theorem dX9_begin_19 : decode cX9_begin 19 = .ok (.iload_n 1, 1) := by decide +kernel
theorem dX9_begin_20 : decode cX9_begin 20 = .ok (.iadd, 1) := by decide +kernel
theorem dX9_begin_21 : decode cX9_begin 21 = .ok (.lconst 0, 1) := by decide +kernel
theorem dX9_begin_22 : decode cX9_begin 22 = .ok (.lastore, 1) := by decide +kernel
theorem dX9_begin_23 : decode cX9_begin 23 = .ok (.iinc 1 1, 3) := by decide +kernel
theorem dX9_begin_26 : decode cX9_begin 26 = .ok (.goto (-24), 3) := by decide +kernel
theorem dX9_begin_29 : decode cX9_begin 29 = .ok (.aload_n 0, 1) := by decide +kernel
theorem dX9_begin_30 : decode cX9_begin 30 = .ok (.getfield 13, 3) := by decide +kernel
theorem dX9_begin_33 : decode cX9_begin 33 = .ok (.bipush 18, 2) := by decide +kernel
theorem dX9_begin_35 : decode cX9_begin 35 = .ok (.aload_n 0, 1) := by decide +kernel
theorem dX9_begin_36 : decode cX9_begin 36 = .ok (.getfield 154, 3) := by decide +kernel
theorem dX9_begin_39 : decode cX9_begin 39 = .ok (.imul, 1) := by decide +kernel
theorem dX9_begin_40 : decode cX9_begin 40 = .ok (.lconst 1, 1) := by decide +kernel
theorem dX9_begin_41 : decode cX9_begin 41 = .ok (.lastore, 1) := by decide +kernel
theorem dX9_begin_42 : decode cX9_begin 42 = .ok (.aload_n 0, 1) := by decide +kernel
theorem dX9_begin_43 : decode cX9_begin 43 = .ok (.dup, 1) := by decide +kernel
theorem dX9_begin_44 : decode cX9_begin 44 = .ok (.getfield 154, 3) := by decide +kernel
theorem dX9_begin_47 : decode cX9_begin 47 = .ok (.iconst 1, 1) := by decide +kernel
theorem dX9_begin_48 : decode cX9_begin 48 = .ok (.iadd, 1) := by decide +kernel
theorem dX9_begin_49 : decode cX9_begin 49 = .ok (.putfield 154, 3) := by decide +kernel
theorem dX9_begin_52 : decode cX9_begin 52 = .ok (.return_, 1) := by decide +kernel
theorem dX9_readText_0 : decode cX9_readText 0 = .ok (.aload_n 0, 1) := by decide +kernel
theorem dX9_readText_1 : decode cX9_readText 1 = .ok (.iconst 0, 1) := by decide +kernel
theorem dX9_readText_2 : decode cX9_readText 2 = .ok (.putfield 154, 3) := by decide +kernel
theorem dX9_readText_5 : decode cX9_readText 5 = .ok (.aload_n 0, 1) := by decide +kernel
theorem dX9_readText_6 : decode cX9_readText 6 = .ok (.invokevirtual 173, 3) := by decide +kernel
theorem dX9_readText_9 : decode cX9_readText 9 = .ok (.iconst 0, 1) := by decide +kernel
theorem dX9_readText_10 : decode cX9_readText 10 = .ok (.istore_n 1, 1) := by decide +kernel
theorem dX9_readText_11 : decode cX9_readText 11 = .ok (.iconst 0, 1) := by decide +kernel
theorem dX9_readText_12 : decode cX9_readText 12 = .ok (.istore_n 2, 1) := by decide +kernel
theorem dX9_readText_13 : decode cX9_readText 13 = .ok (.iconst 0, 1) := by decide +kernel
theorem dX9_readText_14 : decode cX9_readText 14 = .ok (.istore_n 3, 1) := by decide +kernel
theorem dX9_readText_15 : decode cX9_readText 15 = .ok (.iconst 0, 1) := by decide +kernel
theorem dX9_readText_16 : decode cX9_readText 16 = .ok (.istore 4, 2) := by decide +kernel
theorem dX9_readText_18 : decode cX9_readText 18 = .ok (.iload 4, 2) := by decide +kernel
theorem dX9_readText_20 : decode cX9_readText 20 = .ok (.aload_n 0, 1) := by decide +kernel
theorem dX9_readText_21 : decode cX9_readText 21 = .ok (.getfield 159, 3) := by decide +kernel
theorem dX9_readText_24 : decode cX9_readText 24 = .ok (.if_icmp .ge 306, 3) := by decide +kernel
theorem dX9_readText_27 : decode cX9_readText 27 = .ok (.aload_n 0, 1) := by decide +kernel
theorem dX9_readText_28 : decode cX9_readText 28 = .ok (.getfield 7, 3) := by decide +kernel
theorem dX9_readText_31 : decode cX9_readText 31 = .ok (.iload 4, 2) := by decide +kernel
theorem dX9_readText_33 : decode cX9_readText 33 = .ok (.iaload, 1) := by decide +kernel
theorem dX9_readText_34 : decode cX9_readText 34 = .ok (.istore 5, 2) := by decide +kernel
theorem dX9_readText_36 : decode cX9_readText 36 = .ok (.bipush 18, 2) := by decide +kernel
theorem dX9_readText_38 : decode cX9_readText 38 = .ok (.aload_n 0, 1) := by decide +kernel
theorem dX9_readText_39 : decode cX9_readText 39 = .ok (.getfield 154, 3) := by decide +kernel
theorem dX9_readText_42 : decode cX9_readText 42 = .ok (.iconst 1, 1) := by decide +kernel
theorem dX9_readText_43 : decode cX9_readText 43 = .ok (.isub, 1) := by decide +kernel
theorem dX9_readText_44 : decode cX9_readText 44 = .ok (.imul, 1) := by decide +kernel
theorem dX9_readText_45 : decode cX9_readText 45 = .ok (.istore 6, 2) := by decide +kernel
theorem dX9_readText_47 : decode cX9_readText 47 = .ok (.aload_n 0, 1) := by decide +kernel
theorem dX9_readText_48 : decode cX9_readText 48 = .ok (.getfield 13, 3) := by decide +kernel
theorem dX9_readText_51 : decode cX9_readText 51 = .ok (.iload 6, 2) := by decide +kernel
theorem dX9_readText_53 : decode cX9_readText 53 = .ok (.laload, 1) := by decide +kernel
theorem dX9_readText_54 : decode cX9_readText 54 = .ok (.l2i, 1) := by decide +kernel
theorem dX9_readText_55 : decode cX9_readText 55 = .ok (.istore 7, 2) := by decide +kernel
theorem dX9_readText_57 : decode cX9_readText 57 = .ok (.iload_n 1, 1) := by decide +kernel
theorem dX9_readText_58 : decode cX9_readText 58 = .ok (.ifCond .eq 19, 3) := by decide +kernel
theorem dX9_readText_61 : decode cX9_readText 61 = .ok (.iload_n 2, 1) := by decide +kernel
theorem dX9_readText_62 : decode cX9_readText 62 = .ok (.iload 7, 2) := by decide +kernel
theorem dX9_readText_64 : decode cX9_readText 64 = .ok (.iconst 1, 1) := by decide +kernel
theorem dX9_readText_65 : decode cX9_readText 65 = .ok (.isub, 1) := by decide +kernel
theorem dX9_readText_66 : decode cX9_readText 66 = .ok (.if_icmp .ne 7, 3) := by decide +kernel
theorem dX9_readText_69 : decode cX9_readText 69 = .ok (.iconst 1, 1) := by decide +kernel
theorem dX9_readText_70 : decode cX9_readText 70 = .ok (.goto 16, 3) := by decide +kernel
theorem dX9_readText_73 : decode cX9_readText 73 = .ok (.iconst 0, 1) := by decide +kernel
theorem dX9_readText_74 : decode cX9_readText 74 = .ok (.goto 12, 3) := by decide +kernel
theorem dX9_readText_77 : decode cX9_readText 77 = .ok (.iload_n 3, 1) := by decide +kernel
theorem dX9_readText_78 : decode cX9_readText 78 = .ok (.ifCond .le 7, 3) := by decide +kernel
theorem dX9_readText_81 : decode cX9_readText 81 = .ok (.iconst 1, 1) := by decide +kernel
theorem dX9_readText_82 : decode cX9_readText 82 = .ok (.goto 4, 3) := by decide +kernel
theorem dX9_readText_85 : decode cX9_readText 85 = .ok (.iconst 0, 1) := by decide +kernel
theorem dX9_readText_86 : decode cX9_readText 86 = .ok (.istore 8, 2) := by decide +kernel
theorem dX9_readText_88 : decode cX9_readText 88 = .ok (.iload_n 3, 1) := by decide +kernel
theorem dX9_readText_89 : decode cX9_readText 89 = .ok (.bipush 8, 2) := by decide +kernel
theorem dX9_readText_91 : decode cX9_readText 91 = .ok (.if_icmp .ge 73, 3) := by decide +kernel
theorem dX9_readText_94 : decode cX9_readText 94 = .ok (.iload_n 1, 1) := by decide +kernel
theorem dX9_readText_95 : decode cX9_readText 95 = .ok (.ifCond .eq 14, 3) := by decide +kernel
theorem dX9_readText_98 : decode cX9_readText 98 = .ok (.iload 5, 2) := by decide +kernel
theorem dX9_readText_100 : decode cX9_readText 100 = .ok (.invokestatic 176, 3) := by decide +kernel
theorem dX9_readText_103 : decode cX9_readText 103 = .ok (.ifCond .eq 61, 3) := by decide +kernel
theorem dX9_readText_106 : decode cX9_readText 106 = .ok (.goto 11, 3) := by decide +kernel
theorem dX9_readText_109 : decode cX9_readText 109 = .ok (.iload 5, 2) := by decide +kernel
theorem dX9_readText_111 : decode cX9_readText 111 = .ok (.invokestatic 170, 3) := by decide +kernel
theorem dX9_readText_114 : decode cX9_readText 114 = .ok (.ifCond .eq 50, 3) := by decide +kernel
theorem dX9_readText_117 : decode cX9_readText 117 = .ok (.iload 6, 2) := by decide +kernel
theorem dX9_readText_119 : decode cX9_readText 119 = .ok (.bipush 6, 2) := by decide +kernel
theorem dX9_readText_121 : decode cX9_readText 121 = .ok (.iadd, 1) := by decide +kernel
theorem dX9_readText_122 : decode cX9_readText 122 = .ok (.iconst 3, 1) := by decide +kernel
theorem dX9_readText_123 : decode cX9_readText 123 = .ok (.iload_n 2, 1) := by decide +kernel
theorem dX9_readText_124 : decode cX9_readText 124 = .ok (.imul, 1) := by decide +kernel
theorem dX9_readText_125 : decode cX9_readText 125 = .ok (.iadd, 1) := by decide +kernel
theorem dX9_readText_126 : decode cX9_readText 126 = .ok (.iload_n 1, 1) := by decide +kernel
theorem dX9_readText_127 : decode cX9_readText 127 = .ok (.ifCond .eq 7, 3) := by decide +kernel
theorem dX9_readText_130 : decode cX9_readText 130 = .ok (.iconst 2, 1) := by decide +kernel
theorem dX9_readText_131 : decode cX9_readText 131 = .ok (.goto 4, 3) := by decide +kernel
theorem dX9_readText_134 : decode cX9_readText 134 = .ok (.iconst 1, 1) := by decide +kernel
theorem dX9_readText_135 : decode cX9_readText 135 = .ok (.iadd, 1) := by decide +kernel
theorem dX9_readText_136 : decode cX9_readText 136 = .ok (.istore 9, 2) := by decide +kernel
theorem dX9_readText_138 : decode cX9_readText 138 = .ok (.aload_n 0, 1) := by decide +kernel
theorem dX9_readText_139 : decode cX9_readText 139 = .ok (.getfield 13, 3) := by decide +kernel
theorem dX9_readText_142 : decode cX9_readText 142 = .ok (.iload 9, 2) := by decide +kernel
theorem dX9_readText_144 : decode cX9_readText 144 = .ok (.aload_n 0, 1) := by decide +kernel
theorem dX9_readText_145 : decode cX9_readText 145 = .ok (.getfield 13, 3) := by decide +kernel
theorem dX9_readText_148 : decode cX9_readText 148 = .ok (.iload 9, 2) := by decide +kernel
theorem dX9_readText_150 : decode cX9_readText 150 = .ok (.laload, 1) := by decide +kernel
theorem dX9_readText_151 : decode cX9_readText 151 = .ok (.iload_n 3, 1) := by decide +kernel
theorem dX9_readText_152 : decode cX9_readText 152 = .ok (.iload 5, 2) := by decide +kernel
theorem dX9_readText_154 : decode cX9_readText 154 = .ok (.invokestatic 179, 3) := by decide +kernel
theorem dX9_readText_157 : decode cX9_readText 157 = .ok (.lastore, 1) := by decide +kernel
theorem dX9_readText_158 : decode cX9_readText 158 = .ok (.iinc 3 1, 3) := by decide +kernel
theorem dX9_readText_161 : decode cX9_readText 161 = .ok (.goto 163, 3) := by decide +kernel
theorem dX9_readText_164 : decode cX9_readText 164 = .ok (.iload_n 1, 1) := by decide +kernel
theorem dX9_readText_165 : decode cX9_readText 165 = .ok (.ifCond .ne 57, 3) := by decide +kernel
theorem dX9_readText_168 : decode cX9_readText 168 = .ok (.iload 8, 2) := by decide +kernel
theorem dX9_readText_170 : decode cX9_readText 170 = .ok (.ifCond .eq 52, 3) := by decide +kernel
theorem dX9_readText_173 : decode cX9_readText 173 = .ok (.iload 5, 2) := by decide +kernel
theorem dX9_readText_175 : decode cX9_readText 175 = .ok (.invokestatic 183, 3) := by decide +kernel
theorem dX9_readText_178 : decode cX9_readText 178 = .ok (.ifCond .eq 44, 3) := by decide +kernel
theorem dX9_readText_181 : decode cX9_readText 181 = .ok (.iload_n 2, 1) := by decide +kernel
theorem dX9_readText_182 : decode cX9_readText 182 = .ok (.iconst 3, 1) := by decide +kernel
theorem dX9_readText_183 : decode cX9_readText 183 = .ok (.if_icmp .ge 39, 3) := by decide +kernel
theorem dX9_readText_186 : decode cX9_readText 186 = .ok (.iinc 2 1, 3) := by decide +kernel
theorem dX9_readText_189 : decode cX9_readText 189 = .ok (.iconst 0, 1) := by decide +kernel
theorem dX9_readText_190 : decode cX9_readText 190 = .ok (.istore_n 3, 1) := by decide +kernel
theorem dX9_readText_191 : decode cX9_readText 191 = .ok (.aload_n 0, 1) := by decide +kernel
theorem dX9_readText_192 : decode cX9_readText 192 = .ok (.getfield 13, 3) := by decide +kernel
theorem dX9_readText_195 : decode cX9_readText 195 = .ok (.iload 6, 2) := by decide +kernel
theorem dX9_readText_197 : decode cX9_readText 197 = .ok (.dup2, 1) := by decide +kernel
theorem dX9_readText_198 : decode cX9_readText 198 = .ok (.laload, 1) := by decide +kernel
theorem dX9_readText_199 : decode cX9_readText 199 = .ok (.lconst 1, 1) := by decide +kernel
theorem dX9_readText_200 : decode cX9_readText 200 = .ok (.ladd, 1) := by decide +kernel
theorem dX9_readText_201 : decode cX9_readText 201 = .ok (.lastore, 1) := by decide +kernel
theorem dX9_readText_202 : decode cX9_readText 202 = .ok (.aload_n 0, 1) := by decide +kernel
theorem dX9_readText_203 : decode cX9_readText 203 = .ok (.getfield 13, 3) := by decide +kernel
theorem dX9_readText_206 : decode cX9_readText 206 = .ok (.iload 6, 2) := by decide +kernel
theorem dX9_readText_208 : decode cX9_readText 208 = .ok (.bipush 6, 2) := by decide +kernel
theorem dX9_readText_210 : decode cX9_readText 210 = .ok (.iadd, 1) := by decide +kernel
theorem dX9_readText_211 : decode cX9_readText 211 = .ok (.iconst 3, 1) := by decide +kernel
theorem dX9_readText_212 : decode cX9_readText 212 = .ok (.iload_n 2, 1) := by decide +kernel
theorem dX9_readText_213 : decode cX9_readText 213 = .ok (.imul, 1) := by decide +kernel
theorem dX9_readText_214 : decode cX9_readText 214 = .ok (.iadd, 1) := by decide +kernel
theorem dX9_readText_215 : decode cX9_readText 215 = .ok (.iload 5, 2) := by decide +kernel
theorem dX9_readText_217 : decode cX9_readText 217 = .ok (.i2l, 1) := by decide +kernel
theorem dX9_readText_218 : decode cX9_readText 218 = .ok (.lastore, 1) := by decide +kernel
theorem dX9_readText_219 : decode cX9_readText 219 = .ok (.goto 105, 3) := by decide +kernel
theorem dX9_readText_222 : decode cX9_readText 222 = .ok (.iload_n 1, 1) := by decide +kernel
theorem dX9_readText_223 : decode cX9_readText 223 = .ok (.ifCond .ne 24, 3) := by decide +kernel
theorem dX9_readText_226 : decode cX9_readText 226 = .ok (.iload 8, 2) := by decide +kernel
theorem dX9_readText_228 : decode cX9_readText 228 = .ok (.ifCond .eq 19, 3) := by decide +kernel
theorem dX9_readText_231 : decode cX9_readText 231 = .ok (.iload 5, 2) := by decide +kernel
theorem dX9_readText_233 : decode cX9_readText 233 = .ok (.bipush 58, 2) := by decide +kernel
theorem dX9_readText_235 : decode cX9_readText 235 = .ok (.if_icmp .ne 12, 3) := by decide +kernel
theorem dX9_readText_238 : decode cX9_readText 238 = .ok (.iconst 1, 1) := by decide +kernel
theorem dX9_readText_239 : decode cX9_readText 239 = .ok (.istore_n 1, 1) := by decide +kernel
theorem dX9_readText_240 : decode cX9_readText 240 = .ok (.iconst 0, 1) := by decide +kernel
theorem dX9_readText_241 : decode cX9_readText 241 = .ok (.istore_n 2, 1) := by decide +kernel
theorem dX9_readText_242 : decode cX9_readText 242 = .ok (.iconst 0, 1) := by decide +kernel
theorem dX9_readText_243 : decode cX9_readText 243 = .ok (.istore_n 3, 1) := by decide +kernel
theorem dX9_readText_244 : decode cX9_readText 244 = .ok (.goto 80, 3) := by decide +kernel
theorem dX9_readText_247 : decode cX9_readText 247 = .ok (.iload_n 1, 1) := by decide +kernel
theorem dX9_readText_248 : decode cX9_readText 248 = .ok (.ifCond .eq 39, 3) := by decide +kernel
theorem dX9_readText_251 : decode cX9_readText 251 = .ok (.iload 8, 2) := by decide +kernel
theorem dX9_readText_253 : decode cX9_readText 253 = .ok (.ifCond .ne 34, 3) := by decide +kernel
theorem dX9_readText_256 : decode cX9_readText 256 = .ok (.iload 5, 2) := by decide +kernel
theorem dX9_readText_258 : decode cX9_readText 258 = .ok (.i2l, 1) := by decide +kernel
theorem dX9_readText_259 : decode cX9_readText 259 = .ok (.aload_n 0, 1) := by decide +kernel
theorem dX9_readText_260 : decode cX9_readText 260 = .ok (.getfield 13, 3) := by decide +kernel
theorem dX9_readText_263 : decode cX9_readText 263 = .ok (.iload 6, 2) := by decide +kernel
theorem dX9_readText_265 : decode cX9_readText 265 = .ok (.bipush 6, 2) := by decide +kernel
theorem dX9_readText_267 : decode cX9_readText 267 = .ok (.iadd, 1) := by decide +kernel
theorem dX9_readText_268 : decode cX9_readText 268 = .ok (.iconst 3, 1) := by decide +kernel
theorem dX9_readText_269 : decode cX9_readText 269 = .ok (.iload_n 2, 1) := by decide +kernel
theorem dX9_readText_270 : decode cX9_readText 270 = .ok (.iconst 1, 1) := by decide +kernel
theorem dX9_readText_271 : decode cX9_readText 271 = .ok (.iadd, 1) := by decide +kernel
theorem dX9_readText_272 : decode cX9_readText 272 = .ok (.imul, 1) := by decide +kernel
theorem dX9_readText_273 : decode cX9_readText 273 = .ok (.iadd, 1) := by decide +kernel
theorem dX9_readText_274 : decode cX9_readText 274 = .ok (.laload, 1) := by decide +kernel
theorem dX9_readText_275 : decode cX9_readText 275 = .ok (.lcmp, 1) := by decide +kernel
theorem dX9_readText_276 : decode cX9_readText 276 = .ok (.ifCond .ne 11, 3) := by decide +kernel
theorem dX9_readText_279 : decode cX9_readText 279 = .ok (.iinc 2 1, 3) := by decide +kernel
theorem dX9_readText_282 : decode cX9_readText 282 = .ok (.iconst 0, 1) := by decide +kernel
theorem dX9_readText_283 : decode cX9_readText 283 = .ok (.istore_n 3, 1) := by decide +kernel
theorem dX9_readText_284 : decode cX9_readText 284 = .ok (.goto 40, 3) := by decide +kernel
theorem dX9_readText_287 : decode cX9_readText 287 = .ok (.iload 8, 2) := by decide +kernel
theorem dX9_readText_289 : decode cX9_readText 289 = .ok (.ifCond .eq 32, 3) := by decide +kernel
theorem dX9_readText_292 : decode cX9_readText 292 = .ok (.iload 5, 2) := by decide +kernel
theorem dX9_readText_294 : decode cX9_readText 294 = .ok (.bipush 32, 2) := by decide +kernel
theorem dX9_readText_296 : decode cX9_readText 296 = .ok (.if_icmp .ne 25, 3) := by decide +kernel
theorem dX9_readText_299 : decode cX9_readText 299 = .ok (.aload_n 0, 1) := by decide +kernel
theorem dX9_readText_300 : decode cX9_readText 300 = .ok (.getfield 154, 3) := by decide +kernel
theorem dX9_readText_303 : decode cX9_readText 303 = .ok (.bipush 12, 2) := by decide +kernel
theorem dX9_readText_305 : decode cX9_readText 305 = .ok (.if_icmp .ge 16, 3) := by decide +kernel
theorem dX9_readText_308 : decode cX9_readText 308 = .ok (.aload_n 0, 1) := by decide +kernel
theorem dX9_readText_309 : decode cX9_readText 309 = .ok (.invokevirtual 173, 3) := by decide +kernel
theorem dX9_readText_312 : decode cX9_readText 312 = .ok (.iconst 0, 1) := by decide +kernel
theorem dX9_readText_313 : decode cX9_readText 313 = .ok (.istore_n 1, 1) := by decide +kernel
theorem dX9_readText_314 : decode cX9_readText 314 = .ok (.iconst 0, 1) := by decide +kernel
theorem dX9_readText_315 : decode cX9_readText 315 = .ok (.istore_n 2, 1) := by decide +kernel
theorem dX9_readText_316 : decode cX9_readText 316 = .ok (.iconst 0, 1) := by decide +kernel
theorem dX9_readText_317 : decode cX9_readText 317 = .ok (.istore_n 3, 1) := by decide +kernel
theorem dX9_readText_318 : decode cX9_readText 318 = .ok (.goto 6, 3) := by decide +kernel
theorem dX9_readText_321 : decode cX9_readText 321 = .ok (.iload 4, 2) := by decide +kernel
theorem dX9_readText_323 : decode cX9_readText 323 = .ok (.ireturn, 1) := by decide +kernel
theorem dX9_readText_324 : decode cX9_readText 324 = .ok (.iinc 4 1, 3) := by decide +kernel
theorem dX9_readText_327 : decode cX9_readText 327 = .ok (.goto (-309), 3) := by decide +kernel
theorem dX9_readText_330 : decode cX9_readText 330 = .ok (.iload_n 1, 1) := by decide +kernel
theorem dX9_readText_331 : decode cX9_readText 331 = .ok (.ifCond .eq 33, 3) := by decide +kernel
theorem dX9_readText_334 : decode cX9_readText 334 = .ok (.iload_n 2, 1) := by decide +kernel
theorem dX9_readText_335 : decode cX9_readText 335 = .ok (.i2l, 1) := by decide +kernel
theorem dX9_readText_336 : decode cX9_readText 336 = .ok (.aload_n 0, 1) := by decide +kernel
theorem dX9_readText_337 : decode cX9_readText 337 = .ok (.getfield 13, 3) := by decide +kernel
theorem dX9_readText_340 : decode cX9_readText 340 = .ok (.bipush 18, 2) := by decide +kernel
theorem dX9_readText_342 : decode cX9_readText 342 = .ok (.aload_n 0, 1) := by decide +kernel
theorem dX9_readText_343 : decode cX9_readText 343 = .ok (.getfield 154, 3) := by decide +kernel
theorem dX9_readText_346 : decode cX9_readText 346 = .ok (.iconst 1, 1) := by decide +kernel
theorem dX9_readText_347 : decode cX9_readText 347 = .ok (.isub, 1) := by decide +kernel
theorem dX9_readText_348 : decode cX9_readText 348 = .ok (.imul, 1) := by decide +kernel
theorem dX9_readText_349 : decode cX9_readText 349 = .ok (.laload, 1) := by decide +kernel
theorem dX9_readText_350 : decode cX9_readText 350 = .ok (.lconst 1, 1) := by decide +kernel
theorem dX9_readText_351 : decode cX9_readText 351 = .ok (.lsub, 1) := by decide +kernel
theorem dX9_readText_352 : decode cX9_readText 352 = .ok (.lcmp, 1) := by decide +kernel
theorem dX9_readText_353 : decode cX9_readText 353 = .ok (.ifCond .ne 7, 3) := by decide +kernel
theorem dX9_readText_356 : decode cX9_readText 356 = .ok (.iconst 1, 1) := by decide +kernel
theorem dX9_readText_357 : decode cX9_readText 357 = .ok (.goto 16, 3) := by decide +kernel
theorem dX9_readText_360 : decode cX9_readText 360 = .ok (.iconst 0, 1) := by decide +kernel
theorem dX9_readText_361 : decode cX9_readText 361 = .ok (.goto 12, 3) := by decide +kernel
theorem dX9_readText_364 : decode cX9_readText 364 = .ok (.iload_n 3, 1) := by decide +kernel
theorem dX9_readText_365 : decode cX9_readText 365 = .ok (.ifCond .le 7, 3) := by decide +kernel
theorem dX9_readText_368 : decode cX9_readText 368 = .ok (.iconst 1, 1) := by decide +kernel
theorem dX9_readText_369 : decode cX9_readText 369 = .ok (.goto 4, 3) := by decide +kernel
theorem dX9_readText_372 : decode cX9_readText 372 = .ok (.iconst 0, 1) := by decide +kernel
theorem dX9_readText_373 : decode cX9_readText 373 = .ok (.istore 4, 2) := by decide +kernel
theorem dX9_readText_375 : decode cX9_readText 375 = .ok (.iload 4, 2) := by decide +kernel
theorem dX9_readText_377 : decode cX9_readText 377 = .ok (.ifCond .eq 8, 3) := by decide +kernel
theorem dX9_readText_380 : decode cX9_readText 380 = .ok (.bipush (-9), 2) := by decide +kernel
theorem dX9_readText_382 : decode cX9_readText 382 = .ok (.goto 7, 3) := by decide +kernel
theorem dX9_readText_385 : decode cX9_readText 385 = .ok (.aload_n 0, 1) := by decide +kernel
theorem dX9_readText_386 : decode cX9_readText 386 = .ok (.getfield 159, 3) := by decide +kernel
theorem dX9_readText_389 : decode cX9_readText 389 = .ok (.ireturn, 1) := by decide +kernel
theorem dX9_errorPosition_0 : decode cX9_errorPosition 0 = .ok (.aload_n 0, 1) := by decide +kernel
theorem dX9_errorPosition_1 : decode cX9_errorPosition 1 = .ok (.iconst 0, 1) := by decide +kernel
theorem dX9_errorPosition_2 : decode cX9_errorPosition 2 = .ok (.putfield 65, 3) := by decide +kernel
theorem dX9_errorPosition_5 : decode cX9_errorPosition 5 = .ok (.aload_n 0, 1) := by decide +kernel
theorem dX9_errorPosition_6 : decode cX9_errorPosition 6 = .ok (.invokevirtual 186, 3) := by decide +kernel
theorem dX9_errorPosition_9 : decode cX9_errorPosition 9 = .ok (.ireturn, 1) := by decide +kernel
theorem dX9_load_0 : decode cX9_load 0 = .ok (.aload_n 0, 1) := by decide +kernel
theorem dX9_load_1 : decode cX9_load 1 = .ok (.aload_n 0, 1) := by decide +kernel
theorem dX9_load_2 : decode cX9_load 2 = .ok (.invokevirtual 186, 3) := by decide +kernel
theorem dX9_load_5 : decode cX9_load 5 = .ok (.bipush (-9), 2) := by decide +kernel
theorem dX9_load_7 : decode cX9_load 7 = .ok (.if_icmp .ne 7, 3) := by decide +kernel
theorem dX9_load_10 : decode cX9_load 10 = .ok (.iconst 0, 1) := by decide +kernel
theorem dX9_load_11 : decode cX9_load 11 = .ok (.goto 4, 3) := by decide +kernel
theorem dX9_load_14 : decode cX9_load 14 = .ok (.iconst 1, 1) := by decide +kernel
theorem dX9_load_15 : decode cX9_load 15 = .ok (.invokevirtual 162, 3) := by decide +kernel
theorem dX9_load_18 : decode cX9_load 18 = .ok (.ifCond .eq 5, 3) := by decide +kernel
theorem dX9_load_21 : decode cX9_load 21 = .ok (.iconst 0, 1) := by decide +kernel
theorem dX9_load_22 : decode cX9_load 22 = .ok (.ireturn, 1) := by decide +kernel
theorem dX9_load_23 : decode cX9_load 23 = .ok (.aload_n 0, 1) := by decide +kernel
theorem dX9_load_24 : decode cX9_load 24 = .ok (.getfield 17, 3) := by decide +kernel
theorem dX9_load_27 : decode cX9_load 27 = .ok (.invokestatic 57, 3) := by decide +kernel
theorem dX9_load_30 : decode cX9_load 30 = .ok (.aload_n 0, 1) := by decide +kernel
theorem dX9_load_31 : decode cX9_load 31 = .ok (.aload_n 0, 1) := by decide +kernel
theorem dX9_load_32 : decode cX9_load 32 = .ok (.getfield 17, 3) := by decide +kernel
theorem dX9_load_35 : decode cX9_load 35 = .ok (.iconst 0, 1) := by decide +kernel
theorem dX9_load_36 : decode cX9_load 36 = .ok (.invokevirtual 190, 3) := by decide +kernel
theorem dX9_load_39 : decode cX9_load 39 = .ok (.aload_n 0, 1) := by decide +kernel
theorem dX9_load_40 : decode cX9_load 40 = .ok (.iconst 0, 1) := by decide +kernel
theorem dX9_load_41 : decode cX9_load 41 = .ok (.putfield 71, 3) := by decide +kernel
theorem dX9_load_44 : decode cX9_load 44 = .ok (.aload_n 0, 1) := by decide +kernel
theorem dX9_load_45 : decode cX9_load 45 = .ok (.getfield 29, 3) := by decide +kernel
theorem dX9_load_48 : decode cX9_load 48 = .ok (.iconst 0, 1) := by decide +kernel
theorem dX9_load_49 : decode cX9_load 49 = .ok (.iconst 0, 1) := by decide +kernel
theorem dX9_load_50 : decode cX9_load 50 = .ok (.bastore, 1) := by decide +kernel
theorem dX9_load_51 : decode cX9_load 51 = .ok (.aload_n 0, 1) := by decide +kernel
theorem dX9_load_52 : decode cX9_load 52 = .ok (.getfield 29, 3) := by decide +kernel
theorem dX9_load_55 : decode cX9_load 55 = .ok (.iconst 1, 1) := by decide +kernel
theorem dX9_load_56 : decode cX9_load 56 = .ok (.iconst 0, 1) := by decide +kernel
theorem dX9_load_57 : decode cX9_load 57 = .ok (.bastore, 1) := by decide +kernel
theorem dX9_load_58 : decode cX9_load 58 = .ok (.aload_n 0, 1) := by decide +kernel
theorem dX9_load_59 : decode cX9_load 59 = .ok (.getfield 17, 3) := by decide +kernel
theorem dX9_load_62 : decode cX9_load 62 = .ok (.invokestatic 86, 3) := by decide +kernel
theorem dX9_load_65 : decode cX9_load 65 = .ok (.ireturn, 1) := by decide +kernel
theorem dX9_unlike_0 : decode cX9_unlike 0 = .ok (.iconst 0, 1) := by decide +kernel
theorem dX9_unlike_1 : decode cX9_unlike 1 = .ok (.istore_n 1, 1) := by decide +kernel
theorem dX9_unlike_2 : decode cX9_unlike 2 = .ok (.iconst 0, 1) := by decide +kernel
theorem dX9_unlike_3 : decode cX9_unlike 3 = .ok (.istore_n 2, 1) := by decide +kernel
theorem dX9_unlike_4 : decode cX9_unlike 4 = .ok (.iload_n 2, 1) := by decide +kernel
theorem dX9_unlike_5 : decode cX9_unlike 5 = .ok (.aload_n 0, 1) := by decide +kernel
theorem dX9_unlike_6 : decode cX9_unlike 6 = .ok (.invokestatic 86, 3) := by decide +kernel
theorem dX9_unlike_9 : decode cX9_unlike 9 = .ok (.if_icmp .ge 86, 3) := by decide +kernel
theorem dX9_unlike_12 : decode cX9_unlike 12 = .ok (.iconst 0, 1) := by decide +kernel
theorem dX9_unlike_13 : decode cX9_unlike 13 = .ok (.istore_n 3, 1) := by decide +kernel
theorem dX9_unlike_14 : decode cX9_unlike 14 = .ok (.iload_n 3, 1) := by decide +kernel
theorem dX9_unlike_15 : decode cX9_unlike 15 = .ok (.aload_n 0, 1) := by decide +kernel
theorem dX9_unlike_16 : decode cX9_unlike 16 = .ok (.iload_n 2, 1) := by decide +kernel
theorem dX9_unlike_17 : decode cX9_unlike 17 = .ok (.invokestatic 98, 3) := by decide +kernel
theorem dX9_unlike_20 : decode cX9_unlike 20 = .ok (.if_icmp .ge 69, 3) := by decide +kernel
theorem dX9_unlike_23 : decode cX9_unlike 23 = .ok (.aload_n 0, 1) := by decide +kernel
theorem dX9_unlike_24 : decode cX9_unlike 24 = .ok (.aload_n 0, 1) := by decide +kernel
theorem dX9_unlike_25 : decode cX9_unlike 25 = .ok (.iload_n 2, 1) := by decide +kernel
theorem dX9_unlike_26 : decode cX9_unlike 26 = .ok (.iload_n 3, 1) := by decide +kernel
theorem dX9_unlike_27 : decode cX9_unlike 27 = .ok (.invokestatic 109, 3) := by decide +kernel
theorem dX9_unlike_30 : decode cX9_unlike 30 = .ok (.laload, 1) := by decide +kernel
theorem dX9_unlike_31 : decode cX9_unlike 31 = .ok (.invokestatic 145, 3) := by decide +kernel
theorem dX9_unlike_34 : decode cX9_unlike 34 = .ok (.istore 4, 2) := by decide +kernel
theorem dX9_unlike_36 : decode cX9_unlike 36 = .ok (.aload_n 0, 1) := by decide +kernel
theorem dX9_unlike_37 : decode cX9_unlike 37 = .ok (.iload_n 2, 1) := by decide +kernel
theorem dX9_unlike_38 : decode cX9_unlike 38 = .ok (.iload_n 3, 1) := by decide +kernel
theorem dX9_unlike_39 : decode cX9_unlike 39 = .ok (.invokestatic 102, 3) := by decide +kernel
theorem dX9_unlike_42 : decode cX9_unlike 42 = .ok (.laload, 1) := by decide +kernel
theorem dX9_unlike_43 : decode cX9_unlike 43 = .ok (.lstore 5, 2) := by decide +kernel
theorem dX9_unlike_45 : decode cX9_unlike 45 = .ok (.iload_n 1, 1) := by decide +kernel
theorem dX9_unlike_46 : decode cX9_unlike 46 = .ok (.iload 4, 2) := by decide +kernel
theorem dX9_unlike_48 : decode cX9_unlike 48 = .ok (.ifCond .lt 32, 3) := by decide +kernel
theorem dX9_unlike_51 : decode cX9_unlike 51 = .ok (.lload 5, 2) := by decide +kernel
theorem dX9_unlike_53 : decode cX9_unlike 53 = .ok (.lconst 0, 1) := by decide +kernel
theorem dX9_unlike_54 : decode cX9_unlike 54 = .ok (.lcmp, 1) := by decide +kernel
theorem dX9_unlike_55 : decode cX9_unlike 55 = .ok (.ifCond .eq 25, 3) := by decide +kernel
theorem dX9_unlike_58 : decode cX9_unlike 58 = .ok (.lload 5, 2) := by decide +kernel
theorem dX9_unlike_60 : decode cX9_unlike 60 = .ok (.aload_n 0, 1) := by decide +kernel
theorem dX9_unlike_61 : decode cX9_unlike 61 = .ok (.sipush 221, 3) := by decide +kernel
theorem dX9_unlike_64 : decode cX9_unlike 64 = .ok (.iconst 2, 1) := by decide +kernel
theorem dX9_unlike_65 : decode cX9_unlike 65 = .ok (.iload 4, 2) := by decide +kernel
theorem dX9_unlike_67 : decode cX9_unlike 67 = .ok (.imul, 1) := by decide +kernel
theorem dX9_unlike_68 : decode cX9_unlike 68 = .ok (.iadd, 1) := by decide +kernel
theorem dX9_unlike_69 : decode cX9_unlike 69 = .ok (.iconst 1, 1) := by decide +kernel
theorem dX9_unlike_70 : decode cX9_unlike 70 = .ok (.iadd, 1) := by decide +kernel
theorem dX9_unlike_71 : decode cX9_unlike 71 = .ok (.laload, 1) := by decide +kernel
theorem dX9_unlike_72 : decode cX9_unlike 72 = .ok (.lcmp, 1) := by decide +kernel
theorem dX9_unlike_73 : decode cX9_unlike 73 = .ok (.ifCond .eq 7, 3) := by decide +kernel
theorem dX9_unlike_76 : decode cX9_unlike 76 = .ok (.iconst 1, 1) := by decide +kernel
theorem dX9_unlike_77 : decode cX9_unlike 77 = .ok (.goto 4, 3) := by decide +kernel
theorem dX9_unlike_80 : decode cX9_unlike 80 = .ok (.iconst 0, 1) := by decide +kernel
theorem dX9_unlike_81 : decode cX9_unlike 81 = .ok (.iadd, 1) := by decide +kernel
theorem dX9_unlike_82 : decode cX9_unlike 82 = .ok (.istore_n 1, 1) := by decide +kernel
theorem dX9_unlike_83 : decode cX9_unlike 83 = .ok (.iinc 3 1, 3) := by decide +kernel
theorem dX9_unlike_86 : decode cX9_unlike 86 = .ok (.goto (-72), 3) := by decide +kernel
theorem dX9_unlike_89 : decode cX9_unlike 89 = .ok (.iinc 2 1, 3) := by decide +kernel
theorem dX9_unlike_92 : decode cX9_unlike 92 = .ok (.goto (-88), 3) := by decide +kernel
theorem dX9_unlike_95 : decode cX9_unlike 95 = .ok (.iload_n 1, 1) := by decide +kernel
theorem dX9_unlike_96 : decode cX9_unlike 96 = .ok (.ireturn, 1) := by decide +kernel
theorem dX9_about_0 : decode cX9_about 0 = .ok (.aload_n 0, 1) := by decide +kernel
theorem dX9_about_1 : decode cX9_about 1 = .ok (.iload_n 1, 1) := by decide +kernel
theorem dX9_about_2 : decode cX9_about 2 = .ok (.i2l, 1) := by decide +kernel
theorem dX9_about_3 : decode cX9_about 3 = .ok (.lconst 0, 1) := by decide +kernel
theorem dX9_about_4 : decode cX9_about 4 = .ok (.ldc2_w 194, 3) := by decide +kernel
theorem dX9_about_7 : decode cX9_about 7 = .ok (.invokestatic 90, 3) := by decide +kernel
theorem dX9_about_10 : decode cX9_about 10 = .ok (.ifCond .eq 7, 3) := by decide +kernel
theorem dX9_about_13 : decode cX9_about 13 = .ok (.iconst 0, 1) := by decide +kernel
theorem dX9_about_14 : decode cX9_about 14 = .ok (.goto 4, 3) := by decide +kernel
theorem dX9_about_17 : decode cX9_about 17 = .ok (.iconst 1, 1) := by decide +kernel
theorem dX9_about_18 : decode cX9_about 18 = .ok (.invokevirtual 162, 3) := by decide +kernel
theorem dX9_about_21 : decode cX9_about 21 = .ok (.ifCond .eq 5, 3) := by decide +kernel
theorem dX9_about_24 : decode cX9_about 24 = .ok (.iconst 0, 1) := by decide +kernel
theorem dX9_about_25 : decode cX9_about 25 = .ok (.ireturn, 1) := by decide +kernel
theorem dX9_about_26 : decode cX9_about 26 = .ok (.aload_n 0, 1) := by decide +kernel
theorem dX9_about_27 : decode cX9_about 27 = .ok (.invokevirtual 196, 3) := by decide +kernel
theorem dX9_about_30 : decode cX9_about 30 = .ok (.iconst 0, 1) := by decide +kernel
theorem dX9_about_31 : decode cX9_about 31 = .ok (.istore_n 2, 1) := by decide +kernel
theorem dX9_about_32 : decode cX9_about 32 = .ok (.iload_n 1, 1) := by decide +kernel
theorem dX9_about_33 : decode cX9_about 33 = .ok (.tableswitch 176 0 8 #[51, 59, 91, 99, 104, 109, 114, 160, 168], 51) := by decide +kernel
theorem dX9_about_84 : decode cX9_about 84 = .ok (.aload_n 0, 1) := by decide +kernel
theorem dX9_about_85 : decode cX9_about 85 = .ok (.getfield 17, 3) := by decide +kernel
theorem dX9_about_88 : decode cX9_about 88 = .ok (.invokestatic 86, 3) := by decide +kernel
theorem dX9_about_91 : decode cX9_about 91 = .ok (.ireturn, 1) := by decide +kernel
theorem dX9_about_92 : decode cX9_about 92 = .ok (.iconst 0, 1) := by decide +kernel
theorem dX9_about_93 : decode cX9_about 93 = .ok (.istore_n 3, 1) := by decide +kernel
theorem dX9_about_94 : decode cX9_about 94 = .ok (.iload_n 3, 1) := by decide +kernel
theorem dX9_about_95 : decode cX9_about 95 = .ok (.aload_n 0, 1) := by decide +kernel
theorem dX9_about_96 : decode cX9_about 96 = .ok (.getfield 17, 3) := by decide +kernel
theorem dX9_about_99 : decode cX9_about 99 = .ok (.invokestatic 86, 3) := by decide +kernel
theorem dX9_about_102 : decode cX9_about 102 = .ok (.if_icmp .ge 20, 3) := by decide +kernel
theorem dX9_about_105 : decode cX9_about 105 = .ok (.iload_n 2, 1) := by decide +kernel
theorem dX9_about_106 : decode cX9_about 106 = .ok (.aload_n 0, 1) := by decide +kernel
theorem dX9_about_107 : decode cX9_about 107 = .ok (.getfield 17, 3) := by decide +kernel
theorem dX9_about_110 : decode cX9_about 110 = .ok (.iload_n 3, 1) := by decide +kernel
theorem dX9_about_111 : decode cX9_about 111 = .ok (.invokestatic 98, 3) := by decide +kernel
theorem dX9_about_114 : decode cX9_about 114 = .ok (.iadd, 1) := by decide +kernel
theorem dX9_about_115 : decode cX9_about 115 = .ok (.istore_n 2, 1) := by decide +kernel
theorem dX9_about_116 : decode cX9_about 116 = .ok (.iinc 3 1, 3) := by decide +kernel
theorem dX9_about_119 : decode cX9_about 119 = .ok (.goto (-25), 3) := by decide +kernel
theorem dX9_about_122 : decode cX9_about 122 = .ok (.iload_n 2, 1) := by decide +kernel
theorem dX9_about_123 : decode cX9_about 123 = .ok (.ireturn, 1) := by decide +kernel
theorem dX9_about_124 : decode cX9_about 124 = .ok (.aload_n 0, 1) := by decide +kernel
theorem dX9_about_125 : decode cX9_about 125 = .ok (.getfield 17, 3) := by decide +kernel
theorem dX9_about_128 : decode cX9_about 128 = .ok (.invokestatic 199, 3) := by decide +kernel
theorem dX9_about_131 : decode cX9_about 131 = .ok (.ireturn, 1) := by decide +kernel
theorem dX9_about_132 : decode cX9_about 132 = .ok (.aload_n 0, 1) := by decide +kernel
theorem dX9_about_133 : decode cX9_about 133 = .ok (.getfield 122, 3) := by decide +kernel
theorem dX9_about_136 : decode cX9_about 136 = .ok (.ireturn, 1) := by decide +kernel
theorem dX9_about_137 : decode cX9_about 137 = .ok (.aload_n 0, 1) := by decide +kernel
theorem dX9_about_138 : decode cX9_about 138 = .ok (.getfield 119, 3) := by decide +kernel
theorem dX9_about_141 : decode cX9_about 141 = .ok (.ireturn, 1) := by decide +kernel
theorem dX9_about_142 : decode cX9_about 142 = .ok (.aload_n 0, 1) := by decide +kernel
theorem dX9_about_143 : decode cX9_about 143 = .ok (.getfield 116, 3) := by decide +kernel
theorem dX9_about_146 : decode cX9_about 146 = .ok (.ireturn, 1) := by decide +kernel
theorem dX9_about_147 : decode cX9_about 147 = .ok (.iconst 0, 1) := by decide +kernel
theorem dX9_about_148 : decode cX9_about 148 = .ok (.istore_n 3, 1) := by decide +kernel
theorem dX9_about_149 : decode cX9_about 149 = .ok (.iload_n 3, 1) := by decide +kernel
theorem dX9_about_150 : decode cX9_about 150 = .ok (.aload_n 0, 1) := by decide +kernel
theorem dX9_about_151 : decode cX9_about 151 = .ok (.getfield 17, 3) := by decide +kernel
theorem dX9_about_154 : decode cX9_about 154 = .ok (.invokestatic 86, 3) := by decide +kernel
theorem dX9_about_157 : decode cX9_about 157 = .ok (.if_icmp .ge 34, 3) := by decide +kernel
theorem dX9_about_160 : decode cX9_about 160 = .ok (.iload_n 2, 1) := by decide +kernel
theorem dX9_about_161 : decode cX9_about 161 = .ok (.aload_n 0, 1) := by decide +kernel
theorem dX9_about_162 : decode cX9_about 162 = .ok (.getfield 39, 3) := by decide +kernel
theorem dX9_about_165 : decode cX9_about 165 = .ok (.iload_n 3, 1) := by decide +kernel
theorem dX9_about_166 : decode cX9_about 166 = .ok (.iaload, 1) := by decide +kernel
theorem dX9_about_167 : decode cX9_about 167 = .ok (.i2l, 1) := by decide +kernel
theorem dX9_about_168 : decode cX9_about 168 = .ok (.aload_n 0, 1) := by decide +kernel
theorem dX9_about_169 : decode cX9_about 169 = .ok (.getfield 17, 3) := by decide +kernel
theorem dX9_about_172 : decode cX9_about 172 = .ok (.iconst 2, 1) := by decide +kernel
theorem dX9_about_173 : decode cX9_about 173 = .ok (.laload, 1) := by decide +kernel
theorem dX9_about_174 : decode cX9_about 174 = .ok (.lcmp, 1) := by decide +kernel
theorem dX9_about_175 : decode cX9_about 175 = .ok (.ifCond .le 7, 3) := by decide +kernel
theorem dX9_about_178 : decode cX9_about 178 = .ok (.iconst 1, 1) := by decide +kernel
theorem dX9_about_179 : decode cX9_about 179 = .ok (.goto 4, 3) := by decide +kernel
theorem dX9_about_182 : decode cX9_about 182 = .ok (.iconst 0, 1) := by decide +kernel
theorem dX9_about_183 : decode cX9_about 183 = .ok (.iadd, 1) := by decide +kernel
theorem dX9_about_184 : decode cX9_about 184 = .ok (.istore_n 2, 1) := by decide +kernel
theorem dX9_about_185 : decode cX9_about 185 = .ok (.iinc 3 1, 3) := by decide +kernel
theorem dX9_about_188 : decode cX9_about 188 = .ok (.goto (-39), 3) := by decide +kernel
theorem dX9_about_191 : decode cX9_about 191 = .ok (.iload_n 2, 1) := by decide +kernel
theorem dX9_about_192 : decode cX9_about 192 = .ok (.ireturn, 1) := by decide +kernel
theorem dX9_about_193 : decode cX9_about 193 = .ok (.aload_n 0, 1) := by decide +kernel
theorem dX9_about_194 : decode cX9_about 194 = .ok (.getfield 17, 3) := by decide +kernel
theorem dX9_about_197 : decode cX9_about 197 = .ok (.iconst 1, 1) := by decide +kernel
theorem dX9_about_198 : decode cX9_about 198 = .ok (.laload, 1) := by decide +kernel
theorem dX9_about_199 : decode cX9_about 199 = .ok (.l2i, 1) := by decide +kernel
theorem dX9_about_200 : decode cX9_about 200 = .ok (.ireturn, 1) := by decide +kernel
theorem dX9_about_201 : decode cX9_about 201 = .ok (.aload_n 0, 1) := by decide +kernel
theorem dX9_about_202 : decode cX9_about 202 = .ok (.getfield 17, 3) := by decide +kernel
theorem dX9_about_205 : decode cX9_about 205 = .ok (.invokestatic 202, 3) := by decide +kernel
theorem dX9_about_208 : decode cX9_about 208 = .ok (.ireturn, 1) := by decide +kernel
theorem dX9_about_209 : decode cX9_about 209 = .ok (.aload_n 0, 1) := by decide +kernel
theorem dX9_about_210 : decode cX9_about 210 = .ok (.getfield 17, 3) := by decide +kernel
theorem dX9_about_213 : decode cX9_about 213 = .ok (.iconst 2, 1) := by decide +kernel
theorem dX9_about_214 : decode cX9_about 214 = .ok (.iload_n 1, 1) := by decide +kernel
theorem dX9_about_215 : decode cX9_about 215 = .ok (.iadd, 1) := by decide +kernel
theorem dX9_about_216 : decode cX9_about 216 = .ok (.bipush 9, 2) := by decide +kernel
theorem dX9_about_218 : decode cX9_about 218 = .ok (.isub, 1) := by decide +kernel
theorem dX9_about_219 : decode cX9_about 219 = .ok (.laload, 1) := by decide +kernel
theorem dX9_about_220 : decode cX9_about 220 = .ok (.l2i, 1) := by decide +kernel
theorem dX9_about_221 : decode cX9_about 221 = .ok (.ireturn, 1) := by decide +kernel
theorem dX9_layNow_0 : decode cX9_layNow 0 = .ok (.aload_n 0, 1) := by decide +kernel
theorem dX9_layNow_1 : decode cX9_layNow 1 = .ok (.aload_n 0, 1) := by decide +kernel
theorem dX9_layNow_2 : decode cX9_layNow 2 = .ok (.getfield 17, 3) := by decide +kernel
theorem dX9_layNow_5 : decode cX9_layNow 5 = .ok (.aload_n 0, 1) := by decide +kernel
theorem dX9_layNow_6 : decode cX9_layNow 6 = .ok (.getfield 17, 3) := by decide +kernel
theorem dX9_layNow_9 : decode cX9_layNow 9 = .ok (.iconst 2, 1) := by decide +kernel
theorem dX9_layNow_10 : decode cX9_layNow 10 = .ok (.laload, 1) := by decide +kernel
theorem dX9_layNow_11 : decode cX9_layNow 11 = .ok (.l2i, 1) := by decide +kernel
theorem dX9_layNow_12 : decode cX9_layNow 12 = .ok (.aload_n 0, 1) := by decide +kernel
theorem dX9_layNow_13 : decode cX9_layNow 13 = .ok (.getfield 17, 3) := by decide +kernel
theorem dX9_layNow_16 : decode cX9_layNow 16 = .ok (.iconst 4, 1) := by decide +kernel
theorem dX9_layNow_17 : decode cX9_layNow 17 = .ok (.laload, 1) := by decide +kernel
theorem dX9_layNow_18 : decode cX9_layNow 18 = .ok (.l2i, 1) := by decide +kernel
theorem dX9_layNow_19 : decode cX9_layNow 19 = .ok (.invokevirtual 132, 3) := by decide +kernel
theorem dX9_layNow_22 : decode cX9_layNow 22 = .ok (.return_, 1) := by decide +kernel
theorem dX9_word_0 : decode cX9_word 0 = .ok (.aload_n 0, 1) := by decide +kernel
theorem dX9_word_1 : decode cX9_word 1 = .ok (.aload_n 0, 1) := by decide +kernel
theorem dX9_word_2 : decode cX9_word 2 = .ok (.iload_n 1, 1) := by decide +kernel
theorem dX9_word_3 : decode cX9_word 3 = .ok (.invokevirtual 205, 3) := by decide +kernel
theorem dX9_word_6 : decode cX9_word 6 = .ok (.ifCond .ne 7, 3) := by decide +kernel
theorem dX9_word_9 : decode cX9_word 9 = .ok (.iconst 1, 1) := by decide +kernel
theorem dX9_word_10 : decode cX9_word 10 = .ok (.goto 20, 3) := by decide +kernel
theorem dX9_word_13 : decode cX9_word 13 = .ok (.iload_n 2, 1) := by decide +kernel
theorem dX9_word_14 : decode cX9_word 14 = .ok (.i2l, 1) := by decide +kernel
theorem dX9_word_15 : decode cX9_word 15 = .ok (.lconst 0, 1) := by decide +kernel
theorem dX9_word_16 : decode cX9_word 16 = .ok (.ldc2_w 208, 3) := by decide +kernel
theorem dX9_word_19 : decode cX9_word 19 = .ok (.invokestatic 90, 3) := by decide +kernel
theorem dX9_word_22 : decode cX9_word 22 = .ok (.ifCond .ne 7, 3) := by decide +kernel
theorem dX9_word_25 : decode cX9_word 25 = .ok (.iconst 2, 1) := by decide +kernel
theorem dX9_word_26 : decode cX9_word 26 = .ok (.goto 4, 3) := by decide +kernel
theorem dX9_word_29 : decode cX9_word 29 = .ok (.iconst 0, 1) := by decide +kernel
theorem dX9_word_30 : decode cX9_word 30 = .ok (.invokevirtual 162, 3) := by decide +kernel
theorem dX9_word_33 : decode cX9_word 33 = .ok (.ifCond .eq 5, 3) := by decide +kernel
theorem dX9_word_36 : decode cX9_word 36 = .ok (.iconst 0, 1) := by decide +kernel
theorem dX9_word_37 : decode cX9_word 37 = .ok (.ireturn, 1) := by decide +kernel
theorem dX9_word_38 : decode cX9_word 38 = .ok (.aload_n 0, 1) := by decide +kernel
theorem dX9_word_39 : decode cX9_word 39 = .ok (.invokevirtual 196, 3) := by decide +kernel
theorem dX9_word_42 : decode cX9_word 42 = .ok (.iload_n 2, 1) := by decide +kernel
theorem dX9_word_43 : decode cX9_word 43 = .ok (.tableswitch 99 0 6 #[41, 50, 57, 64, 71, 78, 90], 41) := by decide +kernel
theorem dX9_word_84 : decode cX9_word 84 = .ok (.aload_n 0, 1) := by decide +kernel
theorem dX9_word_85 : decode cX9_word 85 = .ok (.getfield 17, 3) := by decide +kernel
theorem dX9_word_88 : decode cX9_word 88 = .ok (.iload_n 1, 1) := by decide +kernel
theorem dX9_word_89 : decode cX9_word 89 = .ok (.invokestatic 98, 3) := by decide +kernel
theorem dX9_word_92 : decode cX9_word 92 = .ok (.ireturn, 1) := by decide +kernel
theorem dX9_word_93 : decode cX9_word 93 = .ok (.aload_n 0, 1) := by decide +kernel
theorem dX9_word_94 : decode cX9_word 94 = .ok (.getfield 39, 3) := by decide +kernel
theorem dX9_word_97 : decode cX9_word 97 = .ok (.iload_n 1, 1) := by decide +kernel
theorem dX9_word_98 : decode cX9_word 98 = .ok (.iaload, 1) := by decide +kernel
theorem dX9_word_99 : decode cX9_word 99 = .ok (.ireturn, 1) := by decide +kernel
theorem dX9_word_100 : decode cX9_word 100 = .ok (.aload_n 0, 1) := by decide +kernel
theorem dX9_word_101 : decode cX9_word 101 = .ok (.getfield 33, 3) := by decide +kernel
theorem dX9_word_104 : decode cX9_word 104 = .ok (.iload_n 1, 1) := by decide +kernel
theorem dX9_word_105 : decode cX9_word 105 = .ok (.iaload, 1) := by decide +kernel
theorem dX9_word_106 : decode cX9_word 106 = .ok (.ireturn, 1) := by decide +kernel
theorem dX9_word_107 : decode cX9_word 107 = .ok (.aload_n 0, 1) := by decide +kernel
theorem dX9_word_108 : decode cX9_word 108 = .ok (.getfield 36, 3) := by decide +kernel
theorem dX9_word_111 : decode cX9_word 111 = .ok (.iload_n 1, 1) := by decide +kernel
theorem dX9_word_112 : decode cX9_word 112 = .ok (.iaload, 1) := by decide +kernel
theorem dX9_word_113 : decode cX9_word 113 = .ok (.ireturn, 1) := by decide +kernel
theorem dX9_word_114 : decode cX9_word 114 = .ok (.aload_n 0, 1) := by decide +kernel
theorem dX9_word_115 : decode cX9_word 115 = .ok (.getfield 42, 3) := by decide +kernel
theorem dX9_word_118 : decode cX9_word 118 = .ok (.iload_n 1, 1) := by decide +kernel
theorem dX9_word_119 : decode cX9_word 119 = .ok (.iaload, 1) := by decide +kernel
theorem dX9_word_120 : decode cX9_word 120 = .ok (.ireturn, 1) := by decide +kernel
theorem dX9_word_121 : decode cX9_word 121 = .ok (.aload_n 0, 1) := by decide +kernel
theorem dX9_word_122 : decode cX9_word 122 = .ok (.getfield 17, 3) := by decide +kernel
theorem dX9_word_125 : decode cX9_word 125 = .ok (.iload_n 1, 1) := by decide +kernel
theorem dX9_word_126 : decode cX9_word 126 = .ok (.iconst 1, 1) := by decide +kernel
theorem dX9_word_127 : decode cX9_word 127 = .ok (.invokestatic 82, 3) := by decide +kernel
theorem dX9_word_130 : decode cX9_word 130 = .ok (.laload, 1) := by decide +kernel
theorem dX9_word_131 : decode cX9_word 131 = .ok (.l2i, 1) := by decide +kernel
theorem dX9_word_132 : decode cX9_word 132 = .ok (.ireturn, 1) := by decide +kernel
theorem dX9_word_133 : decode cX9_word 133 = .ok (.aload_n 0, 1) := by decide +kernel
theorem dX9_word_134 : decode cX9_word 134 = .ok (.getfield 17, 3) := by decide +kernel
theorem dX9_word_137 : decode cX9_word 137 = .ok (.iload_n 1, 1) := by decide +kernel
theorem dX9_word_138 : decode cX9_word 138 = .ok (.invokestatic 151, 3) := by decide +kernel
theorem dX9_word_141 : decode cX9_word 141 = .ok (.ireturn, 1) := by decide +kernel
theorem dX9_word_142 : decode cX9_word 142 = .ok (.aload_n 0, 1) := by decide +kernel
theorem dX9_word_143 : decode cX9_word 143 = .ok (.getfield 17, 3) := by decide +kernel
theorem dX9_word_146 : decode cX9_word 146 = .ok (.iload_n 1, 1) := by decide +kernel
theorem dX9_word_147 : decode cX9_word 147 = .ok (.iconst 2, 1) := by decide +kernel
theorem dX9_word_148 : decode cX9_word 148 = .ok (.invokestatic 82, 3) := by decide +kernel
theorem dX9_word_151 : decode cX9_word 151 = .ok (.laload, 1) := by decide +kernel
theorem dX9_word_152 : decode cX9_word 152 = .ok (.l2i, 1) := by decide +kernel
theorem dX9_word_153 : decode cX9_word 153 = .ok (.ireturn, 1) := by decide +kernel
theorem dX9_isPart_0 : decode cX9_isPart 0 = .ok (.aload_n 0, 1) := by decide +kernel
theorem dX9_isPart_1 : decode cX9_isPart 1 = .ok (.getfield 17, 3) := by decide +kernel
theorem dX9_isPart_4 : decode cX9_isPart 4 = .ok (.iload_n 1, 1) := by decide +kernel
theorem dX9_isPart_5 : decode cX9_isPart 5 = .ok (.iload_n 2, 1) := by decide +kernel
theorem dX9_isPart_6 : decode cX9_isPart 6 = .ok (.invokestatic 210, 3) := by decide +kernel
theorem dX9_isPart_9 : decode cX9_isPart 9 = .ok (.ireturn, 1) := by decide +kernel
theorem dX9_part_0 : decode cX9_part 0 = .ok (.aload_n 0, 1) := by decide +kernel
theorem dX9_part_1 : decode cX9_part 1 = .ok (.aload_n 0, 1) := by decide +kernel
theorem dX9_part_2 : decode cX9_part 2 = .ok (.iload_n 1, 1) := by decide +kernel
theorem dX9_part_3 : decode cX9_part 3 = .ok (.iload_n 2, 1) := by decide +kernel
theorem dX9_part_4 : decode cX9_part 4 = .ok (.invokevirtual 214, 3) := by decide +kernel
theorem dX9_part_7 : decode cX9_part 7 = .ok (.ifCond .ne 7, 3) := by decide +kernel
theorem dX9_part_10 : decode cX9_part 10 = .ok (.iconst 1, 1) := by decide +kernel
theorem dX9_part_11 : decode cX9_part 11 = .ok (.goto 20, 3) := by decide +kernel
theorem dX9_part_14 : decode cX9_part 14 = .ok (.iload_n 3, 1) := by decide +kernel
theorem dX9_part_15 : decode cX9_part 15 = .ok (.i2l, 1) := by decide +kernel
theorem dX9_part_16 : decode cX9_part 16 = .ok (.lconst 0, 1) := by decide +kernel
theorem dX9_part_17 : decode cX9_part 17 = .ok (.ldc2_w 218, 3) := by decide +kernel
theorem dX9_part_20 : decode cX9_part 20 = .ok (.invokestatic 90, 3) := by decide +kernel
theorem dX9_part_23 : decode cX9_part 23 = .ok (.ifCond .ne 7, 3) := by decide +kernel
theorem dX9_part_26 : decode cX9_part 26 = .ok (.iconst 2, 1) := by decide +kernel
theorem dX9_part_27 : decode cX9_part 27 = .ok (.goto 4, 3) := by decide +kernel
theorem dX9_part_30 : decode cX9_part 30 = .ok (.iconst 0, 1) := by decide +kernel
theorem dX9_part_31 : decode cX9_part 31 = .ok (.invokevirtual 162, 3) := by decide +kernel
theorem dX9_part_34 : decode cX9_part 34 = .ok (.ifCond .eq 5, 3) := by decide +kernel
theorem dX9_part_37 : decode cX9_part 37 = .ok (.iconst 0, 1) := by decide +kernel
theorem dX9_part_38 : decode cX9_part 38 = .ok (.ireturn, 1) := by decide +kernel
theorem dX9_part_39 : decode cX9_part 39 = .ok (.iload_n 3, 1) := by decide +kernel
theorem dX9_part_40 : decode cX9_part 40 = .ok (.tableswitch 77 0 2 #[28, 42, 56], 28) := by decide +kernel
theorem dX9_part_68 : decode cX9_part 68 = .ok (.aload_n 0, 1) := by decide +kernel
theorem dX9_part_69 : decode cX9_part 69 = .ok (.getfield 17, 3) := by decide +kernel
theorem dX9_part_72 : decode cX9_part 72 = .ok (.iload_n 1, 1) := by decide +kernel
theorem dX9_part_73 : decode cX9_part 73 = .ok (.iload_n 2, 1) := by decide +kernel
theorem dX9_part_74 : decode cX9_part 74 = .ok (.invokestatic 109, 3) := by decide +kernel
theorem dX9_part_77 : decode cX9_part 77 = .ok (.laload, 1) := by decide +kernel
theorem dX9_part_78 : decode cX9_part 78 = .ok (.invokestatic 105, 3) := by decide +kernel
theorem dX9_part_81 : decode cX9_part 81 = .ok (.ireturn, 1) := by decide +kernel
theorem dX9_part_82 : decode cX9_part 82 = .ok (.aload_n 0, 1) := by decide +kernel
theorem dX9_part_83 : decode cX9_part 83 = .ok (.getfield 17, 3) := by decide +kernel
theorem dX9_part_86 : decode cX9_part 86 = .ok (.iload_n 1, 1) := by decide +kernel
theorem dX9_part_87 : decode cX9_part 87 = .ok (.iload_n 2, 1) := by decide +kernel
theorem dX9_part_88 : decode cX9_part 88 = .ok (.invokestatic 102, 3) := by decide +kernel
theorem dX9_part_91 : decode cX9_part 91 = .ok (.laload, 1) := by decide +kernel
theorem dX9_part_92 : decode cX9_part 92 = .ok (.invokestatic 105, 3) := by decide +kernel
theorem dX9_part_95 : decode cX9_part 95 = .ok (.ireturn, 1) := by decide +kernel
theorem dX9_part_96 : decode cX9_part 96 = .ok (.iload_n 2, 1) := by decide +kernel
theorem dX9_part_97 : decode cX9_part 97 = .ok (.ifCond .ne 8, 3) := by decide +kernel
theorem dX9_part_100 : decode cX9_part 100 = .ok (.bipush (-9), 2) := by decide +kernel
theorem dX9_part_102 : decode cX9_part 102 = .ok (.goto 14, 3) := by decide +kernel
theorem dX9_part_105 : decode cX9_part 105 = .ok (.aload_n 0, 1) := by decide +kernel
theorem dX9_part_106 : decode cX9_part 106 = .ok (.getfield 17, 3) := by decide +kernel
theorem dX9_part_109 : decode cX9_part 109 = .ok (.iload_n 1, 1) := by decide +kernel
theorem dX9_part_110 : decode cX9_part 110 = .ok (.iload_n 2, 1) := by decide +kernel
theorem dX9_part_111 : decode cX9_part 111 = .ok (.invokestatic 138, 3) := by decide +kernel
theorem dX9_part_114 : decode cX9_part 114 = .ok (.laload, 1) := by decide +kernel
theorem dX9_part_115 : decode cX9_part 115 = .ok (.l2i, 1) := by decide +kernel
theorem dX9_part_116 : decode cX9_part 116 = .ok (.ireturn, 1) := by decide +kernel
theorem dX9_part_117 : decode cX9_part 117 = .ok (.aload_n 0, 1) := by decide +kernel
theorem dX9_part_118 : decode cX9_part 118 = .ok (.getfield 17, 3) := by decide +kernel
theorem dX9_part_121 : decode cX9_part 121 = .ok (.aload_n 0, 1) := by decide +kernel
theorem dX9_part_122 : decode cX9_part 122 = .ok (.getfield 17, 3) := by decide +kernel
theorem dX9_part_125 : decode cX9_part 125 = .ok (.iload_n 1, 1) := by decide +kernel
theorem dX9_part_126 : decode cX9_part 126 = .ok (.iload_n 2, 1) := by decide +kernel
theorem dX9_part_127 : decode cX9_part 127 = .ok (.invokestatic 109, 3) := by decide +kernel
theorem dX9_part_130 : decode cX9_part 130 = .ok (.laload, 1) := by decide +kernel
theorem dX9_part_131 : decode cX9_part 131 = .ok (.invokestatic 145, 3) := by decide +kernel
theorem dX9_part_134 : decode cX9_part 134 = .ok (.ireturn, 1) := by decide +kernel
theorem dX9_letter_0 : decode cX9_letter 0 = .ok (.aload_n 0, 1) := by decide +kernel
theorem dX9_letter_1 : decode cX9_letter 1 = .ok (.aload_n 0, 1) := by decide +kernel
theorem dX9_letter_2 : decode cX9_letter 2 = .ok (.iload_n 1, 1) := by decide +kernel
theorem dX9_letter_3 : decode cX9_letter 3 = .ok (.iload_n 2, 1) := by decide +kernel
theorem dX9_letter_4 : decode cX9_letter 4 = .ok (.invokevirtual 214, 3) := by decide +kernel
theorem dX9_letter_7 : decode cX9_letter 7 = .ok (.ifCond .ne 7, 3) := by decide +kernel
theorem dX9_letter_10 : decode cX9_letter 10 = .ok (.iconst 1, 1) := by decide +kernel
theorem dX9_letter_11 : decode cX9_letter 11 = .ok (.goto 13, 3) := by decide +kernel
theorem dX9_letter_14 : decode cX9_letter 14 = .ok (.iload 4, 2) := by decide +kernel
theorem dX9_letter_16 : decode cX9_letter 16 = .ok (.ifCond .ge 7, 3) := by decide +kernel
theorem dX9_letter_19 : decode cX9_letter 19 = .ok (.iconst 2, 1) := by decide +kernel
theorem dX9_letter_20 : decode cX9_letter 20 = .ok (.goto 4, 3) := by decide +kernel
theorem dX9_letter_23 : decode cX9_letter 23 = .ok (.iconst 0, 1) := by decide +kernel
theorem dX9_letter_24 : decode cX9_letter 24 = .ok (.invokevirtual 162, 3) := by decide +kernel
theorem dX9_letter_27 : decode cX9_letter 27 = .ok (.ifCond .eq 5, 3) := by decide +kernel
theorem dX9_letter_30 : decode cX9_letter 30 = .ok (.iconst 0, 1) := by decide +kernel
theorem dX9_letter_31 : decode cX9_letter 31 = .ok (.ireturn, 1) := by decide +kernel
theorem dX9_letter_32 : decode cX9_letter 32 = .ok (.iload_n 3, 1) := by decide +kernel
theorem dX9_letter_33 : decode cX9_letter 33 = .ok (.ifCond .eq 16, 3) := by decide +kernel
theorem dX9_letter_36 : decode cX9_letter 36 = .ok (.aload_n 0, 1) := by decide +kernel
theorem dX9_letter_37 : decode cX9_letter 37 = .ok (.getfield 17, 3) := by decide +kernel
theorem dX9_letter_40 : decode cX9_letter 40 = .ok (.iload_n 1, 1) := by decide +kernel
theorem dX9_letter_41 : decode cX9_letter 41 = .ok (.iload_n 2, 1) := by decide +kernel
theorem dX9_letter_42 : decode cX9_letter 42 = .ok (.invokestatic 102, 3) := by decide +kernel
theorem dX9_letter_45 : decode cX9_letter 45 = .ok (.laload, 1) := by decide +kernel
theorem dX9_letter_46 : decode cX9_letter 46 = .ok (.goto 13, 3) := by decide +kernel
theorem dX9_letter_49 : decode cX9_letter 49 = .ok (.aload_n 0, 1) := by decide +kernel
theorem dX9_letter_50 : decode cX9_letter 50 = .ok (.getfield 17, 3) := by decide +kernel
theorem dX9_letter_53 : decode cX9_letter 53 = .ok (.iload_n 1, 1) := by decide +kernel
theorem dX9_letter_54 : decode cX9_letter 54 = .ok (.iload_n 2, 1) := by decide +kernel
theorem dX9_letter_55 : decode cX9_letter 55 = .ok (.invokestatic 109, 3) := by decide +kernel
theorem dX9_letter_58 : decode cX9_letter 58 = .ok (.laload, 1) := by decide +kernel
theorem dX9_letter_59 : decode cX9_letter 59 = .ok (.iload 4, 2) := by decide +kernel
theorem dX9_letter_61 : decode cX9_letter 61 = .ok (.invokestatic 141, 3) := by decide +kernel
theorem dX9_letter_64 : decode cX9_letter 64 = .ok (.ireturn, 1) := by decide +kernel
theorem dX9_isEntry_0 : decode cX9_isEntry 0 = .ok (.iload_n 1, 1) := by decide +kernel
theorem dX9_isEntry_1 : decode cX9_isEntry 1 = .ok (.i2l, 1) := by decide +kernel
theorem dX9_isEntry_2 : decode cX9_isEntry 2 = .ok (.lconst 0, 1) := by decide +kernel
theorem dX9_isEntry_3 : decode cX9_isEntry 3 = .ok (.aload_n 0, 1) := by decide +kernel
theorem dX9_isEntry_4 : decode cX9_isEntry 4 = .ok (.getfield 17, 3) := by decide +kernel
theorem dX9_isEntry_7 : decode cX9_isEntry 7 = .ok (.iconst 1, 1) := by decide +kernel
theorem dX9_isEntry_8 : decode cX9_isEntry 8 = .ok (.laload, 1) := by decide +kernel
theorem dX9_isEntry_9 : decode cX9_isEntry 9 = .ok (.lconst 1, 1) := by decide +kernel
theorem dX9_isEntry_10 : decode cX9_isEntry 10 = .ok (.lsub, 1) := by decide +kernel
theorem dX9_isEntry_11 : decode cX9_isEntry 11 = .ok (.invokestatic 90, 3) := by decide +kernel
theorem dX9_isEntry_14 : decode cX9_isEntry 14 = .ok (.ireturn, 1) := by decide +kernel
theorem dX9_entry_0 : decode cX9_entry 0 = .ok (.aload_n 0, 1) := by decide +kernel
theorem dX9_entry_1 : decode cX9_entry 1 = .ok (.aload_n 0, 1) := by decide +kernel
theorem dX9_entry_2 : decode cX9_entry 2 = .ok (.iload_n 1, 1) := by decide +kernel
theorem dX9_entry_3 : decode cX9_entry 3 = .ok (.invokevirtual 220, 3) := by decide +kernel
theorem dX9_entry_6 : decode cX9_entry 6 = .ok (.ifCond .ne 7, 3) := by decide +kernel
theorem dX9_entry_9 : decode cX9_entry 9 = .ok (.iconst 1, 1) := by decide +kernel
theorem dX9_entry_10 : decode cX9_entry 10 = .ok (.goto 12, 3) := by decide +kernel
theorem dX9_entry_13 : decode cX9_entry 13 = .ok (.iload_n 3, 1) := by decide +kernel
theorem dX9_entry_14 : decode cX9_entry 14 = .ok (.ifCond .ge 7, 3) := by decide +kernel
theorem dX9_entry_17 : decode cX9_entry 17 = .ok (.iconst 2, 1) := by decide +kernel
theorem dX9_entry_18 : decode cX9_entry 18 = .ok (.goto 4, 3) := by decide +kernel
theorem dX9_entry_21 : decode cX9_entry 21 = .ok (.iconst 0, 1) := by decide +kernel
theorem dX9_entry_22 : decode cX9_entry 22 = .ok (.invokevirtual 162, 3) := by decide +kernel
theorem dX9_entry_25 : decode cX9_entry 25 = .ok (.ifCond .eq 5, 3) := by decide +kernel
theorem dX9_entry_28 : decode cX9_entry 28 = .ok (.iconst 0, 1) := by decide +kernel
theorem dX9_entry_29 : decode cX9_entry 29 = .ok (.ireturn, 1) := by decide +kernel
theorem dX9_entry_30 : decode cX9_entry 30 = .ok (.aload_n 0, 1) := by decide +kernel
theorem dX9_entry_31 : decode cX9_entry 31 = .ok (.getfield 17, 3) := by decide +kernel
theorem dX9_entry_34 : decode cX9_entry 34 = .ok (.sipush 221, 3) := by decide +kernel
theorem dX9_entry_37 : decode cX9_entry 37 = .ok (.iconst 2, 1) := by decide +kernel
theorem dX9_entry_38 : decode cX9_entry 38 = .ok (.iload_n 1, 1) := by decide +kernel
theorem dX9_entry_39 : decode cX9_entry 39 = .ok (.imul, 1) := by decide +kernel
theorem dX9_entry_40 : decode cX9_entry 40 = .ok (.iadd, 1) := by decide +kernel
theorem dX9_entry_41 : decode cX9_entry 41 = .ok (.iload_n 2, 1) := by decide +kernel
theorem dX9_entry_42 : decode cX9_entry 42 = .ok (.ifCond .eq 7, 3) := by decide +kernel
theorem dX9_entry_45 : decode cX9_entry 45 = .ok (.iconst 1, 1) := by decide +kernel
theorem dX9_entry_46 : decode cX9_entry 46 = .ok (.goto 4, 3) := by decide +kernel
theorem dX9_entry_49 : decode cX9_entry 49 = .ok (.iconst 0, 1) := by decide +kernel
theorem dX9_entry_50 : decode cX9_entry 50 = .ok (.iadd, 1) := by decide +kernel
theorem dX9_entry_51 : decode cX9_entry 51 = .ok (.laload, 1) := by decide +kernel
theorem dX9_entry_52 : decode cX9_entry 52 = .ok (.iload_n 3, 1) := by decide +kernel
theorem dX9_entry_53 : decode cX9_entry 53 = .ok (.invokestatic 141, 3) := by decide +kernel
theorem dX9_entry_56 : decode cX9_entry 56 = .ok (.ireturn, 1) := by decide +kernel
theorem dX9_lengthOfRow_0 : decode cX9_lengthOfRow 0 = .ok (.aload_n 0, 1) := by decide +kernel
theorem dX9_lengthOfRow_1 : decode cX9_lengthOfRow 1 = .ok (.getfield 48, 3) := by decide +kernel
theorem dX9_lengthOfRow_4 : decode cX9_lengthOfRow 4 = .ok (.iload_n 1, 1) := by decide +kernel
theorem dX9_lengthOfRow_5 : decode cX9_lengthOfRow 5 = .ok (.iaload, 1) := by decide +kernel
theorem dX9_lengthOfRow_6 : decode cX9_lengthOfRow 6 = .ok (.iconst 2, 1) := by decide +kernel
theorem dX9_lengthOfRow_7 : decode cX9_lengthOfRow 7 = .ok (.if_icmp .ge 15, 3) := by decide +kernel
theorem dX9_lengthOfRow_10 : decode cX9_lengthOfRow 10 = .ok (.aload_n 0, 1) := by decide +kernel
theorem dX9_lengthOfRow_11 : decode cX9_lengthOfRow 11 = .ok (.getfield 45, 3) := by decide +kernel
theorem dX9_lengthOfRow_14 : decode cX9_lengthOfRow 14 = .ok (.aload_n 0, 1) := by decide +kernel
theorem dX9_lengthOfRow_15 : decode cX9_lengthOfRow 15 = .ok (.getfield 51, 3) := by decide +kernel
theorem dX9_lengthOfRow_18 : decode cX9_lengthOfRow 18 = .ok (.iload_n 1, 1) := by decide +kernel
theorem dX9_lengthOfRow_19 : decode cX9_lengthOfRow 19 = .ok (.iaload, 1) := by decide +kernel
theorem dX9_lengthOfRow_20 : decode cX9_lengthOfRow 20 = .ok (.iaload, 1) := by decide +kernel
theorem dX9_lengthOfRow_21 : decode cX9_lengthOfRow 21 = .ok (.ireturn, 1) := by decide +kernel
theorem dX9_lengthOfRow_22 : decode cX9_lengthOfRow 22 = .ok (.aload_n 0, 1) := by decide +kernel
theorem dX9_lengthOfRow_23 : decode cX9_lengthOfRow 23 = .ok (.getfield 17, 3) := by decide +kernel
theorem dX9_lengthOfRow_26 : decode cX9_lengthOfRow 26 = .ok (.aload_n 0, 1) := by decide +kernel
theorem dX9_lengthOfRow_27 : decode cX9_lengthOfRow 27 = .ok (.getfield 51, 3) := by decide +kernel
theorem dX9_lengthOfRow_30 : decode cX9_lengthOfRow 30 = .ok (.iload_n 1, 1) := by decide +kernel
theorem dX9_lengthOfRow_31 : decode cX9_lengthOfRow 31 = .ok (.iaload, 1) := by decide +kernel
theorem dX9_lengthOfRow_32 : decode cX9_lengthOfRow 32 = .ok (.iconst 2, 1) := by decide +kernel
theorem dX9_lengthOfRow_33 : decode cX9_lengthOfRow 33 = .ok (.invokestatic 82, 3) := by decide +kernel
theorem dX9_lengthOfRow_36 : decode cX9_lengthOfRow 36 = .ok (.laload, 1) := by decide +kernel
theorem dX9_lengthOfRow_37 : decode cX9_lengthOfRow 37 = .ok (.l2i, 1) := by decide +kernel
theorem dX9_lengthOfRow_38 : decode cX9_lengthOfRow 38 = .ok (.aload_n 0, 1) := by decide +kernel
theorem dX9_lengthOfRow_39 : decode cX9_lengthOfRow 39 = .ok (.getfield 54, 3) := by decide +kernel
theorem dX9_lengthOfRow_42 : decode cX9_lengthOfRow 42 = .ok (.iload_n 1, 1) := by decide +kernel
theorem dX9_lengthOfRow_43 : decode cX9_lengthOfRow 43 = .ok (.iaload, 1) := by decide +kernel
theorem dX9_lengthOfRow_44 : decode cX9_lengthOfRow 44 = .ok (.isub, 1) := by decide +kernel
theorem dX9_lengthOfRow_45 : decode cX9_lengthOfRow 45 = .ok (.istore_n 2, 1) := by decide +kernel
theorem dX9_lengthOfRow_46 : decode cX9_lengthOfRow 46 = .ok (.iload_n 2, 1) := by decide +kernel
theorem dX9_lengthOfRow_47 : decode cX9_lengthOfRow 47 = .ok (.i2l, 1) := by decide +kernel
theorem dX9_lengthOfRow_48 : decode cX9_lengthOfRow 48 = .ok (.aload_n 0, 1) := by decide +kernel
theorem dX9_lengthOfRow_49 : decode cX9_lengthOfRow 49 = .ok (.getfield 17, 3) := by decide +kernel
theorem dX9_lengthOfRow_52 : decode cX9_lengthOfRow 52 = .ok (.iconst 2, 1) := by decide +kernel
theorem dX9_lengthOfRow_53 : decode cX9_lengthOfRow 53 = .ok (.laload, 1) := by decide +kernel
theorem dX9_lengthOfRow_54 : decode cX9_lengthOfRow 54 = .ok (.lcmp, 1) := by decide +kernel
theorem dX9_lengthOfRow_55 : decode cX9_lengthOfRow 55 = .ok (.ifCond .ge 7, 3) := by decide +kernel
theorem dX9_lengthOfRow_58 : decode cX9_lengthOfRow 58 = .ok (.iload_n 2, 1) := by decide +kernel
theorem dX9_lengthOfRow_59 : decode cX9_lengthOfRow 59 = .ok (.goto 10, 3) := by decide +kernel
theorem dX9_lengthOfRow_62 : decode cX9_lengthOfRow 62 = .ok (.aload_n 0, 1) := by decide +kernel
theorem dX9_lengthOfRow_63 : decode cX9_lengthOfRow 63 = .ok (.getfield 17, 3) := by decide +kernel
theorem dX9_lengthOfRow_66 : decode cX9_lengthOfRow 66 = .ok (.iconst 2, 1) := by decide +kernel
theorem dX9_lengthOfRow_67 : decode cX9_lengthOfRow 67 = .ok (.laload, 1) := by decide +kernel
theorem dX9_lengthOfRow_68 : decode cX9_lengthOfRow 68 = .ok (.l2i, 1) := by decide +kernel
theorem dX9_lengthOfRow_69 : decode cX9_lengthOfRow 69 = .ok (.ireturn, 1) := by decide +kernel
theorem dX9_sentenceOfRow_0 : decode cX9_sentenceOfRow 0 = .ok (.aload_n 0, 1) := by decide +kernel
theorem dX9_sentenceOfRow_1 : decode cX9_sentenceOfRow 1 = .ok (.getfield 48, 3) := by decide +kernel
theorem dX9_sentenceOfRow_4 : decode cX9_sentenceOfRow 4 = .ok (.iload_n 1, 1) := by decide +kernel
theorem dX9_sentenceOfRow_5 : decode cX9_sentenceOfRow 5 = .ok (.iaload, 1) := by decide +kernel
theorem dX9_sentenceOfRow_6 : decode cX9_sentenceOfRow 6 = .ok (.iconst 2, 1) := by decide +kernel
theorem dX9_sentenceOfRow_7 : decode cX9_sentenceOfRow 7 = .ok (.if_icmp .ne 12, 3) := by decide +kernel
theorem dX9_sentenceOfRow_10 : decode cX9_sentenceOfRow 10 = .ok (.aload_n 0, 1) := by decide +kernel
theorem dX9_sentenceOfRow_11 : decode cX9_sentenceOfRow 11 = .ok (.getfield 51, 3) := by decide +kernel
theorem dX9_sentenceOfRow_14 : decode cX9_sentenceOfRow 14 = .ok (.iload_n 1, 1) := by decide +kernel
theorem dX9_sentenceOfRow_15 : decode cX9_sentenceOfRow 15 = .ok (.iaload, 1) := by decide +kernel
theorem dX9_sentenceOfRow_16 : decode cX9_sentenceOfRow 16 = .ok (.goto 4, 3) := by decide +kernel
theorem dX9_sentenceOfRow_19 : decode cX9_sentenceOfRow 19 = .ok (.iconst 0, 1) := by decide +kernel
theorem dX9_sentenceOfRow_20 : decode cX9_sentenceOfRow 20 = .ok (.istore_n 2, 1) := by decide +kernel
theorem dX9_sentenceOfRow_21 : decode cX9_sentenceOfRow 21 = .ok (.aload_n 0, 1) := by decide +kernel
theorem dX9_sentenceOfRow_22 : decode cX9_sentenceOfRow 22 = .ok (.getfield 48, 3) := by decide +kernel
theorem dX9_sentenceOfRow_25 : decode cX9_sentenceOfRow 25 = .ok (.iload_n 1, 1) := by decide +kernel
theorem dX9_sentenceOfRow_26 : decode cX9_sentenceOfRow 26 = .ok (.iaload, 1) := by decide +kernel
theorem dX9_sentenceOfRow_27 : decode cX9_sentenceOfRow 27 = .ok (.iconst 2, 1) := by decide +kernel
theorem dX9_sentenceOfRow_28 : decode cX9_sentenceOfRow 28 = .ok (.if_icmp .ge 24, 3) := by decide +kernel
theorem dX9_sentenceOfRow_31 : decode cX9_sentenceOfRow 31 = .ok (.aload_n 0, 1) := by decide +kernel
theorem dX9_sentenceOfRow_32 : decode cX9_sentenceOfRow 32 = .ok (.getfield 33, 3) := by decide +kernel
theorem dX9_sentenceOfRow_35 : decode cX9_sentenceOfRow 35 = .ok (.iload_n 2, 1) := by decide +kernel
theorem dX9_sentenceOfRow_36 : decode cX9_sentenceOfRow 36 = .ok (.iaload, 1) := by decide +kernel
theorem dX9_sentenceOfRow_37 : decode cX9_sentenceOfRow 37 = .ok (.aload_n 0, 1) := by decide +kernel
theorem dX9_sentenceOfRow_38 : decode cX9_sentenceOfRow 38 = .ok (.getfield 51, 3) := by decide +kernel
theorem dX9_sentenceOfRow_41 : decode cX9_sentenceOfRow 41 = .ok (.iload_n 1, 1) := by decide +kernel
theorem dX9_sentenceOfRow_42 : decode cX9_sentenceOfRow 42 = .ok (.iaload, 1) := by decide +kernel
theorem dX9_sentenceOfRow_43 : decode cX9_sentenceOfRow 43 = .ok (.if_icmp .eq 9, 3) := by decide +kernel
theorem dX9_sentenceOfRow_46 : decode cX9_sentenceOfRow 46 = .ok (.iinc 2 1, 3) := by decide +kernel
theorem dX9_sentenceOfRow_49 : decode cX9_sentenceOfRow 49 = .ok (.goto (-28), 3) := by decide +kernel
theorem dX9_sentenceOfRow_52 : decode cX9_sentenceOfRow 52 = .ok (.aload_n 0, 1) := by decide +kernel
theorem dX9_sentenceOfRow_53 : decode cX9_sentenceOfRow 53 = .ok (.getfield 42, 3) := by decide +kernel
theorem dX9_sentenceOfRow_56 : decode cX9_sentenceOfRow 56 = .ok (.iload_n 2, 1) := by decide +kernel
theorem dX9_sentenceOfRow_57 : decode cX9_sentenceOfRow 57 = .ok (.iaload, 1) := by decide +kernel
theorem dX9_sentenceOfRow_58 : decode cX9_sentenceOfRow 58 = .ok (.ireturn, 1) := by decide +kernel
theorem dX9_isRow_0 : decode cX9_isRow 0 = .ok (.aload_n 0, 1) := by decide +kernel
theorem dX9_isRow_1 : decode cX9_isRow 1 = .ok (.invokevirtual 196, 3) := by decide +kernel
theorem dX9_isRow_4 : decode cX9_isRow 4 = .ok (.iload_n 1, 1) := by decide +kernel
theorem dX9_isRow_5 : decode cX9_isRow 5 = .ok (.i2l, 1) := by decide +kernel
theorem dX9_isRow_6 : decode cX9_isRow 6 = .ok (.lconst 0, 1) := by decide +kernel
theorem dX9_isRow_7 : decode cX9_isRow 7 = .ok (.aload_n 0, 1) := by decide +kernel
theorem dX9_isRow_8 : decode cX9_isRow 8 = .ok (.getfield 116, 3) := by decide +kernel
theorem dX9_isRow_11 : decode cX9_isRow 11 = .ok (.iconst 1, 1) := by decide +kernel
theorem dX9_isRow_12 : decode cX9_isRow 12 = .ok (.isub, 1) := by decide +kernel
theorem dX9_isRow_13 : decode cX9_isRow 13 = .ok (.i2l, 1) := by decide +kernel
theorem dX9_isRow_14 : decode cX9_isRow 14 = .ok (.invokestatic 90, 3) := by decide +kernel
theorem dX9_isRow_17 : decode cX9_isRow 17 = .ok (.ireturn, 1) := by decide +kernel
theorem dX9_row_0 : decode cX9_row 0 = .ok (.aload_n 0, 1) := by decide +kernel
theorem dX9_row_1 : decode cX9_row 1 = .ok (.aload_n 0, 1) := by decide +kernel
theorem dX9_row_2 : decode cX9_row 2 = .ok (.iload_n 1, 1) := by decide +kernel
theorem dX9_row_3 : decode cX9_row 3 = .ok (.invokevirtual 223, 3) := by decide +kernel
theorem dX9_row_6 : decode cX9_row 6 = .ok (.ifCond .ne 7, 3) := by decide +kernel
theorem dX9_row_9 : decode cX9_row 9 = .ok (.iconst 1, 1) := by decide +kernel
theorem dX9_row_10 : decode cX9_row 10 = .ok (.goto 20, 3) := by decide +kernel
theorem dX9_row_13 : decode cX9_row 13 = .ok (.iload_n 2, 1) := by decide +kernel
theorem dX9_row_14 : decode cX9_row 14 = .ok (.i2l, 1) := by decide +kernel
theorem dX9_row_15 : decode cX9_row 15 = .ok (.lconst 0, 1) := by decide +kernel
theorem dX9_row_16 : decode cX9_row 16 = .ok (.ldc2_w 63, 3) := by decide +kernel
theorem dX9_row_19 : decode cX9_row 19 = .ok (.invokestatic 90, 3) := by decide +kernel
theorem dX9_row_22 : decode cX9_row 22 = .ok (.ifCond .ne 7, 3) := by decide +kernel
theorem dX9_row_25 : decode cX9_row 25 = .ok (.iconst 2, 1) := by decide +kernel
theorem dX9_row_26 : decode cX9_row 26 = .ok (.goto 4, 3) := by decide +kernel
theorem dX9_row_29 : decode cX9_row 29 = .ok (.iconst 0, 1) := by decide +kernel
theorem dX9_row_30 : decode cX9_row 30 = .ok (.invokevirtual 162, 3) := by decide +kernel
theorem dX9_row_33 : decode cX9_row 33 = .ok (.ifCond .eq 5, 3) := by decide +kernel
theorem dX9_row_36 : decode cX9_row 36 = .ok (.iconst 0, 1) := by decide +kernel
theorem dX9_row_37 : decode cX9_row 37 = .ok (.ireturn, 1) := by decide +kernel
theorem dX9_row_38 : decode cX9_row 38 = .ok (.iload_n 2, 1) := by decide +kernel
theorem dX9_row_39 : decode cX9_row 39 = .ok (.ifCond .ne 12, 3) := by decide +kernel
theorem dX9_row_42 : decode cX9_row 42 = .ok (.aload_n 0, 1) := by decide +kernel
theorem dX9_row_43 : decode cX9_row 43 = .ok (.getfield 48, 3) := by decide +kernel
theorem dX9_row_46 : decode cX9_row 46 = .ok (.iload_n 1, 1) := by decide +kernel
theorem dX9_row_47 : decode cX9_row 47 = .ok (.iaload, 1) := by decide +kernel
theorem dX9_row_48 : decode cX9_row 48 = .ok (.goto 21, 3) := by decide +kernel
theorem dX9_row_51 : decode cX9_row 51 = .ok (.iload_n 2, 1) := by decide +kernel
theorem dX9_row_52 : decode cX9_row 52 = .ok (.iconst 1, 1) := by decide +kernel
theorem dX9_row_53 : decode cX9_row 53 = .ok (.if_icmp .ne 11, 3) := by decide +kernel
theorem dX9_row_56 : decode cX9_row 56 = .ok (.aload_n 0, 1) := by decide +kernel
theorem dX9_row_57 : decode cX9_row 57 = .ok (.iload_n 1, 1) := by decide +kernel
theorem dX9_row_58 : decode cX9_row 58 = .ok (.invokevirtual 226, 3) := by decide +kernel
theorem dX9_row_61 : decode cX9_row 61 = .ok (.goto 8, 3) := by decide +kernel
theorem dX9_row_64 : decode cX9_row 64 = .ok (.aload_n 0, 1) := by decide +kernel
theorem dX9_row_65 : decode cX9_row 65 = .ok (.iload_n 1, 1) := by decide +kernel
theorem dX9_row_66 : decode cX9_row 66 = .ok (.invokevirtual 230, 3) := by decide +kernel
theorem dX9_row_69 : decode cX9_row 69 = .ok (.ireturn, 1) := by decide +kernel
theorem dX9_at_0 : decode cX9_at 0 = .ok (.aload_n 0, 1) := by decide +kernel
theorem dX9_at_1 : decode cX9_at 1 = .ok (.aload_n 0, 1) := by decide +kernel
theorem dX9_at_2 : decode cX9_at 2 = .ok (.iload_n 1, 1) := by decide +kernel
theorem dX9_at_3 : decode cX9_at 3 = .ok (.invokevirtual 223, 3) := by decide +kernel
theorem dX9_at_6 : decode cX9_at 6 = .ok (.ifCond .ne 7, 3) := by decide +kernel
theorem dX9_at_9 : decode cX9_at 9 = .ok (.iconst 1, 1) := by decide +kernel
theorem dX9_at_10 : decode cX9_at 10 = .ok (.goto 12, 3) := by decide +kernel
theorem dX9_at_13 : decode cX9_at 13 = .ok (.iload_n 2, 1) := by decide +kernel
theorem dX9_at_14 : decode cX9_at 14 = .ok (.ifCond .ge 7, 3) := by decide +kernel
theorem dX9_at_17 : decode cX9_at 17 = .ok (.iconst 2, 1) := by decide +kernel
theorem dX9_at_18 : decode cX9_at 18 = .ok (.goto 4, 3) := by decide +kernel
theorem dX9_at_21 : decode cX9_at 21 = .ok (.iconst 0, 1) := by decide +kernel
theorem dX9_at_22 : decode cX9_at 22 = .ok (.invokevirtual 162, 3) := by decide +kernel
theorem dX9_at_25 : decode cX9_at 25 = .ok (.ifCond .eq 5, 3) := by decide +kernel
theorem dX9_at_28 : decode cX9_at 28 = .ok (.iconst 0, 1) := by decide +kernel
theorem dX9_at_29 : decode cX9_at 29 = .ok (.ireturn, 1) := by decide +kernel
theorem dX9_at_30 : decode cX9_at 30 = .ok (.iload_n 2, 1) := by decide +kernel
theorem dX9_at_31 : decode cX9_at 31 = .ok (.aload_n 0, 1) := by decide +kernel
theorem dX9_at_32 : decode cX9_at 32 = .ok (.iload_n 1, 1) := by decide +kernel
theorem dX9_at_33 : decode cX9_at 33 = .ok (.invokevirtual 226, 3) := by decide +kernel
theorem dX9_at_36 : decode cX9_at 36 = .ok (.if_icmp .lt 6, 3) := by decide +kernel
theorem dX9_at_39 : decode cX9_at 39 = .ok (.bipush (-9), 2) := by decide +kernel
theorem dX9_at_41 : decode cX9_at 41 = .ok (.ireturn, 1) := by decide +kernel
theorem dX9_at_42 : decode cX9_at 42 = .ok (.aload_n 0, 1) := by decide +kernel
theorem dX9_at_43 : decode cX9_at 43 = .ok (.getfield 48, 3) := by decide +kernel
theorem dX9_at_46 : decode cX9_at 46 = .ok (.iload_n 1, 1) := by decide +kernel
theorem dX9_at_47 : decode cX9_at 47 = .ok (.iaload, 1) := by decide +kernel
theorem dX9_at_48 : decode cX9_at 48 = .ok (.iconst 2, 1) := by decide +kernel
theorem dX9_at_49 : decode cX9_at 49 = .ok (.if_icmp .ne 25, 3) := by decide +kernel
theorem dX9_at_52 : decode cX9_at 52 = .ok (.aload_n 0, 1) := by decide +kernel
theorem dX9_at_53 : decode cX9_at 53 = .ok (.getfield 17, 3) := by decide +kernel
theorem dX9_at_56 : decode cX9_at 56 = .ok (.aload_n 0, 1) := by decide +kernel
theorem dX9_at_57 : decode cX9_at 57 = .ok (.getfield 51, 3) := by decide +kernel
theorem dX9_at_60 : decode cX9_at 60 = .ok (.iload_n 1, 1) := by decide +kernel
theorem dX9_at_61 : decode cX9_at 61 = .ok (.iaload, 1) := by decide +kernel
theorem dX9_at_62 : decode cX9_at 62 = .ok (.aload_n 0, 1) := by decide +kernel
theorem dX9_at_63 : decode cX9_at 63 = .ok (.getfield 54, 3) := by decide +kernel
theorem dX9_at_66 : decode cX9_at 66 = .ok (.iload_n 1, 1) := by decide +kernel
theorem dX9_at_67 : decode cX9_at 67 = .ok (.iaload, 1) := by decide +kernel
theorem dX9_at_68 : decode cX9_at 68 = .ok (.iload_n 2, 1) := by decide +kernel
theorem dX9_at_69 : decode cX9_at 69 = .ok (.iadd, 1) := by decide +kernel
theorem dX9_at_70 : decode cX9_at 70 = .ok (.invokestatic 233, 3) := by decide +kernel
theorem dX9_at_73 : decode cX9_at 73 = .ok (.ireturn, 1) := by decide +kernel
theorem dX9_at_74 : decode cX9_at 74 = .ok (.bipush 32, 2) := by decide +kernel
theorem dX9_at_76 : decode cX9_at 76 = .ok (.istore_n 3, 1) := by decide +kernel
theorem dX9_at_77 : decode cX9_at 77 = .ok (.iconst 0, 1) := by decide +kernel
theorem dX9_at_78 : decode cX9_at 78 = .ok (.istore 4, 2) := by decide +kernel
theorem dX9_at_80 : decode cX9_at 80 = .ok (.iload 4, 2) := by decide +kernel
theorem dX9_at_82 : decode cX9_at 82 = .ok (.aload_n 0, 1) := by decide +kernel
theorem dX9_at_83 : decode cX9_at 83 = .ok (.getfield 17, 3) := by decide +kernel
theorem dX9_at_86 : decode cX9_at 86 = .ok (.invokestatic 86, 3) := by decide +kernel
theorem dX9_at_89 : decode cX9_at 89 = .ok (.if_icmp .ge 116, 3) := by decide +kernel
theorem dX9_at_92 : decode cX9_at 92 = .ok (.aload_n 0, 1) := by decide +kernel
theorem dX9_at_93 : decode cX9_at 93 = .ok (.getfield 33, 3) := by decide +kernel
theorem dX9_at_96 : decode cX9_at 96 = .ok (.iload 4, 2) := by decide +kernel
theorem dX9_at_98 : decode cX9_at 98 = .ok (.iaload, 1) := by decide +kernel
theorem dX9_at_99 : decode cX9_at 99 = .ok (.aload_n 0, 1) := by decide +kernel
theorem dX9_at_100 : decode cX9_at 100 = .ok (.getfield 51, 3) := by decide +kernel
theorem dX9_at_103 : decode cX9_at 103 = .ok (.iload_n 1, 1) := by decide +kernel
theorem dX9_at_104 : decode cX9_at 104 = .ok (.iaload, 1) := by decide +kernel
theorem dX9_at_105 : decode cX9_at 105 = .ok (.if_icmp .ne 41, 3) := by decide +kernel
theorem dX9_at_108 : decode cX9_at 108 = .ok (.iload_n 2, 1) := by decide +kernel
theorem dX9_at_109 : decode cX9_at 109 = .ok (.i2l, 1) := by decide +kernel
theorem dX9_at_110 : decode cX9_at 110 = .ok (.aload_n 0, 1) := by decide +kernel
theorem dX9_at_111 : decode cX9_at 111 = .ok (.getfield 36, 3) := by decide +kernel
theorem dX9_at_114 : decode cX9_at 114 = .ok (.iload 4, 2) := by decide +kernel
theorem dX9_at_116 : decode cX9_at 116 = .ok (.iaload, 1) := by decide +kernel
theorem dX9_at_117 : decode cX9_at 117 = .ok (.i2l, 1) := by decide +kernel
theorem dX9_at_118 : decode cX9_at 118 = .ok (.aload_n 0, 1) := by decide +kernel
theorem dX9_at_119 : decode cX9_at 119 = .ok (.getfield 36, 3) := by decide +kernel
theorem dX9_at_122 : decode cX9_at 122 = .ok (.iload 4, 2) := by decide +kernel
theorem dX9_at_124 : decode cX9_at 124 = .ok (.iaload, 1) := by decide +kernel
theorem dX9_at_125 : decode cX9_at 125 = .ok (.aload_n 0, 1) := by decide +kernel
theorem dX9_at_126 : decode cX9_at 126 = .ok (.getfield 39, 3) := by decide +kernel
theorem dX9_at_129 : decode cX9_at 129 = .ok (.iload 4, 2) := by decide +kernel
theorem dX9_at_131 : decode cX9_at 131 = .ok (.iaload, 1) := by decide +kernel
theorem dX9_at_132 : decode cX9_at 132 = .ok (.iadd, 1) := by decide +kernel
theorem dX9_at_133 : decode cX9_at 133 = .ok (.i2l, 1) := by decide +kernel
theorem dX9_at_134 : decode cX9_at 134 = .ok (.lconst 1, 1) := by decide +kernel
theorem dX9_at_135 : decode cX9_at 135 = .ok (.lsub, 1) := by decide +kernel
theorem dX9_at_136 : decode cX9_at 136 = .ok (.invokestatic 90, 3) := by decide +kernel
theorem dX9_at_139 : decode cX9_at 139 = .ok (.ifCond .eq 7, 3) := by decide +kernel
theorem dX9_at_142 : decode cX9_at 142 = .ok (.iconst 1, 1) := by decide +kernel
theorem dX9_at_143 : decode cX9_at 143 = .ok (.goto 4, 3) := by decide +kernel
theorem dX9_at_146 : decode cX9_at 146 = .ok (.iconst 0, 1) := by decide +kernel
theorem dX9_at_147 : decode cX9_at 147 = .ok (.istore 5, 2) := by decide +kernel
theorem dX9_at_149 : decode cX9_at 149 = .ok (.iload 5, 2) := by decide +kernel
theorem dX9_at_151 : decode cX9_at 151 = .ok (.ifCond .eq 46, 3) := by decide +kernel
theorem dX9_at_154 : decode cX9_at 154 = .ok (.aload_n 0, 1) := by decide +kernel
theorem dX9_at_155 : decode cX9_at 155 = .ok (.getfield 17, 3) := by decide +kernel
theorem dX9_at_158 : decode cX9_at 158 = .ok (.iload 4, 2) := by decide +kernel
theorem dX9_at_160 : decode cX9_at 160 = .ok (.aload_n 0, 1) := by decide +kernel
theorem dX9_at_161 : decode cX9_at 161 = .ok (.getfield 48, 3) := by decide +kernel
theorem dX9_at_164 : decode cX9_at 164 = .ok (.iload_n 1, 1) := by decide +kernel
theorem dX9_at_165 : decode cX9_at 165 = .ok (.iaload, 1) := by decide +kernel
theorem dX9_at_166 : decode cX9_at 166 = .ok (.iconst 1, 1) := by decide +kernel
theorem dX9_at_167 : decode cX9_at 167 = .ok (.if_icmp .ne 7, 3) := by decide +kernel
theorem dX9_at_170 : decode cX9_at 170 = .ok (.iconst 1, 1) := by decide +kernel
theorem dX9_at_171 : decode cX9_at 171 = .ok (.goto 4, 3) := by decide +kernel
theorem dX9_at_174 : decode cX9_at 174 = .ok (.iconst 0, 1) := by decide +kernel
theorem dX9_at_175 : decode cX9_at 175 = .ok (.aload_n 0, 1) := by decide +kernel
theorem dX9_at_176 : decode cX9_at 176 = .ok (.getfield 17, 3) := by decide +kernel
theorem dX9_at_179 : decode cX9_at 179 = .ok (.iconst 4, 1) := by decide +kernel
theorem dX9_at_180 : decode cX9_at 180 = .ok (.laload, 1) := by decide +kernel
theorem dX9_at_181 : decode cX9_at 181 = .ok (.l2i, 1) := by decide +kernel
theorem dX9_at_182 : decode cX9_at 182 = .ok (.iload_n 2, 1) := by decide +kernel
theorem dX9_at_183 : decode cX9_at 183 = .ok (.aload_n 0, 1) := by decide +kernel
theorem dX9_at_184 : decode cX9_at 184 = .ok (.getfield 36, 3) := by decide +kernel
theorem dX9_at_187 : decode cX9_at 187 = .ok (.iload 4, 2) := by decide +kernel
theorem dX9_at_189 : decode cX9_at 189 = .ok (.iaload, 1) := by decide +kernel
theorem dX9_at_190 : decode cX9_at 190 = .ok (.isub, 1) := by decide +kernel
theorem dX9_at_191 : decode cX9_at 191 = .ok (.invokestatic 236, 3) := by decide +kernel
theorem dX9_at_194 : decode cX9_at 194 = .ok (.goto 4, 3) := by decide +kernel
theorem dX9_at_197 : decode cX9_at 197 = .ok (.iload_n 3, 1) := by decide +kernel
theorem dX9_at_198 : decode cX9_at 198 = .ok (.istore_n 3, 1) := by decide +kernel
theorem dX9_at_199 : decode cX9_at 199 = .ok (.iinc 4 1, 3) := by decide +kernel
theorem dX9_at_202 : decode cX9_at 202 = .ok (.goto (-122), 3) := by decide +kernel
theorem dX9_at_205 : decode cX9_at 205 = .ok (.iload_n 3, 1) := by decide +kernel
theorem dX9_at_206 : decode cX9_at 206 = .ok (.ireturn, 1) := by decide +kernel
theorem dX9_insert_0 : decode cX9_insert 0 = .ok (.aload_n 0, 1) := by decide +kernel
theorem dX9_insert_1 : decode cX9_insert 1 = .ok (.iload_n 1, 1) := by decide +kernel
theorem dX9_insert_2 : decode cX9_insert 2 = .ok (.i2l, 1) := by decide +kernel
theorem dX9_insert_3 : decode cX9_insert 3 = .ok (.lconst 0, 1) := by decide +kernel
theorem dX9_insert_4 : decode cX9_insert 4 = .ok (.aload_n 0, 1) := by decide +kernel
theorem dX9_insert_5 : decode cX9_insert 5 = .ok (.getfield 17, 3) := by decide +kernel
theorem dX9_insert_8 : decode cX9_insert 8 = .ok (.iconst 0, 1) := by decide +kernel
theorem dX9_insert_9 : decode cX9_insert 9 = .ok (.laload, 1) := by decide +kernel
theorem dX9_insert_10 : decode cX9_insert 10 = .ok (.invokestatic 90, 3) := by decide +kernel
theorem dX9_insert_13 : decode cX9_insert 13 = .ok (.ifCond .ne 7, 3) := by decide +kernel
theorem dX9_insert_16 : decode cX9_insert 16 = .ok (.iconst 1, 1) := by decide +kernel
theorem dX9_insert_17 : decode cX9_insert 17 = .ok (.goto 36, 3) := by decide +kernel
theorem dX9_insert_20 : decode cX9_insert 20 = .ok (.aload_n 0, 1) := by decide +kernel
theorem dX9_insert_21 : decode cX9_insert 21 = .ok (.invokevirtual 186, 3) := by decide +kernel
theorem dX9_insert_24 : decode cX9_insert 24 = .ok (.bipush (-9), 2) := by decide +kernel
theorem dX9_insert_26 : decode cX9_insert 26 = .ok (.if_icmp .ne 22, 3) := by decide +kernel
theorem dX9_insert_29 : decode cX9_insert 29 = .ok (.aload_n 0, 1) := by decide +kernel
theorem dX9_insert_30 : decode cX9_insert 30 = .ok (.getfield 17, 3) := by decide +kernel
theorem dX9_insert_33 : decode cX9_insert 33 = .ok (.iconst 0, 1) := by decide +kernel
theorem dX9_insert_34 : decode cX9_insert 34 = .ok (.laload, 1) := by decide +kernel
theorem dX9_insert_35 : decode cX9_insert 35 = .ok (.aload_n 0, 1) := by decide +kernel
theorem dX9_insert_36 : decode cX9_insert 36 = .ok (.getfield 154, 3) := by decide +kernel
theorem dX9_insert_39 : decode cX9_insert 39 = .ok (.i2l, 1) := by decide +kernel
theorem dX9_insert_40 : decode cX9_insert 40 = .ok (.ladd, 1) := by decide +kernel
theorem dX9_insert_41 : decode cX9_insert 41 = .ok (.ldc2_w 240, 3) := by decide +kernel
theorem dX9_insert_44 : decode cX9_insert 44 = .ok (.lcmp, 1) := by decide +kernel
theorem dX9_insert_45 : decode cX9_insert 45 = .ok (.ifCond .le 7, 3) := by decide +kernel
theorem dX9_insert_48 : decode cX9_insert 48 = .ok (.iconst 2, 1) := by decide +kernel
theorem dX9_insert_49 : decode cX9_insert 49 = .ok (.goto 4, 3) := by decide +kernel
theorem dX9_insert_52 : decode cX9_insert 52 = .ok (.iconst 0, 1) := by decide +kernel
theorem dX9_insert_53 : decode cX9_insert 53 = .ok (.invokevirtual 162, 3) := by decide +kernel
theorem dX9_insert_56 : decode cX9_insert 56 = .ok (.ifCond .eq 5, 3) := by decide +kernel
theorem dX9_insert_59 : decode cX9_insert 59 = .ok (.iconst 0, 1) := by decide +kernel
theorem dX9_insert_60 : decode cX9_insert 60 = .ok (.ireturn, 1) := by decide +kernel
theorem dX9_insert_61 : decode cX9_insert 61 = .ok (.aload_n 0, 1) := by decide +kernel
theorem dX9_insert_62 : decode cX9_insert 62 = .ok (.invokevirtual 242, 3) := by decide +kernel
theorem dX9_insert_65 : decode cX9_insert 65 = .ok (.aload_n 0, 1) := by decide +kernel
theorem dX9_insert_66 : decode cX9_insert 66 = .ok (.aload_n 0, 1) := by decide +kernel
theorem dX9_insert_67 : decode cX9_insert 67 = .ok (.getfield 17, 3) := by decide +kernel
theorem dX9_insert_70 : decode cX9_insert 70 = .ok (.iload_n 1, 1) := by decide +kernel
theorem dX9_insert_71 : decode cX9_insert 71 = .ok (.invokevirtual 190, 3) := by decide +kernel
theorem dX9_insert_74 : decode cX9_insert 74 = .ok (.aload_n 0, 1) := by decide +kernel
theorem dX9_insert_75 : decode cX9_insert 75 = .ok (.getfield 17, 3) := by decide +kernel
theorem dX9_insert_78 : decode cX9_insert 78 = .ok (.invokestatic 86, 3) := by decide +kernel
theorem dX9_insert_81 : decode cX9_insert 81 = .ok (.ireturn, 1) := by decide +kernel
theorem dX9_remove_0 : decode cX9_remove 0 = .ok (.aload_n 0, 1) := by decide +kernel
theorem dX9_remove_1 : decode cX9_remove 1 = .ok (.aload_n 0, 1) := by decide +kernel
theorem dX9_remove_2 : decode cX9_remove 2 = .ok (.iload_n 1, 1) := by decide +kernel
theorem dX9_remove_3 : decode cX9_remove 3 = .ok (.invokevirtual 205, 3) := by decide +kernel
theorem dX9_remove_6 : decode cX9_remove 6 = .ok (.ifCond .eq 7, 3) := by decide +kernel
theorem dX9_remove_9 : decode cX9_remove 9 = .ok (.iconst 0, 1) := by decide +kernel
theorem dX9_remove_10 : decode cX9_remove 10 = .ok (.goto 4, 3) := by decide +kernel
theorem dX9_remove_13 : decode cX9_remove 13 = .ok (.iconst 1, 1) := by decide +kernel
theorem dX9_remove_14 : decode cX9_remove 14 = .ok (.invokevirtual 162, 3) := by decide +kernel
theorem dX9_remove_17 : decode cX9_remove 17 = .ok (.ifCond .eq 5, 3) := by decide +kernel
theorem dX9_remove_20 : decode cX9_remove 20 = .ok (.iconst 0, 1) := by decide +kernel
theorem dX9_remove_21 : decode cX9_remove 21 = .ok (.ireturn, 1) := by decide +kernel
theorem dX9_remove_22 : decode cX9_remove 22 = .ok (.aload_n 0, 1) := by decide +kernel
theorem dX9_remove_23 : decode cX9_remove 23 = .ok (.invokevirtual 242, 3) := by decide +kernel
theorem dX9_remove_26 : decode cX9_remove 26 = .ok (.aload_n 0, 1) := by decide +kernel
theorem dX9_remove_27 : decode cX9_remove 27 = .ok (.getfield 17, 3) := by decide +kernel
theorem dX9_remove_30 : decode cX9_remove 30 = .ok (.iload_n 1, 1) := by decide +kernel
theorem dX9_remove_31 : decode cX9_remove 31 = .ok (.invokestatic 245, 3) := by decide +kernel
theorem dX9_remove_34 : decode cX9_remove 34 = .ok (.aload_n 0, 1) := by decide +kernel
theorem dX9_remove_35 : decode cX9_remove 35 = .ok (.getfield 17, 3) := by decide +kernel
theorem dX9_remove_38 : decode cX9_remove 38 = .ok (.invokestatic 86, 3) := by decide +kernel
theorem dX9_remove_41 : decode cX9_remove 41 = .ok (.ireturn, 1) := by decide +kernel
theorem dX9_end_0 : decode cX9_end 0 = .ok (.aload_n 0, 1) := by decide +kernel
theorem dX9_end_1 : decode cX9_end 1 = .ok (.aload_n 0, 1) := by decide +kernel
theorem dX9_end_2 : decode cX9_end 2 = .ok (.iload_n 1, 1) := by decide +kernel
theorem dX9_end_3 : decode cX9_end 3 = .ok (.invokevirtual 205, 3) := by decide +kernel
theorem dX9_end_6 : decode cX9_end 6 = .ok (.ifCond .eq 7, 3) := by decide +kernel
theorem dX9_end_9 : decode cX9_end 9 = .ok (.iconst 0, 1) := by decide +kernel
theorem dX9_end_10 : decode cX9_end 10 = .ok (.goto 4, 3) := by decide +kernel
theorem dX9_end_13 : decode cX9_end 13 = .ok (.iconst 1, 1) := by decide +kernel
theorem dX9_end_14 : decode cX9_end 14 = .ok (.invokevirtual 162, 3) := by decide +kernel
theorem dX9_end_17 : decode cX9_end 17 = .ok (.ifCond .eq 5, 3) := by decide +kernel
theorem dX9_end_20 : decode cX9_end 20 = .ok (.iconst 0, 1) := by decide +kernel
theorem dX9_end_21 : decode cX9_end 21 = .ok (.ireturn, 1) := by decide +kernel
theorem dX9_end_22 : decode cX9_end 22 = .ok (.aload_n 0, 1) := by decide +kernel
theorem dX9_end_23 : decode cX9_end 23 = .ok (.invokevirtual 242, 3) := by decide +kernel
theorem dX9_end_26 : decode cX9_end 26 = .ok (.aload_n 0, 1) := by decide +kernel
theorem dX9_end_27 : decode cX9_end 27 = .ok (.getfield 17, 3) := by decide +kernel
theorem dX9_end_30 : decode cX9_end 30 = .ok (.iload_n 1, 1) := by decide +kernel
theorem dX9_end_31 : decode cX9_end 31 = .ok (.iconst 1, 1) := by decide +kernel
theorem dX9_end_32 : decode cX9_end 32 = .ok (.invokestatic 82, 3) := by decide +kernel
theorem dX9_end_35 : decode cX9_end 35 = .ok (.lconst 1, 1) := by decide +kernel
theorem dX9_end_36 : decode cX9_end 36 = .ok (.lastore, 1) := by decide +kernel
theorem dX9_end_37 : decode cX9_end 37 = .ok (.aload_n 0, 1) := by decide +kernel
theorem dX9_end_38 : decode cX9_end 38 = .ok (.aload_n 0, 1) := by decide +kernel
theorem dX9_end_39 : decode cX9_end 39 = .ok (.getfield 17, 3) := by decide +kernel
theorem dX9_end_42 : decode cX9_end 42 = .ok (.invokevirtual 248, 3) := by decide +kernel
theorem dX9_end_45 : decode cX9_end 45 = .ok (.ireturn, 1) := by decide +kernel
theorem dX9_join_0 : decode cX9_join 0 = .ok (.aload_n 0, 1) := by decide +kernel
theorem dX9_join_1 : decode cX9_join 1 = .ok (.aload_n 0, 1) := by decide +kernel
theorem dX9_join_2 : decode cX9_join 2 = .ok (.iload_n 1, 1) := by decide +kernel
theorem dX9_join_3 : decode cX9_join 3 = .ok (.invokevirtual 205, 3) := by decide +kernel
theorem dX9_join_6 : decode cX9_join 6 = .ok (.ifCond .eq 7, 3) := by decide +kernel
theorem dX9_join_9 : decode cX9_join 9 = .ok (.iconst 0, 1) := by decide +kernel
theorem dX9_join_10 : decode cX9_join 10 = .ok (.goto 4, 3) := by decide +kernel
theorem dX9_join_13 : decode cX9_join 13 = .ok (.iconst 1, 1) := by decide +kernel
theorem dX9_join_14 : decode cX9_join 14 = .ok (.invokevirtual 162, 3) := by decide +kernel
theorem dX9_join_17 : decode cX9_join 17 = .ok (.ifCond .eq 5, 3) := by decide +kernel
theorem dX9_join_20 : decode cX9_join 20 = .ok (.iconst 0, 1) := by decide +kernel
theorem dX9_join_21 : decode cX9_join 21 = .ok (.ireturn, 1) := by decide +kernel
theorem dX9_join_22 : decode cX9_join 22 = .ok (.aload_n 0, 1) := by decide +kernel
theorem dX9_join_23 : decode cX9_join 23 = .ok (.invokevirtual 242, 3) := by decide +kernel
theorem dX9_join_26 : decode cX9_join 26 = .ok (.aload_n 0, 1) := by decide +kernel
theorem dX9_join_27 : decode cX9_join 27 = .ok (.getfield 17, 3) := by decide +kernel
theorem dX9_join_30 : decode cX9_join 30 = .ok (.iload_n 1, 1) := by decide +kernel
theorem dX9_join_31 : decode cX9_join 31 = .ok (.invokestatic 251, 3) := by decide +kernel
theorem dX9_join_34 : decode cX9_join 34 = .ok (.aload_n 0, 1) := by decide +kernel
theorem dX9_join_35 : decode cX9_join 35 = .ok (.aload_n 0, 1) := by decide +kernel
theorem dX9_join_36 : decode cX9_join 36 = .ok (.getfield 17, 3) := by decide +kernel
theorem dX9_join_39 : decode cX9_join 39 = .ok (.invokevirtual 248, 3) := by decide +kernel
theorem dX9_join_42 : decode cX9_join 42 = .ok (.ireturn, 1) := by decide +kernel
theorem dX9_isFree_0 : decode cX9_isFree 0 = .ok (.aload_n 0, 1) := by decide +kernel
theorem dX9_isFree_1 : decode cX9_isFree 1 = .ok (.getfield 159, 3) := by decide +kernel
theorem dX9_isFree_4 : decode cX9_isFree 4 = .ok (.bipush 24, 2) := by decide +kernel
theorem dX9_isFree_6 : decode cX9_isFree 6 = .ok (.if_icmp .gt 7, 3) := by decide +kernel
theorem dX9_isFree_9 : decode cX9_isFree 9 = .ok (.iconst 1, 1) := by decide +kernel
theorem dX9_isFree_10 : decode cX9_isFree 10 = .ok (.goto 4, 3) := by decide +kernel
theorem dX9_isFree_13 : decode cX9_isFree 13 = .ok (.iconst 0, 1) := by decide +kernel
theorem dX9_isFree_14 : decode cX9_isFree 14 = .ok (.istore_n 1, 1) := by decide +kernel
theorem dX9_isFree_15 : decode cX9_isFree 15 = .ok (.iconst 0, 1) := by decide +kernel
theorem dX9_isFree_16 : decode cX9_isFree 16 = .ok (.istore_n 2, 1) := by decide +kernel
theorem dX9_isFree_17 : decode cX9_isFree 17 = .ok (.iload_n 2, 1) := by decide +kernel
theorem dX9_isFree_18 : decode cX9_isFree 18 = .ok (.aload_n 0, 1) := by decide +kernel
theorem dX9_isFree_19 : decode cX9_isFree 19 = .ok (.getfield 159, 3) := by decide +kernel
theorem dX9_isFree_22 : decode cX9_isFree 22 = .ok (.if_icmp .ge 38, 3) := by decide +kernel
theorem dX9_isFree_25 : decode cX9_isFree 25 = .ok (.iload_n 1, 1) := by decide +kernel
theorem dX9_isFree_26 : decode cX9_isFree 26 = .ok (.ifCond .eq 26, 3) := by decide +kernel
theorem dX9_isFree_29 : decode cX9_isFree 29 = .ok (.aload_n 0, 1) := by decide +kernel
theorem dX9_isFree_30 : decode cX9_isFree 30 = .ok (.getfield 7, 3) := by decide +kernel
theorem dX9_isFree_33 : decode cX9_isFree 33 = .ok (.iload_n 2, 1) := by decide +kernel
theorem dX9_isFree_34 : decode cX9_isFree 34 = .ok (.iaload, 1) := by decide +kernel
theorem dX9_isFree_35 : decode cX9_isFree 35 = .ok (.i2l, 1) := by decide +kernel
theorem dX9_isFree_36 : decode cX9_isFree 36 = .ok (.ldc2_w 254, 3) := by decide +kernel
theorem dX9_isFree_39 : decode cX9_isFree 39 = .ok (.ldc2_w 256, 3) := by decide +kernel
theorem dX9_isFree_42 : decode cX9_isFree 42 = .ok (.invokestatic 90, 3) := by decide +kernel
theorem dX9_isFree_45 : decode cX9_isFree 45 = .ok (.ifCond .eq 7, 3) := by decide +kernel
theorem dX9_isFree_48 : decode cX9_isFree 48 = .ok (.iconst 1, 1) := by decide +kernel
theorem dX9_isFree_49 : decode cX9_isFree 49 = .ok (.goto 4, 3) := by decide +kernel
theorem dX9_isFree_52 : decode cX9_isFree 52 = .ok (.iconst 0, 1) := by decide +kernel
theorem dX9_isFree_53 : decode cX9_isFree 53 = .ok (.istore_n 1, 1) := by decide +kernel
theorem dX9_isFree_54 : decode cX9_isFree 54 = .ok (.iinc 2 1, 3) := by decide +kernel
theorem dX9_isFree_57 : decode cX9_isFree 57 = .ok (.goto (-40), 3) := by decide +kernel
theorem dX9_isFree_60 : decode cX9_isFree 60 = .ok (.iload_n 1, 1) := by decide +kernel
theorem dX9_isFree_61 : decode cX9_isFree 61 = .ok (.ireturn, 1) := by decide +kernel
theorem dX9_setFree_0 : decode cX9_setFree 0 = .ok (.aload_n 0, 1) := by decide +kernel
theorem dX9_setFree_1 : decode cX9_setFree 1 = .ok (.aload_n 0, 1) := by decide +kernel
theorem dX9_setFree_2 : decode cX9_setFree 2 = .ok (.iload_n 1, 1) := by decide +kernel
theorem dX9_setFree_3 : decode cX9_setFree 3 = .ok (.invokevirtual 205, 3) := by decide +kernel
theorem dX9_setFree_6 : decode cX9_setFree 6 = .ok (.ifCond .ne 7, 3) := by decide +kernel
theorem dX9_setFree_9 : decode cX9_setFree 9 = .ok (.iconst 1, 1) := by decide +kernel
theorem dX9_setFree_10 : decode cX9_setFree 10 = .ok (.goto 15, 3) := by decide +kernel
theorem dX9_setFree_13 : decode cX9_setFree 13 = .ok (.aload_n 0, 1) := by decide +kernel
theorem dX9_setFree_14 : decode cX9_setFree 14 = .ok (.invokevirtual 258, 3) := by decide +kernel
theorem dX9_setFree_17 : decode cX9_setFree 17 = .ok (.ifCond .eq 7, 3) := by decide +kernel
theorem dX9_setFree_20 : decode cX9_setFree 20 = .ok (.iconst 0, 1) := by decide +kernel
theorem dX9_setFree_21 : decode cX9_setFree 21 = .ok (.goto 4, 3) := by decide +kernel
theorem dX9_setFree_24 : decode cX9_setFree 24 = .ok (.iconst 2, 1) := by decide +kernel
theorem dX9_setFree_25 : decode cX9_setFree 25 = .ok (.invokevirtual 162, 3) := by decide +kernel
theorem dX9_setFree_28 : decode cX9_setFree 28 = .ok (.ifCond .eq 5, 3) := by decide +kernel
theorem dX9_setFree_31 : decode cX9_setFree 31 = .ok (.iconst 0, 1) := by decide +kernel
theorem dX9_setFree_32 : decode cX9_setFree 32 = .ok (.ireturn, 1) := by decide +kernel
theorem dX9_setFree_33 : decode cX9_setFree 33 = .ok (.aload_n 0, 1) := by decide +kernel
theorem dX9_setFree_34 : decode cX9_setFree 34 = .ok (.invokevirtual 242, 3) := by decide +kernel
theorem dX9_setFree_37 : decode cX9_setFree 37 = .ok (.iconst 2, 1) := by decide +kernel
theorem dX9_setFree_38 : decode cX9_setFree 38 = .ok (.istore_n 2, 1) := by decide +kernel
theorem dX9_setFree_39 : decode cX9_setFree 39 = .ok (.iload_n 2, 1) := by decide +kernel
theorem dX9_setFree_40 : decode cX9_setFree 40 = .ok (.bipush 6, 2) := by decide +kernel
theorem dX9_setFree_42 : decode cX9_setFree 42 = .ok (.if_icmp .ge 20, 3) := by decide +kernel
theorem dX9_setFree_45 : decode cX9_setFree 45 = .ok (.aload_n 0, 1) := by decide +kernel
theorem dX9_setFree_46 : decode cX9_setFree 46 = .ok (.getfield 17, 3) := by decide +kernel
theorem dX9_setFree_49 : decode cX9_setFree 49 = .ok (.iload_n 1, 1) := by decide +kernel
theorem dX9_setFree_50 : decode cX9_setFree 50 = .ok (.iload_n 2, 1) := by decide +kernel
theorem dX9_setFree_51 : decode cX9_setFree 51 = .ok (.invokestatic 82, 3) := by decide +kernel
theorem dX9_setFree_54 : decode cX9_setFree 54 = .ok (.lconst 0, 1) := by decide +kernel
theorem dX9_setFree_55 : decode cX9_setFree 55 = .ok (.lastore, 1) := by decide +kernel
theorem dX9_setFree_56 : decode cX9_setFree 56 = .ok (.iinc 2 1, 3) := by decide +kernel
theorem dX9_setFree_59 : decode cX9_setFree 59 = .ok (.goto (-20), 3) := by decide +kernel
theorem dX9_setFree_62 : decode cX9_setFree 62 = .ok (.aload_n 0, 1) := by decide +kernel
theorem dX9_setFree_63 : decode cX9_setFree 63 = .ok (.getfield 17, 3) := by decide +kernel
theorem dX9_setFree_66 : decode cX9_setFree 66 = .ok (.iload_n 1, 1) := by decide +kernel
theorem dX9_setFree_67 : decode cX9_setFree 67 = .ok (.iconst 2, 1) := by decide +kernel
theorem dX9_setFree_68 : decode cX9_setFree 68 = .ok (.invokestatic 82, 3) := by decide +kernel
theorem dX9_setFree_71 : decode cX9_setFree 71 = .ok (.aload_n 0, 1) := by decide +kernel
theorem dX9_setFree_72 : decode cX9_setFree 72 = .ok (.getfield 159, 3) := by decide +kernel
theorem dX9_setFree_75 : decode cX9_setFree 75 = .ok (.i2l, 1) := by decide +kernel
theorem dX9_setFree_76 : decode cX9_setFree 76 = .ok (.lastore, 1) := by decide +kernel
theorem dX9_setFree_77 : decode cX9_setFree 77 = .ok (.aload_n 0, 1) := by decide +kernel
theorem dX9_setFree_78 : decode cX9_setFree 78 = .ok (.getfield 17, 3) := by decide +kernel
theorem dX9_setFree_81 : decode cX9_setFree 81 = .ok (.iload_n 1, 1) := by decide +kernel
theorem dX9_setFree_82 : decode cX9_setFree 82 = .ok (.iconst 1, 1) := by decide +kernel
theorem dX9_setFree_83 : decode cX9_setFree 83 = .ok (.invokestatic 82, 3) := by decide +kernel
theorem dX9_setFree_86 : decode cX9_setFree 86 = .ok (.aload_n 0, 1) := by decide +kernel
theorem dX9_setFree_87 : decode cX9_setFree 87 = .ok (.getfield 159, 3) := by decide +kernel
theorem dX9_setFree_90 : decode cX9_setFree 90 = .ok (.ifCond .le 7, 3) := by decide +kernel
theorem dX9_setFree_93 : decode cX9_setFree 93 = .ok (.lconst 1, 1) := by decide +kernel
theorem dX9_setFree_94 : decode cX9_setFree 94 = .ok (.goto 13, 3) := by decide +kernel
theorem dX9_setFree_97 : decode cX9_setFree 97 = .ok (.aload_n 0, 1) := by decide +kernel
theorem dX9_setFree_98 : decode cX9_setFree 98 = .ok (.getfield 17, 3) := by decide +kernel
theorem dX9_setFree_101 : decode cX9_setFree 101 = .ok (.iload_n 1, 1) := by decide +kernel
theorem dX9_setFree_102 : decode cX9_setFree 102 = .ok (.iconst 1, 1) := by decide +kernel
theorem dX9_setFree_103 : decode cX9_setFree 103 = .ok (.invokestatic 82, 3) := by decide +kernel
theorem dX9_setFree_106 : decode cX9_setFree 106 = .ok (.laload, 1) := by decide +kernel
theorem dX9_setFree_107 : decode cX9_setFree 107 = .ok (.lastore, 1) := by decide +kernel
theorem dX9_setFree_108 : decode cX9_setFree 108 = .ok (.iconst 0, 1) := by decide +kernel
theorem dX9_setFree_109 : decode cX9_setFree 109 = .ok (.istore_n 2, 1) := by decide +kernel
theorem dX9_setFree_110 : decode cX9_setFree 110 = .ok (.iload_n 2, 1) := by decide +kernel
theorem dX9_setFree_111 : decode cX9_setFree 111 = .ok (.aload_n 0, 1) := by decide +kernel
theorem dX9_setFree_112 : decode cX9_setFree 112 = .ok (.getfield 159, 3) := by decide +kernel
theorem dX9_setFree_115 : decode cX9_setFree 115 = .ok (.if_icmp .ge 42, 3) := by decide +kernel
theorem dX9_setFree_118 : decode cX9_setFree 118 = .ok (.aload_n 0, 1) := by decide +kernel
theorem dX9_setFree_119 : decode cX9_setFree 119 = .ok (.getfield 17, 3) := by decide +kernel
theorem dX9_setFree_122 : decode cX9_setFree 122 = .ok (.iload_n 1, 1) := by decide +kernel
theorem dX9_setFree_123 : decode cX9_setFree 123 = .ok (.iconst 3, 1) := by decide +kernel
theorem dX9_setFree_124 : decode cX9_setFree 124 = .ok (.iload_n 2, 1) := by decide +kernel
theorem dX9_setFree_125 : decode cX9_setFree 125 = .ok (.bipush 8, 2) := by decide +kernel
theorem dX9_setFree_127 : decode cX9_setFree 127 = .ok (.idiv, 1) := by decide +kernel
theorem dX9_setFree_128 : decode cX9_setFree 128 = .ok (.iadd, 1) := by decide +kernel
theorem dX9_setFree_129 : decode cX9_setFree 129 = .ok (.invokestatic 82, 3) := by decide +kernel
theorem dX9_setFree_132 : decode cX9_setFree 132 = .ok (.dup2, 1) := by decide +kernel
theorem dX9_setFree_133 : decode cX9_setFree 133 = .ok (.laload, 1) := by decide +kernel
theorem dX9_setFree_134 : decode cX9_setFree 134 = .ok (.aload_n 0, 1) := by decide +kernel
theorem dX9_setFree_135 : decode cX9_setFree 135 = .ok (.getfield 7, 3) := by decide +kernel
theorem dX9_setFree_138 : decode cX9_setFree 138 = .ok (.iload_n 2, 1) := by decide +kernel
theorem dX9_setFree_139 : decode cX9_setFree 139 = .ok (.iaload, 1) := by decide +kernel
theorem dX9_setFree_140 : decode cX9_setFree 140 = .ok (.i2l, 1) := by decide +kernel
theorem dX9_setFree_141 : decode cX9_setFree 141 = .ok (.bipush 7, 2) := by decide +kernel
theorem dX9_setFree_143 : decode cX9_setFree 143 = .ok (.iload_n 2, 1) := by decide +kernel
theorem dX9_setFree_144 : decode cX9_setFree 144 = .ok (.bipush 8, 2) := by decide +kernel
theorem dX9_setFree_146 : decode cX9_setFree 146 = .ok (.irem, 1) := by decide +kernel
theorem dX9_setFree_147 : decode cX9_setFree 147 = .ok (.imul, 1) := by decide +kernel
theorem dX9_setFree_148 : decode cX9_setFree 148 = .ok (.lshl, 1) := by decide +kernel
theorem dX9_setFree_149 : decode cX9_setFree 149 = .ok (.lor, 1) := by decide +kernel
theorem dX9_setFree_150 : decode cX9_setFree 150 = .ok (.lastore, 1) := by decide +kernel
theorem dX9_setFree_151 : decode cX9_setFree 151 = .ok (.iinc 2 1, 3) := by decide +kernel
theorem dX9_setFree_154 : decode cX9_setFree 154 = .ok (.goto (-44), 3) := by decide +kernel
theorem dX9_setFree_157 : decode cX9_setFree 157 = .ok (.aload_n 0, 1) := by decide +kernel
theorem dX9_setFree_158 : decode cX9_setFree 158 = .ok (.getfield 159, 3) := by decide +kernel
theorem dX9_setFree_161 : decode cX9_setFree 161 = .ok (.ireturn, 1) := by decide +kernel
theorem dX9_isGloss_0 : decode cX9_isGloss 0 = .ok (.aload_n 0, 1) := by decide +kernel
theorem dX9_isGloss_1 : decode cX9_isGloss 1 = .ok (.getfield 159, 3) := by decide +kernel
theorem dX9_isGloss_4 : decode cX9_isGloss 4 = .ok (.bipush 8, 2) := by decide +kernel
theorem dX9_isGloss_6 : decode cX9_isGloss 6 = .ok (.if_icmp .gt 7, 3) := by decide +kernel
theorem dX9_isGloss_9 : decode cX9_isGloss 9 = .ok (.iconst 1, 1) := by decide +kernel
theorem dX9_isGloss_10 : decode cX9_isGloss 10 = .ok (.goto 4, 3) := by decide +kernel
theorem dX9_isGloss_13 : decode cX9_isGloss 13 = .ok (.iconst 0, 1) := by decide +kernel
theorem dX9_isGloss_14 : decode cX9_isGloss 14 = .ok (.istore_n 1, 1) := by decide +kernel
theorem dX9_isGloss_15 : decode cX9_isGloss 15 = .ok (.iconst 0, 1) := by decide +kernel
theorem dX9_isGloss_16 : decode cX9_isGloss 16 = .ok (.istore_n 2, 1) := by decide +kernel
theorem dX9_isGloss_17 : decode cX9_isGloss 17 = .ok (.iload_n 2, 1) := by decide +kernel
theorem dX9_isGloss_18 : decode cX9_isGloss 18 = .ok (.aload_n 0, 1) := by decide +kernel
theorem dX9_isGloss_19 : decode cX9_isGloss 19 = .ok (.getfield 159, 3) := by decide +kernel
theorem dX9_isGloss_22 : decode cX9_isGloss 22 = .ok (.if_icmp .ge 31, 3) := by decide +kernel
theorem dX9_isGloss_25 : decode cX9_isGloss 25 = .ok (.iload_n 1, 1) := by decide +kernel
theorem dX9_isGloss_26 : decode cX9_isGloss 26 = .ok (.ifCond .eq 19, 3) := by decide +kernel
theorem dX9_isGloss_29 : decode cX9_isGloss 29 = .ok (.aload_n 0, 1) := by decide +kernel
theorem dX9_isGloss_30 : decode cX9_isGloss 30 = .ok (.getfield 7, 3) := by decide +kernel
theorem dX9_isGloss_33 : decode cX9_isGloss 33 = .ok (.iload_n 2, 1) := by decide +kernel
theorem dX9_isGloss_34 : decode cX9_isGloss 34 = .ok (.iaload, 1) := by decide +kernel
theorem dX9_isGloss_35 : decode cX9_isGloss 35 = .ok (.invokestatic 176, 3) := by decide +kernel
theorem dX9_isGloss_38 : decode cX9_isGloss 38 = .ok (.ifCond .eq 7, 3) := by decide +kernel
theorem dX9_isGloss_41 : decode cX9_isGloss 41 = .ok (.iconst 1, 1) := by decide +kernel
theorem dX9_isGloss_42 : decode cX9_isGloss 42 = .ok (.goto 4, 3) := by decide +kernel
theorem dX9_isGloss_45 : decode cX9_isGloss 45 = .ok (.iconst 0, 1) := by decide +kernel
theorem dX9_isGloss_46 : decode cX9_isGloss 46 = .ok (.istore_n 1, 1) := by decide +kernel
theorem dX9_isGloss_47 : decode cX9_isGloss 47 = .ok (.iinc 2 1, 3) := by decide +kernel
theorem dX9_isGloss_50 : decode cX9_isGloss 50 = .ok (.goto (-33), 3) := by decide +kernel
theorem dX9_isGloss_53 : decode cX9_isGloss 53 = .ok (.iload_n 1, 1) := by decide +kernel
theorem dX9_isGloss_54 : decode cX9_isGloss 54 = .ok (.ireturn, 1) := by decide +kernel
theorem dX9_setGloss_0 : decode cX9_setGloss 0 = .ok (.aload_n 0, 1) := by decide +kernel
theorem dX9_setGloss_1 : decode cX9_setGloss 1 = .ok (.aload_n 0, 1) := by decide +kernel
theorem dX9_setGloss_2 : decode cX9_setGloss 2 = .ok (.iload_n 1, 1) := by decide +kernel
theorem dX9_setGloss_3 : decode cX9_setGloss 3 = .ok (.iload_n 2, 1) := by decide +kernel
theorem dX9_setGloss_4 : decode cX9_setGloss 4 = .ok (.invokevirtual 214, 3) := by decide +kernel
theorem dX9_setGloss_7 : decode cX9_setGloss 7 = .ok (.ifCond .ne 7, 3) := by decide +kernel
theorem dX9_setGloss_10 : decode cX9_setGloss 10 = .ok (.iconst 1, 1) := by decide +kernel
theorem dX9_setGloss_11 : decode cX9_setGloss 11 = .ok (.goto 15, 3) := by decide +kernel
theorem dX9_setGloss_14 : decode cX9_setGloss 14 = .ok (.aload_n 0, 1) := by decide +kernel
theorem dX9_setGloss_15 : decode cX9_setGloss 15 = .ok (.invokevirtual 262, 3) := by decide +kernel
theorem dX9_setGloss_18 : decode cX9_setGloss 18 = .ok (.ifCond .eq 7, 3) := by decide +kernel
theorem dX9_setGloss_21 : decode cX9_setGloss 21 = .ok (.iconst 0, 1) := by decide +kernel
theorem dX9_setGloss_22 : decode cX9_setGloss 22 = .ok (.goto 4, 3) := by decide +kernel
theorem dX9_setGloss_25 : decode cX9_setGloss 25 = .ok (.iconst 2, 1) := by decide +kernel
theorem dX9_setGloss_26 : decode cX9_setGloss 26 = .ok (.invokevirtual 162, 3) := by decide +kernel
theorem dX9_setGloss_29 : decode cX9_setGloss 29 = .ok (.ifCond .eq 5, 3) := by decide +kernel
theorem dX9_setGloss_32 : decode cX9_setGloss 32 = .ok (.iconst 0, 1) := by decide +kernel
theorem dX9_setGloss_33 : decode cX9_setGloss 33 = .ok (.ireturn, 1) := by decide +kernel
theorem dX9_setGloss_34 : decode cX9_setGloss 34 = .ok (.aload_n 0, 1) := by decide +kernel
theorem dX9_setGloss_35 : decode cX9_setGloss 35 = .ok (.invokevirtual 242, 3) := by decide +kernel
theorem dX9_setGloss_38 : decode cX9_setGloss 38 = .ok (.lconst 0, 1) := by decide +kernel
theorem dX9_setGloss_39 : decode cX9_setGloss 39 = .ok (.lstore_n 3, 1) := by decide +kernel
theorem dX9_setGloss_40 : decode cX9_setGloss 40 = .ok (.iconst 0, 1) := by decide +kernel
theorem dX9_setGloss_41 : decode cX9_setGloss 41 = .ok (.istore 5, 2) := by decide +kernel
theorem dX9_setGloss_43 : decode cX9_setGloss 43 = .ok (.iload 5, 2) := by decide +kernel
theorem dX9_setGloss_45 : decode cX9_setGloss 45 = .ok (.aload_n 0, 1) := by decide +kernel
theorem dX9_setGloss_46 : decode cX9_setGloss 46 = .ok (.getfield 159, 3) := by decide +kernel
theorem dX9_setGloss_49 : decode cX9_setGloss 49 = .ok (.if_icmp .ge 23, 3) := by decide +kernel
theorem dX9_setGloss_52 : decode cX9_setGloss 52 = .ok (.lload_n 3, 1) := by decide +kernel
theorem dX9_setGloss_53 : decode cX9_setGloss 53 = .ok (.iload 5, 2) := by decide +kernel
theorem dX9_setGloss_55 : decode cX9_setGloss 55 = .ok (.aload_n 0, 1) := by decide +kernel
theorem dX9_setGloss_56 : decode cX9_setGloss 56 = .ok (.getfield 7, 3) := by decide +kernel
theorem dX9_setGloss_59 : decode cX9_setGloss 59 = .ok (.iload 5, 2) := by decide +kernel
theorem dX9_setGloss_61 : decode cX9_setGloss 61 = .ok (.iaload, 1) := by decide +kernel
theorem dX9_setGloss_62 : decode cX9_setGloss 62 = .ok (.invokestatic 179, 3) := by decide +kernel
theorem dX9_setGloss_65 : decode cX9_setGloss 65 = .ok (.lstore_n 3, 1) := by decide +kernel
theorem dX9_setGloss_66 : decode cX9_setGloss 66 = .ok (.iinc 5 1, 3) := by decide +kernel
theorem dX9_setGloss_69 : decode cX9_setGloss 69 = .ok (.goto (-26), 3) := by decide +kernel
theorem dX9_setGloss_72 : decode cX9_setGloss 72 = .ok (.aload_n 0, 1) := by decide +kernel
theorem dX9_setGloss_73 : decode cX9_setGloss 73 = .ok (.getfield 17, 3) := by decide +kernel
theorem dX9_setGloss_76 : decode cX9_setGloss 76 = .ok (.iload_n 1, 1) := by decide +kernel
theorem dX9_setGloss_77 : decode cX9_setGloss 77 = .ok (.iload_n 2, 1) := by decide +kernel
theorem dX9_setGloss_78 : decode cX9_setGloss 78 = .ok (.invokestatic 102, 3) := by decide +kernel
theorem dX9_setGloss_81 : decode cX9_setGloss 81 = .ok (.lload_n 3, 1) := by decide +kernel
theorem dX9_setGloss_82 : decode cX9_setGloss 82 = .ok (.lastore, 1) := by decide +kernel
theorem dX9_setGloss_83 : decode cX9_setGloss 83 = .ok (.aload_n 0, 1) := by decide +kernel
theorem dX9_setGloss_84 : decode cX9_setGloss 84 = .ok (.getfield 17, 3) := by decide +kernel
theorem dX9_setGloss_87 : decode cX9_setGloss 87 = .ok (.invokestatic 199, 3) := by decide +kernel
theorem dX9_setGloss_90 : decode cX9_setGloss 90 = .ok (.ireturn, 1) := by decide +kernel
theorem dX9_isSetting_0 : decode cX9_isSetting 0 = .ok (.iload_n 0, 1) := by decide +kernel
theorem dX9_isSetting_1 : decode cX9_isSetting 1 = .ok (.bipush 9, 2) := by decide +kernel
theorem dX9_isSetting_3 : decode cX9_isSetting 3 = .ok (.if_icmp .ne 17, 3) := by decide +kernel
theorem dX9_isSetting_6 : decode cX9_isSetting 6 = .ok (.iload_n 1, 1) := by decide +kernel
theorem dX9_isSetting_7 : decode cX9_isSetting 7 = .ok (.i2l, 1) := by decide +kernel
theorem dX9_isSetting_8 : decode cX9_isSetting 8 = .ok (.ldc2_w 69, 3) := by decide +kernel
theorem dX9_isSetting_11 : decode cX9_isSetting 11 = .ok (.ldc2_w 265, 3) := by decide +kernel
theorem dX9_isSetting_14 : decode cX9_isSetting 14 = .ok (.invokestatic 90, 3) := by decide +kernel
theorem dX9_isSetting_17 : decode cX9_isSetting 17 = .ok (.goto 42, 3) := by decide +kernel
theorem dX9_isSetting_20 : decode cX9_isSetting 20 = .ok (.iload_n 0, 1) := by decide +kernel
theorem dX9_isSetting_21 : decode cX9_isSetting 21 = .ok (.bipush 10, 2) := by decide +kernel
theorem dX9_isSetting_23 : decode cX9_isSetting 23 = .ok (.if_icmp .ne 15, 3) := by decide +kernel
theorem dX9_isSetting_26 : decode cX9_isSetting 26 = .ok (.iload_n 1, 1) := by decide +kernel
theorem dX9_isSetting_27 : decode cX9_isSetting 27 = .ok (.i2l, 1) := by decide +kernel
theorem dX9_isSetting_28 : decode cX9_isSetting 28 = .ok (.lconst 1, 1) := by decide +kernel
theorem dX9_isSetting_29 : decode cX9_isSetting 29 = .ok (.ldc2_w 218, 3) := by decide +kernel
theorem dX9_isSetting_32 : decode cX9_isSetting 32 = .ok (.invokestatic 90, 3) := by decide +kernel
theorem dX9_isSetting_35 : decode cX9_isSetting 35 = .ok (.goto 24, 3) := by decide +kernel
theorem dX9_isSetting_38 : decode cX9_isSetting 38 = .ok (.iload_n 0, 1) := by decide +kernel
theorem dX9_isSetting_39 : decode cX9_isSetting 39 = .ok (.bipush 11, 2) := by decide +kernel
theorem dX9_isSetting_41 : decode cX9_isSetting 41 = .ok (.if_icmp .ne 17, 3) := by decide +kernel
theorem dX9_isSetting_44 : decode cX9_isSetting 44 = .ok (.iload_n 1, 1) := by decide +kernel
theorem dX9_isSetting_45 : decode cX9_isSetting 45 = .ok (.i2l, 1) := by decide +kernel
theorem dX9_isSetting_46 : decode cX9_isSetting 46 = .ok (.lconst 0, 1) := by decide +kernel
theorem dX9_isSetting_47 : decode cX9_isSetting 47 = .ok (.lconst 1, 1) := by decide +kernel
theorem dX9_isSetting_48 : decode cX9_isSetting 48 = .ok (.invokestatic 90, 3) := by decide +kernel
theorem dX9_isSetting_51 : decode cX9_isSetting 51 = .ok (.ifCond .eq 7, 3) := by decide +kernel
theorem dX9_isSetting_54 : decode cX9_isSetting 54 = .ok (.iconst 1, 1) := by decide +kernel
theorem dX9_isSetting_55 : decode cX9_isSetting 55 = .ok (.goto 4, 3) := by decide +kernel
theorem dX9_isSetting_58 : decode cX9_isSetting 58 = .ok (.iconst 0, 1) := by decide +kernel
theorem dX9_isSetting_59 : decode cX9_isSetting 59 = .ok (.ireturn, 1) := by decide +kernel
theorem dX9_set_0 : decode cX9_set 0 = .ok (.aload_n 0, 1) := by decide +kernel
theorem dX9_set_1 : decode cX9_set 1 = .ok (.iload_n 1, 1) := by decide +kernel
theorem dX9_set_2 : decode cX9_set 2 = .ok (.iload_n 2, 1) := by decide +kernel
theorem dX9_set_3 : decode cX9_set 3 = .ok (.invokestatic 267, 3) := by decide +kernel
theorem dX9_set_6 : decode cX9_set 6 = .ok (.ifCond .eq 7, 3) := by decide +kernel
theorem dX9_set_9 : decode cX9_set 9 = .ok (.iconst 0, 1) := by decide +kernel
theorem dX9_set_10 : decode cX9_set 10 = .ok (.goto 4, 3) := by decide +kernel
theorem dX9_set_13 : decode cX9_set 13 = .ok (.iconst 1, 1) := by decide +kernel
theorem dX9_set_14 : decode cX9_set 14 = .ok (.invokevirtual 162, 3) := by decide +kernel
theorem dX9_set_17 : decode cX9_set 17 = .ok (.ifCond .eq 5, 3) := by decide +kernel
theorem dX9_set_20 : decode cX9_set 20 = .ok (.iconst 0, 1) := by decide +kernel
theorem dX9_set_21 : decode cX9_set 21 = .ok (.ireturn, 1) := by decide +kernel
theorem dX9_set_22 : decode cX9_set 22 = .ok (.aload_n 0, 1) := by decide +kernel
theorem dX9_set_23 : decode cX9_set 23 = .ok (.invokevirtual 242, 3) := by decide +kernel
theorem dX9_set_26 : decode cX9_set 26 = .ok (.aload_n 0, 1) := by decide +kernel
theorem dX9_set_27 : decode cX9_set 27 = .ok (.getfield 17, 3) := by decide +kernel
theorem dX9_set_30 : decode cX9_set 30 = .ok (.iconst 2, 1) := by decide +kernel
theorem dX9_set_31 : decode cX9_set 31 = .ok (.iload_n 1, 1) := by decide +kernel
theorem dX9_set_32 : decode cX9_set 32 = .ok (.iadd, 1) := by decide +kernel
theorem dX9_set_33 : decode cX9_set 33 = .ok (.bipush 9, 2) := by decide +kernel
theorem dX9_set_35 : decode cX9_set 35 = .ok (.isub, 1) := by decide +kernel
theorem dX9_set_36 : decode cX9_set 36 = .ok (.laload, 1) := by decide +kernel
theorem dX9_set_37 : decode cX9_set 37 = .ok (.l2i, 1) := by decide +kernel
theorem dX9_set_38 : decode cX9_set 38 = .ok (.istore_n 3, 1) := by decide +kernel
theorem dX9_set_39 : decode cX9_set 39 = .ok (.aload_n 0, 1) := by decide +kernel
theorem dX9_set_40 : decode cX9_set 40 = .ok (.getfield 17, 3) := by decide +kernel
theorem dX9_set_43 : decode cX9_set 43 = .ok (.iconst 2, 1) := by decide +kernel
theorem dX9_set_44 : decode cX9_set 44 = .ok (.iload_n 1, 1) := by decide +kernel
theorem dX9_set_45 : decode cX9_set 45 = .ok (.iadd, 1) := by decide +kernel
theorem dX9_set_46 : decode cX9_set 46 = .ok (.bipush 9, 2) := by decide +kernel
theorem dX9_set_48 : decode cX9_set 48 = .ok (.isub, 1) := by decide +kernel
theorem dX9_set_49 : decode cX9_set 49 = .ok (.iload_n 2, 1) := by decide +kernel
theorem dX9_set_50 : decode cX9_set 50 = .ok (.i2l, 1) := by decide +kernel
theorem dX9_set_51 : decode cX9_set 51 = .ok (.lastore, 1) := by decide +kernel
theorem dX9_set_52 : decode cX9_set 52 = .ok (.iload_n 3, 1) := by decide +kernel
theorem dX9_set_53 : decode cX9_set 53 = .ok (.ireturn, 1) := by decide +kernel
theorem dX9_learn_0 : decode cX9_learn 0 = .ok (.aload_n 0, 1) := by decide +kernel
theorem dX9_learn_1 : decode cX9_learn 1 = .ok (.aload_n 0, 1) := by decide +kernel
theorem dX9_learn_2 : decode cX9_learn 2 = .ok (.iload_n 1, 1) := by decide +kernel
theorem dX9_learn_3 : decode cX9_learn 3 = .ok (.iload_n 2, 1) := by decide +kernel
theorem dX9_learn_4 : decode cX9_learn 4 = .ok (.invokevirtual 214, 3) := by decide +kernel
theorem dX9_learn_7 : decode cX9_learn 7 = .ok (.ifCond .ne 7, 3) := by decide +kernel
theorem dX9_learn_10 : decode cX9_learn 10 = .ok (.iconst 1, 1) := by decide +kernel
theorem dX9_learn_11 : decode cX9_learn 11 = .ok (.goto 20, 3) := by decide +kernel
theorem dX9_learn_14 : decode cX9_learn 14 = .ok (.aload_n 0, 1) := by decide +kernel
theorem dX9_learn_15 : decode cX9_learn 15 = .ok (.getfield 17, 3) := by decide +kernel
theorem dX9_learn_18 : decode cX9_learn 18 = .ok (.iload_n 1, 1) := by decide +kernel
theorem dX9_learn_19 : decode cX9_learn 19 = .ok (.iload_n 2, 1) := by decide +kernel
theorem dX9_learn_20 : decode cX9_learn 20 = .ok (.invokestatic 270, 3) := by decide +kernel
theorem dX9_learn_23 : decode cX9_learn 23 = .ok (.ifCond .eq 7, 3) := by decide +kernel
theorem dX9_learn_26 : decode cX9_learn 26 = .ok (.iconst 0, 1) := by decide +kernel
theorem dX9_learn_27 : decode cX9_learn 27 = .ok (.goto 4, 3) := by decide +kernel
theorem dX9_learn_30 : decode cX9_learn 30 = .ok (.iconst 2, 1) := by decide +kernel
theorem dX9_learn_31 : decode cX9_learn 31 = .ok (.invokevirtual 162, 3) := by decide +kernel
theorem dX9_learn_34 : decode cX9_learn 34 = .ok (.ifCond .eq 5, 3) := by decide +kernel
theorem dX9_learn_37 : decode cX9_learn 37 = .ok (.iconst 0, 1) := by decide +kernel
theorem dX9_learn_38 : decode cX9_learn 38 = .ok (.ireturn, 1) := by decide +kernel
theorem dX9_learn_39 : decode cX9_learn 39 = .ok (.aload_n 0, 1) := by decide +kernel
theorem dX9_learn_40 : decode cX9_learn 40 = .ok (.invokevirtual 242, 3) := by decide +kernel
theorem dX9_learn_43 : decode cX9_learn 43 = .ok (.aload_n 0, 1) := by decide +kernel
theorem dX9_learn_44 : decode cX9_learn 44 = .ok (.getfield 17, 3) := by decide +kernel
theorem dX9_learn_47 : decode cX9_learn 47 = .ok (.iload_n 1, 1) := by decide +kernel
theorem dX9_learn_48 : decode cX9_learn 48 = .ok (.iload_n 2, 1) := by decide +kernel
theorem dX9_learn_49 : decode cX9_learn 49 = .ok (.invokestatic 273, 3) := by decide +kernel
theorem dX9_learn_52 : decode cX9_learn 52 = .ok (.aload_n 0, 1) := by decide +kernel
theorem dX9_learn_53 : decode cX9_learn 53 = .ok (.getfield 17, 3) := by decide +kernel
theorem dX9_learn_56 : decode cX9_learn 56 = .ok (.iconst 1, 1) := by decide +kernel
theorem dX9_learn_57 : decode cX9_learn 57 = .ok (.laload, 1) := by decide +kernel
theorem dX9_learn_58 : decode cX9_learn 58 = .ok (.l2i, 1) := by decide +kernel
theorem dX9_learn_59 : decode cX9_learn 59 = .ok (.ireturn, 1) := by decide +kernel
theorem dX9_forget_0 : decode cX9_forget 0 = .ok (.aload_n 0, 1) := by decide +kernel
theorem dX9_forget_1 : decode cX9_forget 1 = .ok (.aload_n 0, 1) := by decide +kernel
theorem dX9_forget_2 : decode cX9_forget 2 = .ok (.iload_n 1, 1) := by decide +kernel
theorem dX9_forget_3 : decode cX9_forget 3 = .ok (.invokevirtual 220, 3) := by decide +kernel
theorem dX9_forget_6 : decode cX9_forget 6 = .ok (.ifCond .eq 7, 3) := by decide +kernel
theorem dX9_forget_9 : decode cX9_forget 9 = .ok (.iconst 0, 1) := by decide +kernel
theorem dX9_forget_10 : decode cX9_forget 10 = .ok (.goto 4, 3) := by decide +kernel
theorem dX9_forget_13 : decode cX9_forget 13 = .ok (.iconst 1, 1) := by decide +kernel
theorem dX9_forget_14 : decode cX9_forget 14 = .ok (.invokevirtual 162, 3) := by decide +kernel
theorem dX9_forget_17 : decode cX9_forget 17 = .ok (.ifCond .eq 5, 3) := by decide +kernel
theorem dX9_forget_20 : decode cX9_forget 20 = .ok (.iconst 0, 1) := by decide +kernel
theorem dX9_forget_21 : decode cX9_forget 21 = .ok (.ireturn, 1) := by decide +kernel
theorem dX9_forget_22 : decode cX9_forget 22 = .ok (.aload_n 0, 1) := by decide +kernel
theorem dX9_forget_23 : decode cX9_forget 23 = .ok (.invokevirtual 242, 3) := by decide +kernel
theorem dX9_forget_26 : decode cX9_forget 26 = .ok (.aload_n 0, 1) := by decide +kernel
theorem dX9_forget_27 : decode cX9_forget 27 = .ok (.getfield 17, 3) := by decide +kernel
theorem dX9_forget_30 : decode cX9_forget 30 = .ok (.sipush 221, 3) := by decide +kernel
theorem dX9_forget_33 : decode cX9_forget 33 = .ok (.iconst 2, 1) := by decide +kernel
theorem dX9_forget_34 : decode cX9_forget 34 = .ok (.iload_n 1, 1) := by decide +kernel
theorem dX9_forget_35 : decode cX9_forget 35 = .ok (.imul, 1) := by decide +kernel
theorem dX9_forget_36 : decode cX9_forget 36 = .ok (.iadd, 1) := by decide +kernel
theorem dX9_forget_37 : decode cX9_forget 37 = .ok (.iconst 2, 1) := by decide +kernel
theorem dX9_forget_38 : decode cX9_forget 38 = .ok (.iadd, 1) := by decide +kernel
theorem dX9_forget_39 : decode cX9_forget 39 = .ok (.aload_n 0, 1) := by decide +kernel
theorem dX9_forget_40 : decode cX9_forget 40 = .ok (.getfield 17, 3) := by decide +kernel
theorem dX9_forget_43 : decode cX9_forget 43 = .ok (.sipush 221, 3) := by decide +kernel
theorem dX9_forget_46 : decode cX9_forget 46 = .ok (.iconst 2, 1) := by decide +kernel
theorem dX9_forget_47 : decode cX9_forget 47 = .ok (.iload_n 1, 1) := by decide +kernel
theorem dX9_forget_48 : decode cX9_forget 48 = .ok (.imul, 1) := by decide +kernel
theorem dX9_forget_49 : decode cX9_forget 49 = .ok (.iadd, 1) := by decide +kernel
theorem dX9_forget_50 : decode cX9_forget 50 = .ok (.iconst 2, 1) := by decide +kernel
theorem dX9_forget_51 : decode cX9_forget 51 = .ok (.aload_n 0, 1) := by decide +kernel
theorem dX9_forget_52 : decode cX9_forget 52 = .ok (.getfield 17, 3) := by decide +kernel
theorem dX9_forget_55 : decode cX9_forget 55 = .ok (.iconst 1, 1) := by decide +kernel
theorem dX9_forget_56 : decode cX9_forget 56 = .ok (.laload, 1) := by decide +kernel
theorem dX9_forget_57 : decode cX9_forget 57 = .ok (.l2i, 1) := by decide +kernel
theorem dX9_forget_58 : decode cX9_forget 58 = .ok (.iconst 1, 1) := by decide +kernel
theorem dX9_forget_59 : decode cX9_forget 59 = .ok (.isub, 1) := by decide +kernel
theorem dX9_forget_60 : decode cX9_forget 60 = .ok (.iload_n 1, 1) := by decide +kernel
theorem dX9_forget_61 : decode cX9_forget 61 = .ok (.isub, 1) := by decide +kernel
theorem dX9_forget_62 : decode cX9_forget 62 = .ok (.imul, 1) := by decide +kernel
theorem dX9_forget_63 : decode cX9_forget 63 = .ok (.invokestatic 74, 3) := by decide +kernel
theorem dX9_forget_66 : decode cX9_forget 66 = .ok (.aload_n 0, 1) := by decide +kernel
theorem dX9_forget_67 : decode cX9_forget 67 = .ok (.getfield 17, 3) := by decide +kernel
theorem dX9_forget_70 : decode cX9_forget 70 = .ok (.iconst 1, 1) := by decide +kernel
theorem dX9_forget_71 : decode cX9_forget 71 = .ok (.dup2, 1) := by decide +kernel
theorem dX9_forget_72 : decode cX9_forget 72 = .ok (.laload, 1) := by decide +kernel
theorem dX9_forget_73 : decode cX9_forget 73 = .ok (.lconst 1, 1) := by decide +kernel
theorem dX9_forget_74 : decode cX9_forget 74 = .ok (.lsub, 1) := by decide +kernel
theorem dX9_forget_75 : decode cX9_forget 75 = .ok (.lastore, 1) := by decide +kernel
theorem dX9_forget_76 : decode cX9_forget 76 = .ok (.aload_n 0, 1) := by decide +kernel
theorem dX9_forget_77 : decode cX9_forget 77 = .ok (.getfield 17, 3) := by decide +kernel
theorem dX9_forget_80 : decode cX9_forget 80 = .ok (.iconst 1, 1) := by decide +kernel
theorem dX9_forget_81 : decode cX9_forget 81 = .ok (.laload, 1) := by decide +kernel
theorem dX9_forget_82 : decode cX9_forget 82 = .ok (.l2i, 1) := by decide +kernel
theorem dX9_forget_83 : decode cX9_forget 83 = .ok (.ireturn, 1) := by decide +kernel
theorem dX9_fillGaps_0 : decode cX9_fillGaps 0 = .ok (.aload_n 0, 1) := by decide +kernel
theorem dX9_fillGaps_1 : decode cX9_fillGaps 1 = .ok (.iconst 0, 1) := by decide +kernel
theorem dX9_fillGaps_2 : decode cX9_fillGaps 2 = .ok (.putfield 65, 3) := by decide +kernel
theorem dX9_fillGaps_5 : decode cX9_fillGaps 5 = .ok (.aload_n 0, 1) := by decide +kernel
theorem dX9_fillGaps_6 : decode cX9_fillGaps 6 = .ok (.invokevirtual 242, 3) := by decide +kernel
theorem dX9_fillGaps_9 : decode cX9_fillGaps 9 = .ok (.aload_n 0, 1) := by decide +kernel
theorem dX9_fillGaps_10 : decode cX9_fillGaps 10 = .ok (.getfield 17, 3) := by decide +kernel
theorem dX9_fillGaps_13 : decode cX9_fillGaps 13 = .ok (.invokestatic 276, 3) := by decide +kernel
theorem dX9_fillGaps_16 : decode cX9_fillGaps 16 = .ok (.ireturn, 1) := by decide +kernel
theorem dX9_undo_0 : decode cX9_undo 0 = .ok (.aload_n 0, 1) := by decide +kernel
theorem dX9_undo_1 : decode cX9_undo 1 = .ok (.aload_n 0, 1) := by decide +kernel
theorem dX9_undo_2 : decode cX9_undo 2 = .ok (.getfield 71, 3) := by decide +kernel
theorem dX9_undo_5 : decode cX9_undo 5 = .ok (.ifCond .ne 7, 3) := by decide +kernel
theorem dX9_undo_8 : decode cX9_undo 8 = .ok (.iconst 1, 1) := by decide +kernel
theorem dX9_undo_9 : decode cX9_undo 9 = .ok (.goto 4, 3) := by decide +kernel
theorem dX9_undo_12 : decode cX9_undo 12 = .ok (.iconst 0, 1) := by decide +kernel
theorem dX9_undo_13 : decode cX9_undo 13 = .ok (.invokevirtual 162, 3) := by decide +kernel
theorem dX9_undo_16 : decode cX9_undo 16 = .ok (.ifCond .eq 5, 3) := by decide +kernel
theorem dX9_undo_19 : decode cX9_undo 19 = .ok (.iconst 0, 1) := by decide +kernel
theorem dX9_undo_20 : decode cX9_undo 20 = .ok (.ireturn, 1) := by decide +kernel
theorem dX9_undo_21 : decode cX9_undo 21 = .ok (.aload_n 0, 1) := by decide +kernel
theorem dX9_undo_22 : decode cX9_undo 22 = .ok (.dup, 1) := by decide +kernel
theorem dX9_undo_23 : decode cX9_undo 23 = .ok (.getfield 71, 3) := by decide +kernel
theorem dX9_undo_26 : decode cX9_undo 26 = .ok (.iconst 1, 1) := by decide +kernel
theorem dX9_undo_27 : decode cX9_undo 27 = .ok (.isub, 1) := by decide +kernel
theorem dX9_undo_28 : decode cX9_undo 28 = .ok (.putfield 71, 3) := by decide +kernel
theorem dX9_undo_31 : decode cX9_undo 31 = .ok (.aload_n 0, 1) := by decide +kernel
theorem dX9_undo_32 : decode cX9_undo 32 = .ok (.getfield 23, 3) := by decide +kernel
theorem dX9_undo_35 : decode cX9_undo 35 = .ok (.sipush 253, 3) := by decide +kernel
theorem dX9_undo_38 : decode cX9_undo 38 = .ok (.aload_n 0, 1) := by decide +kernel
theorem dX9_undo_39 : decode cX9_undo 39 = .ok (.getfield 71, 3) := by decide +kernel
theorem dX9_undo_42 : decode cX9_undo 42 = .ok (.imul, 1) := by decide +kernel
theorem dX9_undo_43 : decode cX9_undo 43 = .ok (.aload_n 0, 1) := by decide +kernel
theorem dX9_undo_44 : decode cX9_undo 44 = .ok (.getfield 17, 3) := by decide +kernel
theorem dX9_undo_47 : decode cX9_undo 47 = .ok (.iconst 0, 1) := by decide +kernel
theorem dX9_undo_48 : decode cX9_undo 48 = .ok (.sipush 253, 3) := by decide +kernel
theorem dX9_undo_51 : decode cX9_undo 51 = .ok (.invokestatic 74, 3) := by decide +kernel
theorem dX9_undo_54 : decode cX9_undo 54 = .ok (.aload_n 0, 1) := by decide +kernel
theorem dX9_undo_55 : decode cX9_undo 55 = .ok (.getfield 71, 3) := by decide +kernel
theorem dX9_undo_58 : decode cX9_undo 58 = .ok (.ireturn, 1) := by decide +kernel
theorem dX9_gap_0 : decode cX9_gap 0 = .ok (.aload_n 0, 1) := by decide +kernel
theorem dX9_gap_1 : decode cX9_gap 1 = .ok (.iload_n 1, 1) := by decide +kernel
theorem dX9_gap_2 : decode cX9_gap 2 = .ok (.ifCond .ge 7, 3) := by decide +kernel
theorem dX9_gap_5 : decode cX9_gap 5 = .ok (.iconst 1, 1) := by decide +kernel
theorem dX9_gap_6 : decode cX9_gap 6 = .ok (.goto 4, 3) := by decide +kernel
theorem dX9_gap_9 : decode cX9_gap 9 = .ok (.iconst 0, 1) := by decide +kernel
theorem dX9_gap_10 : decode cX9_gap 10 = .ok (.invokevirtual 162, 3) := by decide +kernel
theorem dX9_gap_13 : decode cX9_gap 13 = .ok (.ifCond .eq 5, 3) := by decide +kernel
theorem dX9_gap_16 : decode cX9_gap 16 = .ok (.iconst 0, 1) := by decide +kernel
theorem dX9_gap_17 : decode cX9_gap 17 = .ok (.ireturn, 1) := by decide +kernel
theorem dX9_gap_18 : decode cX9_gap 18 = .ok (.iload_n 1, 1) := by decide +kernel
theorem dX9_gap_19 : decode cX9_gap 19 = .ok (.istore_n 2, 1) := by decide +kernel
theorem dX9_gap_20 : decode cX9_gap 20 = .ok (.iconst 0, 1) := by decide +kernel
theorem dX9_gap_21 : decode cX9_gap 21 = .ok (.istore_n 3, 1) := by decide +kernel
theorem dX9_gap_22 : decode cX9_gap 22 = .ok (.iload_n 3, 1) := by decide +kernel
theorem dX9_gap_23 : decode cX9_gap 23 = .ok (.aload_n 0, 1) := by decide +kernel
theorem dX9_gap_24 : decode cX9_gap 24 = .ok (.getfield 17, 3) := by decide +kernel
theorem dX9_gap_27 : decode cX9_gap 27 = .ok (.invokestatic 86, 3) := by decide +kernel
theorem dX9_gap_30 : decode cX9_gap 30 = .ok (.if_icmp .ge 62, 3) := by decide +kernel
theorem dX9_gap_33 : decode cX9_gap 33 = .ok (.iconst 0, 1) := by decide +kernel
theorem dX9_gap_34 : decode cX9_gap 34 = .ok (.istore 4, 2) := by decide +kernel
theorem dX9_gap_36 : decode cX9_gap 36 = .ok (.iload 4, 2) := by decide +kernel
theorem dX9_gap_38 : decode cX9_gap 38 = .ok (.aload_n 0, 1) := by decide +kernel
theorem dX9_gap_39 : decode cX9_gap 39 = .ok (.getfield 17, 3) := by decide +kernel
theorem dX9_gap_42 : decode cX9_gap 42 = .ok (.iload_n 3, 1) := by decide +kernel
theorem dX9_gap_43 : decode cX9_gap 43 = .ok (.invokestatic 98, 3) := by decide +kernel
theorem dX9_gap_46 : decode cX9_gap 46 = .ok (.if_icmp .ge 40, 3) := by decide +kernel
theorem dX9_gap_49 : decode cX9_gap 49 = .ok (.aload_n 0, 1) := by decide +kernel
theorem dX9_gap_50 : decode cX9_gap 50 = .ok (.getfield 17, 3) := by decide +kernel
theorem dX9_gap_53 : decode cX9_gap 53 = .ok (.iload_n 3, 1) := by decide +kernel
theorem dX9_gap_54 : decode cX9_gap 54 = .ok (.iload 4, 2) := by decide +kernel
theorem dX9_gap_56 : decode cX9_gap 56 = .ok (.invokestatic 102, 3) := by decide +kernel
theorem dX9_gap_59 : decode cX9_gap 59 = .ok (.laload, 1) := by decide +kernel
theorem dX9_gap_60 : decode cX9_gap 60 = .ok (.lconst 0, 1) := by decide +kernel
theorem dX9_gap_61 : decode cX9_gap 61 = .ok (.lcmp, 1) := by decide +kernel
theorem dX9_gap_62 : decode cX9_gap 62 = .ok (.ifCond .ne 18, 3) := by decide +kernel
theorem dX9_gap_65 : decode cX9_gap 65 = .ok (.iload_n 2, 1) := by decide +kernel
theorem dX9_gap_66 : decode cX9_gap 66 = .ok (.ifCond .ne 11, 3) := by decide +kernel
theorem dX9_gap_69 : decode cX9_gap 69 = .ok (.bipush 10, 2) := by decide +kernel
theorem dX9_gap_71 : decode cX9_gap 71 = .ok (.iload_n 3, 1) := by decide +kernel
theorem dX9_gap_72 : decode cX9_gap 72 = .ok (.imul, 1) := by decide +kernel
theorem dX9_gap_73 : decode cX9_gap 73 = .ok (.iload 4, 2) := by decide +kernel
theorem dX9_gap_75 : decode cX9_gap 75 = .ok (.iadd, 1) := by decide +kernel
theorem dX9_gap_76 : decode cX9_gap 76 = .ok (.ireturn, 1) := by decide +kernel
theorem dX9_gap_77 : decode cX9_gap 77 = .ok (.iinc 2 (-1), 3) := by decide +kernel
theorem dX9_gap_80 : decode cX9_gap 80 = .ok (.iinc 4 1, 3) := by decide +kernel
theorem dX9_gap_83 : decode cX9_gap 83 = .ok (.goto (-47), 3) := by decide +kernel
theorem dX9_gap_86 : decode cX9_gap 86 = .ok (.iinc 3 1, 3) := by decide +kernel
theorem dX9_gap_89 : decode cX9_gap 89 = .ok (.goto (-67), 3) := by decide +kernel
theorem dX9_gap_92 : decode cX9_gap 92 = .ok (.bipush (-9), 2) := by decide +kernel
theorem dX9_gap_94 : decode cX9_gap 94 = .ok (.ireturn, 1) := by decide +kernel
theorem dX9_uses_0 : decode cX9_uses 0 = .ok (.iconst 0, 1) := by decide +kernel
theorem dX9_uses_1 : decode cX9_uses 1 = .ok (.istore_n 3, 1) := by decide +kernel
theorem dX9_uses_2 : decode cX9_uses 2 = .ok (.iconst 0, 1) := by decide +kernel
theorem dX9_uses_3 : decode cX9_uses 3 = .ok (.istore 4, 2) := by decide +kernel
theorem dX9_uses_5 : decode cX9_uses 5 = .ok (.iload 4, 2) := by decide +kernel
theorem dX9_uses_7 : decode cX9_uses 7 = .ok (.aload_n 0, 1) := by decide +kernel
theorem dX9_uses_8 : decode cX9_uses 8 = .ok (.getfield 17, 3) := by decide +kernel
theorem dX9_uses_11 : decode cX9_uses 11 = .ok (.invokestatic 86, 3) := by decide +kernel
theorem dX9_uses_14 : decode cX9_uses 14 = .ok (.if_icmp .ge 57, 3) := by decide +kernel
theorem dX9_uses_17 : decode cX9_uses 17 = .ok (.iconst 0, 1) := by decide +kernel
theorem dX9_uses_18 : decode cX9_uses 18 = .ok (.istore 5, 2) := by decide +kernel
theorem dX9_uses_20 : decode cX9_uses 20 = .ok (.iload 5, 2) := by decide +kernel
theorem dX9_uses_22 : decode cX9_uses 22 = .ok (.aload_n 0, 1) := by decide +kernel
theorem dX9_uses_23 : decode cX9_uses 23 = .ok (.getfield 17, 3) := by decide +kernel
theorem dX9_uses_26 : decode cX9_uses 26 = .ok (.iload 4, 2) := by decide +kernel
theorem dX9_uses_28 : decode cX9_uses 28 = .ok (.invokestatic 98, 3) := by decide +kernel
theorem dX9_uses_31 : decode cX9_uses 31 = .ok (.if_icmp .ge 34, 3) := by decide +kernel
theorem dX9_uses_34 : decode cX9_uses 34 = .ok (.iload_n 3, 1) := by decide +kernel
theorem dX9_uses_35 : decode cX9_uses 35 = .ok (.aload_n 0, 1) := by decide +kernel
theorem dX9_uses_36 : decode cX9_uses 36 = .ok (.getfield 17, 3) := by decide +kernel
theorem dX9_uses_39 : decode cX9_uses 39 = .ok (.iload 4, 2) := by decide +kernel
theorem dX9_uses_41 : decode cX9_uses 41 = .ok (.iload 5, 2) := by decide +kernel
theorem dX9_uses_43 : decode cX9_uses 43 = .ok (.invokestatic 109, 3) := by decide +kernel
theorem dX9_uses_46 : decode cX9_uses 46 = .ok (.laload, 1) := by decide +kernel
theorem dX9_uses_47 : decode cX9_uses 47 = .ok (.lload_n 1, 1) := by decide +kernel
theorem dX9_uses_48 : decode cX9_uses 48 = .ok (.lcmp, 1) := by decide +kernel
theorem dX9_uses_49 : decode cX9_uses 49 = .ok (.ifCond .ne 7, 3) := by decide +kernel
theorem dX9_uses_52 : decode cX9_uses 52 = .ok (.iconst 1, 1) := by decide +kernel
theorem dX9_uses_53 : decode cX9_uses 53 = .ok (.goto 4, 3) := by decide +kernel
theorem dX9_uses_56 : decode cX9_uses 56 = .ok (.iconst 0, 1) := by decide +kernel
theorem dX9_uses_57 : decode cX9_uses 57 = .ok (.iadd, 1) := by decide +kernel
theorem dX9_uses_58 : decode cX9_uses 58 = .ok (.istore_n 3, 1) := by decide +kernel
theorem dX9_uses_59 : decode cX9_uses 59 = .ok (.iinc 5 1, 3) := by decide +kernel
theorem dX9_uses_62 : decode cX9_uses 62 = .ok (.goto (-42), 3) := by decide +kernel
theorem dX9_uses_65 : decode cX9_uses 65 = .ok (.iinc 4 1, 3) := by decide +kernel
theorem dX9_uses_68 : decode cX9_uses 68 = .ok (.goto (-63), 3) := by decide +kernel
theorem dX9_uses_71 : decode cX9_uses 71 = .ok (.iload_n 3, 1) := by decide +kernel
theorem dX9_uses_72 : decode cX9_uses 72 = .ok (.ireturn, 1) := by decide +kernel
theorem dX9_mostUsed_0 : decode cX9_mostUsed 0 = .ok (.aload_n 0, 1) := by decide +kernel
theorem dX9_mostUsed_1 : decode cX9_mostUsed 1 = .ok (.iconst 0, 1) := by decide +kernel
theorem dX9_mostUsed_2 : decode cX9_mostUsed 2 = .ok (.putfield 65, 3) := by decide +kernel
theorem dX9_mostUsed_5 : decode cX9_mostUsed 5 = .ok (.bipush (-9), 2) := by decide +kernel
theorem dX9_mostUsed_7 : decode cX9_mostUsed 7 = .ok (.istore_n 1, 1) := by decide +kernel
theorem dX9_mostUsed_8 : decode cX9_mostUsed 8 = .ok (.iconst 0, 1) := by decide +kernel
theorem dX9_mostUsed_9 : decode cX9_mostUsed 9 = .ok (.istore_n 2, 1) := by decide +kernel
theorem dX9_mostUsed_10 : decode cX9_mostUsed 10 = .ok (.lconst 0, 1) := by decide +kernel
theorem dX9_mostUsed_11 : decode cX9_mostUsed 11 = .ok (.lstore_n 3, 1) := by decide +kernel
theorem dX9_mostUsed_12 : decode cX9_mostUsed 12 = .ok (.iconst 0, 1) := by decide +kernel
theorem dX9_mostUsed_13 : decode cX9_mostUsed 13 = .ok (.istore 5, 2) := by decide +kernel
theorem dX9_mostUsed_15 : decode cX9_mostUsed 15 = .ok (.iload 5, 2) := by decide +kernel
theorem dX9_mostUsed_17 : decode cX9_mostUsed 17 = .ok (.aload_n 0, 1) := by decide +kernel
theorem dX9_mostUsed_18 : decode cX9_mostUsed 18 = .ok (.getfield 17, 3) := by decide +kernel
theorem dX9_mostUsed_21 : decode cX9_mostUsed 21 = .ok (.invokestatic 86, 3) := by decide +kernel
theorem dX9_mostUsed_24 : decode cX9_mostUsed 24 = .ok (.if_icmp .ge 88, 3) := by decide +kernel
theorem dX9_mostUsed_27 : decode cX9_mostUsed 27 = .ok (.iconst 0, 1) := by decide +kernel
theorem dX9_mostUsed_28 : decode cX9_mostUsed 28 = .ok (.istore 6, 2) := by decide +kernel
theorem dX9_mostUsed_30 : decode cX9_mostUsed 30 = .ok (.iload 6, 2) := by decide +kernel
theorem dX9_mostUsed_32 : decode cX9_mostUsed 32 = .ok (.aload_n 0, 1) := by decide +kernel
theorem dX9_mostUsed_33 : decode cX9_mostUsed 33 = .ok (.getfield 17, 3) := by decide +kernel
theorem dX9_mostUsed_36 : decode cX9_mostUsed 36 = .ok (.iload 5, 2) := by decide +kernel
theorem dX9_mostUsed_38 : decode cX9_mostUsed 38 = .ok (.invokestatic 98, 3) := by decide +kernel
theorem dX9_mostUsed_41 : decode cX9_mostUsed 41 = .ok (.if_icmp .ge 65, 3) := by decide +kernel
theorem dX9_mostUsed_44 : decode cX9_mostUsed 44 = .ok (.aload_n 0, 1) := by decide +kernel
theorem dX9_mostUsed_45 : decode cX9_mostUsed 45 = .ok (.getfield 17, 3) := by decide +kernel
theorem dX9_mostUsed_48 : decode cX9_mostUsed 48 = .ok (.iload 5, 2) := by decide +kernel
theorem dX9_mostUsed_50 : decode cX9_mostUsed 50 = .ok (.iload 6, 2) := by decide +kernel
theorem dX9_mostUsed_52 : decode cX9_mostUsed 52 = .ok (.invokestatic 109, 3) := by decide +kernel
theorem dX9_mostUsed_55 : decode cX9_mostUsed 55 = .ok (.laload, 1) := by decide +kernel
theorem dX9_mostUsed_56 : decode cX9_mostUsed 56 = .ok (.lstore 7, 2) := by decide +kernel
theorem dX9_mostUsed_58 : decode cX9_mostUsed 58 = .ok (.aload_n 0, 1) := by decide +kernel
theorem dX9_mostUsed_59 : decode cX9_mostUsed 59 = .ok (.lload 7, 2) := by decide +kernel
theorem dX9_mostUsed_61 : decode cX9_mostUsed 61 = .ok (.invokevirtual 279, 3) := by decide +kernel
theorem dX9_mostUsed_64 : decode cX9_mostUsed 64 = .ok (.istore 9, 2) := by decide +kernel
theorem dX9_mostUsed_66 : decode cX9_mostUsed 66 = .ok (.iload 9, 2) := by decide +kernel
theorem dX9_mostUsed_68 : decode cX9_mostUsed 68 = .ok (.iload_n 2, 1) := by decide +kernel
theorem dX9_mostUsed_69 : decode cX9_mostUsed 69 = .ok (.if_icmp .gt 16, 3) := by decide +kernel
theorem dX9_mostUsed_72 : decode cX9_mostUsed 72 = .ok (.iload 9, 2) := by decide +kernel
theorem dX9_mostUsed_74 : decode cX9_mostUsed 74 = .ok (.iload_n 2, 1) := by decide +kernel
theorem dX9_mostUsed_75 : decode cX9_mostUsed 75 = .ok (.if_icmp .ne 25, 3) := by decide +kernel
theorem dX9_mostUsed_78 : decode cX9_mostUsed 78 = .ok (.lload 7, 2) := by decide +kernel
theorem dX9_mostUsed_80 : decode cX9_mostUsed 80 = .ok (.lload_n 3, 1) := by decide +kernel
theorem dX9_mostUsed_81 : decode cX9_mostUsed 81 = .ok (.lcmp, 1) := by decide +kernel
theorem dX9_mostUsed_82 : decode cX9_mostUsed 82 = .ok (.ifCond .ge 18, 3) := by decide +kernel
theorem dX9_mostUsed_85 : decode cX9_mostUsed 85 = .ok (.bipush 10, 2) := by decide +kernel
theorem dX9_mostUsed_87 : decode cX9_mostUsed 87 = .ok (.iload 5, 2) := by decide +kernel
theorem dX9_mostUsed_89 : decode cX9_mostUsed 89 = .ok (.imul, 1) := by decide +kernel
theorem dX9_mostUsed_90 : decode cX9_mostUsed 90 = .ok (.iload 6, 2) := by decide +kernel
theorem dX9_mostUsed_92 : decode cX9_mostUsed 92 = .ok (.iadd, 1) := by decide +kernel
theorem dX9_mostUsed_93 : decode cX9_mostUsed 93 = .ok (.istore_n 1, 1) := by decide +kernel
theorem dX9_mostUsed_94 : decode cX9_mostUsed 94 = .ok (.iload 9, 2) := by decide +kernel
theorem dX9_mostUsed_96 : decode cX9_mostUsed 96 = .ok (.istore_n 2, 1) := by decide +kernel
theorem dX9_mostUsed_97 : decode cX9_mostUsed 97 = .ok (.lload 7, 2) := by decide +kernel
theorem dX9_mostUsed_99 : decode cX9_mostUsed 99 = .ok (.lstore_n 3, 1) := by decide +kernel
theorem dX9_mostUsed_100 : decode cX9_mostUsed 100 = .ok (.iinc 6 1, 3) := by decide +kernel
theorem dX9_mostUsed_103 : decode cX9_mostUsed 103 = .ok (.goto (-73), 3) := by decide +kernel
theorem dX9_mostUsed_106 : decode cX9_mostUsed 106 = .ok (.iinc 5 1, 3) := by decide +kernel
theorem dX9_mostUsed_109 : decode cX9_mostUsed 109 = .ok (.goto (-94), 3) := by decide +kernel
theorem dX9_mostUsed_112 : decode cX9_mostUsed 112 = .ok (.iload_n 1, 1) := by decide +kernel
theorem dX9_mostUsed_113 : decode cX9_mostUsed 113 = .ok (.ireturn, 1) := by decide +kernel
theorem dX9_widthFor_0 : decode cX9_widthFor 0 = .ok (.aload_n 0, 1) := by decide +kernel
theorem dX9_widthFor_1 : decode cX9_widthFor 1 = .ok (.iload_n 1, 1) := by decide +kernel
theorem dX9_widthFor_2 : decode cX9_widthFor 2 = .ok (.i2l, 1) := by decide +kernel
theorem dX9_widthFor_3 : decode cX9_widthFor 3 = .ok (.lconst 0, 1) := by decide +kernel
theorem dX9_widthFor_4 : decode cX9_widthFor 4 = .ok (.ldc2_w 282, 3) := by decide +kernel
theorem dX9_widthFor_7 : decode cX9_widthFor 7 = .ok (.invokestatic 90, 3) := by decide +kernel
theorem dX9_widthFor_10 : decode cX9_widthFor 10 = .ok (.ifCond .eq 7, 3) := by decide +kernel
theorem dX9_widthFor_13 : decode cX9_widthFor 13 = .ok (.iconst 0, 1) := by decide +kernel
theorem dX9_widthFor_14 : decode cX9_widthFor 14 = .ok (.goto 4, 3) := by decide +kernel
theorem dX9_widthFor_17 : decode cX9_widthFor 17 = .ok (.iconst 1, 1) := by decide +kernel
theorem dX9_widthFor_18 : decode cX9_widthFor 18 = .ok (.invokevirtual 162, 3) := by decide +kernel
theorem dX9_widthFor_21 : decode cX9_widthFor 21 = .ok (.ifCond .eq 5, 3) := by decide +kernel
theorem dX9_widthFor_24 : decode cX9_widthFor 24 = .ok (.iconst 0, 1) := by decide +kernel
theorem dX9_widthFor_25 : decode cX9_widthFor 25 = .ok (.ireturn, 1) := by decide +kernel
theorem dX9_widthFor_26 : decode cX9_widthFor 26 = .ok (.bipush 10, 2) := by decide +kernel
theorem dX9_widthFor_28 : decode cX9_widthFor 28 = .ok (.istore_n 2, 1) := by decide +kernel
theorem dX9_widthFor_29 : decode cX9_widthFor 29 = .ok (.iload_n 2, 1) := by decide +kernel
theorem dX9_widthFor_30 : decode cX9_widthFor 30 = .ok (.bipush 60, 2) := by decide +kernel
theorem dX9_widthFor_32 : decode cX9_widthFor 32 = .ok (.if_icmp .gt 35, 3) := by decide +kernel
theorem dX9_widthFor_35 : decode cX9_widthFor 35 = .ok (.aload_n 0, 1) := by decide +kernel
theorem dX9_widthFor_36 : decode cX9_widthFor 36 = .ok (.aload_n 0, 1) := by decide +kernel
theorem dX9_widthFor_37 : decode cX9_widthFor 37 = .ok (.getfield 17, 3) := by decide +kernel
theorem dX9_widthFor_40 : decode cX9_widthFor 40 = .ok (.iload_n 2, 1) := by decide +kernel
theorem dX9_widthFor_41 : decode cX9_widthFor 41 = .ok (.aload_n 0, 1) := by decide +kernel
theorem dX9_widthFor_42 : decode cX9_widthFor 42 = .ok (.getfield 17, 3) := by decide +kernel
theorem dX9_widthFor_45 : decode cX9_widthFor 45 = .ok (.iconst 4, 1) := by decide +kernel
theorem dX9_widthFor_46 : decode cX9_widthFor 46 = .ok (.laload, 1) := by decide +kernel
theorem dX9_widthFor_47 : decode cX9_widthFor 47 = .ok (.l2i, 1) := by decide +kernel
theorem dX9_widthFor_48 : decode cX9_widthFor 48 = .ok (.invokevirtual 132, 3) := by decide +kernel
theorem dX9_widthFor_51 : decode cX9_widthFor 51 = .ok (.aload_n 0, 1) := by decide +kernel
theorem dX9_widthFor_52 : decode cX9_widthFor 52 = .ok (.getfield 116, 3) := by decide +kernel
theorem dX9_widthFor_55 : decode cX9_widthFor 55 = .ok (.iload_n 1, 1) := by decide +kernel
theorem dX9_widthFor_56 : decode cX9_widthFor 56 = .ok (.if_icmp .gt 5, 3) := by decide +kernel
theorem dX9_widthFor_59 : decode cX9_widthFor 59 = .ok (.iload_n 2, 1) := by decide +kernel
theorem dX9_widthFor_60 : decode cX9_widthFor 60 = .ok (.ireturn, 1) := by decide +kernel
theorem dX9_widthFor_61 : decode cX9_widthFor 61 = .ok (.iinc 2 1, 3) := by decide +kernel
theorem dX9_widthFor_64 : decode cX9_widthFor 64 = .ok (.goto (-35), 3) := by decide +kernel
theorem dX9_widthFor_67 : decode cX9_widthFor 67 = .ok (.bipush (-9), 2) := by decide +kernel
theorem dX9_widthFor_69 : decode cX9_widthFor 69 = .ok (.ireturn, 1) := by decide +kernel
theorem dX9_empty_0 : decode cX9_empty 0 = .ok (.aload_n 0, 1) := by decide +kernel
theorem dX9_empty_1 : decode cX9_empty 1 = .ok (.iconst 0, 1) := by decide +kernel
theorem dX9_empty_2 : decode cX9_empty 2 = .ok (.putfield 65, 3) := by decide +kernel
theorem dX9_empty_5 : decode cX9_empty 5 = .ok (.aload_n 0, 1) := by decide +kernel
theorem dX9_empty_6 : decode cX9_empty 6 = .ok (.invokevirtual 196, 3) := by decide +kernel
theorem dX9_empty_9 : decode cX9_empty 9 = .ok (.iconst 0, 1) := by decide +kernel
theorem dX9_empty_10 : decode cX9_empty 10 = .ok (.istore_n 1, 1) := by decide +kernel
theorem dX9_empty_11 : decode cX9_empty 11 = .ok (.iconst 0, 1) := by decide +kernel
theorem dX9_empty_12 : decode cX9_empty 12 = .ok (.istore_n 2, 1) := by decide +kernel
theorem dX9_empty_13 : decode cX9_empty 13 = .ok (.iload_n 2, 1) := by decide +kernel
theorem dX9_empty_14 : decode cX9_empty 14 = .ok (.aload_n 0, 1) := by decide +kernel
theorem dX9_empty_15 : decode cX9_empty 15 = .ok (.getfield 119, 3) := by decide +kernel
theorem dX9_empty_18 : decode cX9_empty 18 = .ok (.if_icmp .ge 47, 3) := by decide +kernel
theorem dX9_empty_21 : decode cX9_empty 21 = .ok (.iload_n 1, 1) := by decide +kernel
theorem dX9_empty_22 : decode cX9_empty 22 = .ok (.aload_n 0, 1) := by decide +kernel
theorem dX9_empty_23 : decode cX9_empty 23 = .ok (.getfield 45, 3) := by decide +kernel
theorem dX9_empty_26 : decode cX9_empty 26 = .ok (.iload_n 2, 1) := by decide +kernel
theorem dX9_empty_27 : decode cX9_empty 27 = .ok (.iaload, 1) := by decide +kernel
theorem dX9_empty_28 : decode cX9_empty 28 = .ok (.i2l, 1) := by decide +kernel
theorem dX9_empty_29 : decode cX9_empty 29 = .ok (.aload_n 0, 1) := by decide +kernel
theorem dX9_empty_30 : decode cX9_empty 30 = .ok (.getfield 17, 3) := by decide +kernel
theorem dX9_empty_33 : decode cX9_empty 33 = .ok (.iconst 2, 1) := by decide +kernel
theorem dX9_empty_34 : decode cX9_empty 34 = .ok (.laload, 1) := by decide +kernel
theorem dX9_empty_35 : decode cX9_empty 35 = .ok (.lcmp, 1) := by decide +kernel
theorem dX9_empty_36 : decode cX9_empty 36 = .ok (.ifCond .gt 20, 3) := by decide +kernel
theorem dX9_empty_39 : decode cX9_empty 39 = .ok (.aload_n 0, 1) := by decide +kernel
theorem dX9_empty_40 : decode cX9_empty 40 = .ok (.getfield 17, 3) := by decide +kernel
theorem dX9_empty_43 : decode cX9_empty 43 = .ok (.iconst 2, 1) := by decide +kernel
theorem dX9_empty_44 : decode cX9_empty 44 = .ok (.laload, 1) := by decide +kernel
theorem dX9_empty_45 : decode cX9_empty 45 = .ok (.l2i, 1) := by decide +kernel
theorem dX9_empty_46 : decode cX9_empty 46 = .ok (.aload_n 0, 1) := by decide +kernel
theorem dX9_empty_47 : decode cX9_empty 47 = .ok (.getfield 45, 3) := by decide +kernel
theorem dX9_empty_50 : decode cX9_empty 50 = .ok (.iload_n 2, 1) := by decide +kernel
theorem dX9_empty_51 : decode cX9_empty 51 = .ok (.iaload, 1) := by decide +kernel
theorem dX9_empty_52 : decode cX9_empty 52 = .ok (.isub, 1) := by decide +kernel
theorem dX9_empty_53 : decode cX9_empty 53 = .ok (.goto 4, 3) := by decide +kernel
theorem dX9_empty_56 : decode cX9_empty 56 = .ok (.iconst 0, 1) := by decide +kernel
theorem dX9_empty_57 : decode cX9_empty 57 = .ok (.iadd, 1) := by decide +kernel
theorem dX9_empty_58 : decode cX9_empty 58 = .ok (.istore_n 1, 1) := by decide +kernel
theorem dX9_empty_59 : decode cX9_empty 59 = .ok (.iinc 2 1, 3) := by decide +kernel
theorem dX9_empty_62 : decode cX9_empty 62 = .ok (.goto (-49), 3) := by decide +kernel
theorem dX9_empty_65 : decode cX9_empty 65 = .ok (.iload_n 1, 1) := by decide +kernel
theorem dX9_empty_66 : decode cX9_empty 66 = .ok (.ireturn, 1) := by decide +kernel
theorem dX9_rowsWith_0 : decode cX9_rowsWith 0 = .ok (.aload_n 0, 1) := by decide +kernel
theorem dX9_rowsWith_1 : decode cX9_rowsWith 1 = .ok (.bipush 9, 2) := by decide +kernel
theorem dX9_rowsWith_3 : decode cX9_rowsWith 3 = .ok (.iload_n 1, 1) := by decide +kernel
theorem dX9_rowsWith_4 : decode cX9_rowsWith 4 = .ok (.invokestatic 267, 3) := by decide +kernel
theorem dX9_rowsWith_7 : decode cX9_rowsWith 7 = .ok (.ifCond .eq 16, 3) := by decide +kernel
theorem dX9_rowsWith_10 : decode cX9_rowsWith 10 = .ok (.bipush 11, 2) := by decide +kernel
theorem dX9_rowsWith_12 : decode cX9_rowsWith 12 = .ok (.iload_n 2, 1) := by decide +kernel
theorem dX9_rowsWith_13 : decode cX9_rowsWith 13 = .ok (.invokestatic 267, 3) := by decide +kernel
theorem dX9_rowsWith_16 : decode cX9_rowsWith 16 = .ok (.ifCond .eq 7, 3) := by decide +kernel
theorem dX9_rowsWith_19 : decode cX9_rowsWith 19 = .ok (.iconst 0, 1) := by decide +kernel
theorem dX9_rowsWith_20 : decode cX9_rowsWith 20 = .ok (.goto 4, 3) := by decide +kernel
theorem dX9_rowsWith_23 : decode cX9_rowsWith 23 = .ok (.iconst 1, 1) := by decide +kernel
theorem dX9_rowsWith_24 : decode cX9_rowsWith 24 = .ok (.invokevirtual 162, 3) := by decide +kernel
theorem dX9_rowsWith_27 : decode cX9_rowsWith 27 = .ok (.ifCond .eq 5, 3) := by decide +kernel
theorem dX9_rowsWith_30 : decode cX9_rowsWith 30 = .ok (.iconst 0, 1) := by decide +kernel
theorem dX9_rowsWith_31 : decode cX9_rowsWith 31 = .ok (.ireturn, 1) := by decide +kernel
theorem dX9_rowsWith_32 : decode cX9_rowsWith 32 = .ok (.aload_n 0, 1) := by decide +kernel
theorem dX9_rowsWith_33 : decode cX9_rowsWith 33 = .ok (.aload_n 0, 1) := by decide +kernel
theorem dX9_rowsWith_34 : decode cX9_rowsWith 34 = .ok (.getfield 17, 3) := by decide +kernel
theorem dX9_rowsWith_37 : decode cX9_rowsWith 37 = .ok (.iload_n 1, 1) := by decide +kernel
theorem dX9_rowsWith_38 : decode cX9_rowsWith 38 = .ok (.iload_n 2, 1) := by decide +kernel
theorem dX9_rowsWith_39 : decode cX9_rowsWith 39 = .ok (.invokevirtual 132, 3) := by decide +kernel
theorem dX9_rowsWith_42 : decode cX9_rowsWith 42 = .ok (.aload_n 0, 1) := by decide +kernel
theorem dX9_rowsWith_43 : decode cX9_rowsWith 43 = .ok (.getfield 116, 3) := by decide +kernel
theorem dX9_rowsWith_46 : decode cX9_rowsWith 46 = .ok (.ireturn, 1) := by decide +kernel
theorem dX9_tryOut_0 : decode cX9_tryOut 0 = .ok (.aload_n 0, 1) := by decide +kernel
theorem dX9_tryOut_1 : decode cX9_tryOut 1 = .ok (.getfield 17, 3) := by decide +kernel
theorem dX9_tryOut_4 : decode cX9_tryOut 4 = .ok (.iconst 0, 1) := by decide +kernel
theorem dX9_tryOut_5 : decode cX9_tryOut 5 = .ok (.aload_n 0, 1) := by decide +kernel
theorem dX9_tryOut_6 : decode cX9_tryOut 6 = .ok (.getfield 20, 3) := by decide +kernel
theorem dX9_tryOut_9 : decode cX9_tryOut 9 = .ok (.iconst 0, 1) := by decide +kernel
theorem dX9_tryOut_10 : decode cX9_tryOut 10 = .ok (.sipush 253, 3) := by decide +kernel
theorem dX9_tryOut_13 : decode cX9_tryOut 13 = .ok (.invokestatic 74, 3) := by decide +kernel
theorem dX9_tryOut_16 : decode cX9_tryOut 16 = .ok (.return_, 1) := by decide +kernel
theorem dX9_command_0 : decode cX9_command 0 = .ok (.iload_n 1, 1) := by decide +kernel
theorem dX9_command_1 : decode cX9_command 1 = .ok (.sipush 1000, 3) := by decide +kernel
theorem dX9_command_4 : decode cX9_command 4 = .ok (.idiv, 1) := by decide +kernel
theorem dX9_command_5 : decode cX9_command 5 = .ok (.istore_n 2, 1) := by decide +kernel
theorem dX9_command_6 : decode cX9_command 6 = .ok (.iload_n 1, 1) := by decide +kernel
theorem dX9_command_7 : decode cX9_command 7 = .ok (.bipush 100, 2) := by decide +kernel
theorem dX9_command_9 : decode cX9_command 9 = .ok (.idiv, 1) := by decide +kernel
theorem dX9_command_10 : decode cX9_command 10 = .ok (.bipush 10, 2) := by decide +kernel
theorem dX9_command_12 : decode cX9_command 12 = .ok (.irem, 1) := by decide +kernel
theorem dX9_command_13 : decode cX9_command 13 = .ok (.istore_n 3, 1) := by decide +kernel
theorem dX9_command_14 : decode cX9_command 14 = .ok (.iload_n 1, 1) := by decide +kernel
theorem dX9_command_15 : decode cX9_command 15 = .ok (.bipush 100, 2) := by decide +kernel
theorem dX9_command_17 : decode cX9_command 17 = .ok (.irem, 1) := by decide +kernel
theorem dX9_command_18 : decode cX9_command 18 = .ok (.istore 4, 2) := by decide +kernel
theorem dX9_command_20 : decode cX9_command 20 = .ok (.iload_n 3, 1) := by decide +kernel
theorem dX9_command_21 : decode cX9_command 21 = .ok (.ifCond .ne 19, 3) := by decide +kernel
theorem dX9_command_24 : decode cX9_command 24 = .ok (.aload_n 0, 1) := by decide +kernel
theorem dX9_command_25 : decode cX9_command 25 = .ok (.getfield 20, 3) := by decide +kernel
theorem dX9_command_28 : decode cX9_command 28 = .ok (.iload 4, 2) := by decide +kernel
theorem dX9_command_30 : decode cX9_command 30 = .ok (.invokestatic 94, 3) := by decide +kernel
theorem dX9_command_33 : decode cX9_command 33 = .ok (.ifCond .eq 7, 3) := by decide +kernel
theorem dX9_command_36 : decode cX9_command 36 = .ok (.iconst 1, 1) := by decide +kernel
theorem dX9_command_37 : decode cX9_command 37 = .ok (.goto 4, 3) := by decide +kernel
theorem dX9_command_40 : decode cX9_command 40 = .ok (.iconst 0, 1) := by decide +kernel
theorem dX9_command_41 : decode cX9_command 41 = .ok (.istore 5, 2) := by decide +kernel
theorem dX9_command_43 : decode cX9_command 43 = .ok (.iload_n 2, 1) := by decide +kernel
theorem dX9_command_44 : decode cX9_command 44 = .ok (.tableswitch 273 1 9 #[52, 79, 106, 127, 145, 163, 203, 228, 251], 52) := by decide +kernel
theorem dX9_command_96 : decode cX9_command 96 = .ok (.iload_n 3, 1) := by decide +kernel
theorem dX9_command_97 : decode cX9_command 97 = .ok (.ifCond .ne 13, 3) := by decide +kernel
theorem dX9_command_100 : decode cX9_command 100 = .ok (.bipush 9, 2) := by decide +kernel
theorem dX9_command_102 : decode cX9_command 102 = .ok (.iload 4, 2) := by decide +kernel
theorem dX9_command_104 : decode cX9_command 104 = .ok (.invokestatic 267, 3) := by decide +kernel
theorem dX9_command_107 : decode cX9_command 107 = .ok (.ifCond .ne 5, 3) := by decide +kernel
theorem dX9_command_110 : decode cX9_command 110 = .ok (.iconst 0, 1) := by decide +kernel
theorem dX9_command_111 : decode cX9_command 111 = .ok (.ireturn, 1) := by decide +kernel
theorem dX9_command_112 : decode cX9_command 112 = .ok (.aload_n 0, 1) := by decide +kernel
theorem dX9_command_113 : decode cX9_command 113 = .ok (.getfield 20, 3) := by decide +kernel
theorem dX9_command_116 : decode cX9_command 116 = .ok (.iconst 2, 1) := by decide +kernel
theorem dX9_command_117 : decode cX9_command 117 = .ok (.iload 4, 2) := by decide +kernel
theorem dX9_command_119 : decode cX9_command 119 = .ok (.i2l, 1) := by decide +kernel
theorem dX9_command_120 : decode cX9_command 120 = .ok (.lastore, 1) := by decide +kernel
theorem dX9_command_121 : decode cX9_command 121 = .ok (.iconst 1, 1) := by decide +kernel
theorem dX9_command_122 : decode cX9_command 122 = .ok (.ireturn, 1) := by decide +kernel
theorem dX9_command_123 : decode cX9_command 123 = .ok (.iload_n 3, 1) := by decide +kernel
theorem dX9_command_124 : decode cX9_command 124 = .ok (.ifCond .ne 13, 3) := by decide +kernel
theorem dX9_command_127 : decode cX9_command 127 = .ok (.bipush 11, 2) := by decide +kernel
theorem dX9_command_129 : decode cX9_command 129 = .ok (.iload 4, 2) := by decide +kernel
theorem dX9_command_131 : decode cX9_command 131 = .ok (.invokestatic 267, 3) := by decide +kernel
theorem dX9_command_134 : decode cX9_command 134 = .ok (.ifCond .ne 5, 3) := by decide +kernel
theorem dX9_command_137 : decode cX9_command 137 = .ok (.iconst 0, 1) := by decide +kernel
theorem dX9_command_138 : decode cX9_command 138 = .ok (.ireturn, 1) := by decide +kernel
theorem dX9_command_139 : decode cX9_command 139 = .ok (.aload_n 0, 1) := by decide +kernel
theorem dX9_command_140 : decode cX9_command 140 = .ok (.getfield 20, 3) := by decide +kernel
theorem dX9_command_143 : decode cX9_command 143 = .ok (.iconst 4, 1) := by decide +kernel
theorem dX9_command_144 : decode cX9_command 144 = .ok (.iload 4, 2) := by decide +kernel
theorem dX9_command_146 : decode cX9_command 146 = .ok (.i2l, 1) := by decide +kernel
theorem dX9_command_147 : decode cX9_command 147 = .ok (.lastore, 1) := by decide +kernel
theorem dX9_command_148 : decode cX9_command 148 = .ok (.iconst 1, 1) := by decide +kernel
theorem dX9_command_149 : decode cX9_command 149 = .ok (.ireturn, 1) := by decide +kernel
theorem dX9_command_150 : decode cX9_command 150 = .ok (.iload 5, 2) := by decide +kernel
theorem dX9_command_152 : decode cX9_command 152 = .ok (.ifCond .ne 5, 3) := by decide +kernel
theorem dX9_command_155 : decode cX9_command 155 = .ok (.iconst 0, 1) := by decide +kernel
theorem dX9_command_156 : decode cX9_command 156 = .ok (.ireturn, 1) := by decide +kernel
theorem dX9_command_157 : decode cX9_command 157 = .ok (.aload_n 0, 1) := by decide +kernel
theorem dX9_command_158 : decode cX9_command 158 = .ok (.getfield 20, 3) := by decide +kernel
theorem dX9_command_161 : decode cX9_command 161 = .ok (.iload 4, 2) := by decide +kernel
theorem dX9_command_163 : decode cX9_command 163 = .ok (.iconst 1, 1) := by decide +kernel
theorem dX9_command_164 : decode cX9_command 164 = .ok (.invokestatic 82, 3) := by decide +kernel
theorem dX9_command_167 : decode cX9_command 167 = .ok (.lconst 1, 1) := by decide +kernel
theorem dX9_command_168 : decode cX9_command 168 = .ok (.lastore, 1) := by decide +kernel
theorem dX9_command_169 : decode cX9_command 169 = .ok (.iconst 1, 1) := by decide +kernel
theorem dX9_command_170 : decode cX9_command 170 = .ok (.ireturn, 1) := by decide +kernel
theorem dX9_command_171 : decode cX9_command 171 = .ok (.iload 5, 2) := by decide +kernel
theorem dX9_command_173 : decode cX9_command 173 = .ok (.ifCond .ne 5, 3) := by decide +kernel
theorem dX9_command_176 : decode cX9_command 176 = .ok (.iconst 0, 1) := by decide +kernel
theorem dX9_command_177 : decode cX9_command 177 = .ok (.ireturn, 1) := by decide +kernel
theorem dX9_command_178 : decode cX9_command 178 = .ok (.aload_n 0, 1) := by decide +kernel
theorem dX9_command_179 : decode cX9_command 179 = .ok (.getfield 20, 3) := by decide +kernel
theorem dX9_command_182 : decode cX9_command 182 = .ok (.iload 4, 2) := by decide +kernel
theorem dX9_command_184 : decode cX9_command 184 = .ok (.invokestatic 251, 3) := by decide +kernel
theorem dX9_command_187 : decode cX9_command 187 = .ok (.iconst 1, 1) := by decide +kernel
theorem dX9_command_188 : decode cX9_command 188 = .ok (.ireturn, 1) := by decide +kernel
theorem dX9_command_189 : decode cX9_command 189 = .ok (.iload 5, 2) := by decide +kernel
theorem dX9_command_191 : decode cX9_command 191 = .ok (.ifCond .ne 5, 3) := by decide +kernel
theorem dX9_command_194 : decode cX9_command 194 = .ok (.iconst 0, 1) := by decide +kernel
theorem dX9_command_195 : decode cX9_command 195 = .ok (.ireturn, 1) := by decide +kernel
theorem dX9_command_196 : decode cX9_command 196 = .ok (.aload_n 0, 1) := by decide +kernel
theorem dX9_command_197 : decode cX9_command 197 = .ok (.getfield 20, 3) := by decide +kernel
theorem dX9_command_200 : decode cX9_command 200 = .ok (.iload 4, 2) := by decide +kernel
theorem dX9_command_202 : decode cX9_command 202 = .ok (.invokestatic 245, 3) := by decide +kernel
theorem dX9_command_205 : decode cX9_command 205 = .ok (.iconst 1, 1) := by decide +kernel
theorem dX9_command_206 : decode cX9_command 206 = .ok (.ireturn, 1) := by decide +kernel
theorem dX9_command_207 : decode cX9_command 207 = .ok (.aload_n 0, 1) := by decide +kernel
theorem dX9_command_208 : decode cX9_command 208 = .ok (.getfield 20, 3) := by decide +kernel
theorem dX9_command_211 : decode cX9_command 211 = .ok (.iload 4, 2) := by decide +kernel
theorem dX9_command_213 : decode cX9_command 213 = .ok (.iload_n 3, 1) := by decide +kernel
theorem dX9_command_214 : decode cX9_command 214 = .ok (.invokestatic 210, 3) := by decide +kernel
theorem dX9_command_217 : decode cX9_command 217 = .ok (.ifCond .eq 16, 3) := by decide +kernel
theorem dX9_command_220 : decode cX9_command 220 = .ok (.aload_n 0, 1) := by decide +kernel
theorem dX9_command_221 : decode cX9_command 221 = .ok (.getfield 20, 3) := by decide +kernel
theorem dX9_command_224 : decode cX9_command 224 = .ok (.iload 4, 2) := by decide +kernel
theorem dX9_command_226 : decode cX9_command 226 = .ok (.iload_n 3, 1) := by decide +kernel
theorem dX9_command_227 : decode cX9_command 227 = .ok (.invokestatic 270, 3) := by decide +kernel
theorem dX9_command_230 : decode cX9_command 230 = .ok (.ifCond .ne 5, 3) := by decide +kernel
theorem dX9_command_233 : decode cX9_command 233 = .ok (.iconst 0, 1) := by decide +kernel
theorem dX9_command_234 : decode cX9_command 234 = .ok (.ireturn, 1) := by decide +kernel
theorem dX9_command_235 : decode cX9_command 235 = .ok (.aload_n 0, 1) := by decide +kernel
theorem dX9_command_236 : decode cX9_command 236 = .ok (.getfield 20, 3) := by decide +kernel
theorem dX9_command_239 : decode cX9_command 239 = .ok (.iload 4, 2) := by decide +kernel
theorem dX9_command_241 : decode cX9_command 241 = .ok (.iload_n 3, 1) := by decide +kernel
theorem dX9_command_242 : decode cX9_command 242 = .ok (.invokestatic 273, 3) := by decide +kernel
theorem dX9_command_245 : decode cX9_command 245 = .ok (.iconst 1, 1) := by decide +kernel
theorem dX9_command_246 : decode cX9_command 246 = .ok (.ireturn, 1) := by decide +kernel
theorem dX9_command_247 : decode cX9_command 247 = .ok (.iload_n 1, 1) := by decide +kernel
theorem dX9_command_248 : decode cX9_command 248 = .ok (.sipush 7000, 3) := by decide +kernel
theorem dX9_command_251 : decode cX9_command 251 = .ok (.if_icmp .eq 5, 3) := by decide +kernel
theorem dX9_command_254 : decode cX9_command 254 = .ok (.iconst 0, 1) := by decide +kernel
theorem dX9_command_255 : decode cX9_command 255 = .ok (.ireturn, 1) := by decide +kernel
theorem dX9_command_256 : decode cX9_command 256 = .ok (.aload_n 0, 1) := by decide +kernel
theorem dX9_command_257 : decode cX9_command 257 = .ok (.getfield 20, 3) := by decide +kernel
theorem dX9_command_260 : decode cX9_command 260 = .ok (.invokestatic 276, 3) := by decide +kernel
theorem dX9_command_263 : decode cX9_command 263 = .ok (.ifCond .lt 7, 3) := by decide +kernel
theorem dX9_command_266 : decode cX9_command 266 = .ok (.iconst 1, 1) := by decide +kernel
theorem dX9_command_267 : decode cX9_command 267 = .ok (.goto 4, 3) := by decide +kernel
theorem dX9_command_270 : decode cX9_command 270 = .ok (.iconst 0, 1) := by decide +kernel
theorem dX9_command_271 : decode cX9_command 271 = .ok (.ireturn, 1) := by decide +kernel
theorem dX9_command_272 : decode cX9_command 272 = .ok (.iload_n 3, 1) := by decide +kernel
theorem dX9_command_273 : decode cX9_command 273 = .ok (.ifCond .ne 20, 3) := by decide +kernel
theorem dX9_command_276 : decode cX9_command 276 = .ok (.aload_n 0, 1) := by decide +kernel
theorem dX9_command_277 : decode cX9_command 277 = .ok (.aload_n 0, 1) := by decide +kernel
theorem dX9_command_278 : decode cX9_command 278 = .ok (.getfield 20, 3) := by decide +kernel
theorem dX9_command_281 : decode cX9_command 281 = .ok (.invokevirtual 284, 3) := by decide +kernel
theorem dX9_command_284 : decode cX9_command 284 = .ok (.iload 4, 2) := by decide +kernel
theorem dX9_command_286 : decode cX9_command 286 = .ok (.if_icmp .gt 7, 3) := by decide +kernel
theorem dX9_command_289 : decode cX9_command 289 = .ok (.iconst 1, 1) := by decide +kernel
theorem dX9_command_290 : decode cX9_command 290 = .ok (.goto 4, 3) := by decide +kernel
theorem dX9_command_293 : decode cX9_command 293 = .ok (.iconst 0, 1) := by decide +kernel
theorem dX9_command_294 : decode cX9_command 294 = .ok (.ireturn, 1) := by decide +kernel
theorem dX9_command_295 : decode cX9_command 295 = .ok (.iload_n 3, 1) := by decide +kernel
theorem dX9_command_296 : decode cX9_command 296 = .ok (.ifCond .ne 19, 3) := by decide +kernel
theorem dX9_command_299 : decode cX9_command 299 = .ok (.aload_n 0, 1) := by decide +kernel
theorem dX9_command_300 : decode cX9_command 300 = .ok (.getfield 20, 3) := by decide +kernel
theorem dX9_command_303 : decode cX9_command 303 = .ok (.invokestatic 199, 3) := by decide +kernel
theorem dX9_command_306 : decode cX9_command 306 = .ok (.iload 4, 2) := by decide +kernel
theorem dX9_command_308 : decode cX9_command 308 = .ok (.if_icmp .ne 7, 3) := by decide +kernel
theorem dX9_command_311 : decode cX9_command 311 = .ok (.iconst 1, 1) := by decide +kernel
theorem dX9_command_312 : decode cX9_command 312 = .ok (.goto 4, 3) := by decide +kernel
theorem dX9_command_315 : decode cX9_command 315 = .ok (.iconst 0, 1) := by decide +kernel
theorem dX9_command_316 : decode cX9_command 316 = .ok (.ireturn, 1) := by decide +kernel
theorem dX9_command_317 : decode cX9_command 317 = .ok (.iconst 0, 1) := by decide +kernel
theorem dX9_command_318 : decode cX9_command 318 = .ok (.ireturn, 1) := by decide +kernel
theorem dX9_runScript_0 : decode cX9_runScript 0 = .ok (.aload_n 0, 1) := by decide +kernel
theorem dX9_runScript_1 : decode cX9_runScript 1 = .ok (.iload_n 1, 1) := by decide +kernel
theorem dX9_runScript_2 : decode cX9_runScript 2 = .ok (.i2l, 1) := by decide +kernel
theorem dX9_runScript_3 : decode cX9_runScript 3 = .ok (.lconst 1, 1) := by decide +kernel
theorem dX9_runScript_4 : decode cX9_runScript 4 = .ok (.ldc2_w 287, 3) := by decide +kernel
theorem dX9_runScript_7 : decode cX9_runScript 7 = .ok (.invokestatic 90, 3) := by decide +kernel
theorem dX9_runScript_10 : decode cX9_runScript 10 = .ok (.ifCond .eq 23, 3) := by decide +kernel
theorem dX9_runScript_13 : decode cX9_runScript 13 = .ok (.lload_n 2, 1) := by decide +kernel
theorem dX9_runScript_14 : decode cX9_runScript 14 = .ok (.lconst 0, 1) := by decide +kernel
theorem dX9_runScript_15 : decode cX9_runScript 15 = .ok (.iconst 4, 1) := by decide +kernel
theorem dX9_runScript_16 : decode cX9_runScript 16 = .ok (.iload_n 1, 1) := by decide +kernel
theorem dX9_runScript_17 : decode cX9_runScript 17 = .ok (.imul, 1) := by decide +kernel
theorem dX9_runScript_18 : decode cX9_runScript 18 = .ok (.invokestatic 289, 3) := by decide +kernel
theorem dX9_runScript_21 : decode cX9_runScript 21 = .ok (.lconst 1, 1) := by decide +kernel
theorem dX9_runScript_22 : decode cX9_runScript 22 = .ok (.lsub, 1) := by decide +kernel
theorem dX9_runScript_23 : decode cX9_runScript 23 = .ok (.invokestatic 90, 3) := by decide +kernel
theorem dX9_runScript_26 : decode cX9_runScript 26 = .ok (.ifCond .eq 7, 3) := by decide +kernel
theorem dX9_runScript_29 : decode cX9_runScript 29 = .ok (.iconst 0, 1) := by decide +kernel
theorem dX9_runScript_30 : decode cX9_runScript 30 = .ok (.goto 4, 3) := by decide +kernel
theorem dX9_runScript_33 : decode cX9_runScript 33 = .ok (.iconst 1, 1) := by decide +kernel
theorem dX9_runScript_34 : decode cX9_runScript 34 = .ok (.invokevirtual 162, 3) := by decide +kernel
theorem dX9_runScript_37 : decode cX9_runScript 37 = .ok (.ifCond .eq 5, 3) := by decide +kernel
theorem dX9_runScript_40 : decode cX9_runScript 40 = .ok (.iconst 0, 1) := by decide +kernel
theorem dX9_runScript_41 : decode cX9_runScript 41 = .ok (.ireturn, 1) := by decide +kernel
theorem dX9_runScript_42 : decode cX9_runScript 42 = .ok (.aload_n 0, 1) := by decide +kernel
theorem dX9_runScript_43 : decode cX9_runScript 43 = .ok (.invokevirtual 293, 3) := by decide +kernel
theorem dX9_runScript_46 : decode cX9_runScript 46 = .ok (.iconst 0, 1) := by decide +kernel
theorem dX9_runScript_47 : decode cX9_runScript 47 = .ok (.istore 4, 2) := by decide +kernel
theorem dX9_runScript_49 : decode cX9_runScript 49 = .ok (.iload 4, 2) := by decide +kernel
theorem dX9_runScript_51 : decode cX9_runScript 51 = .ok (.iload_n 1, 1) := by decide +kernel
theorem dX9_runScript_52 : decode cX9_runScript 52 = .ok (.if_icmp .ge 37, 3) := by decide +kernel
theorem dX9_runScript_55 : decode cX9_runScript 55 = .ok (.aload_n 0, 1) := by decide +kernel
theorem dX9_runScript_56 : decode cX9_runScript 56 = .ok (.lload_n 2, 1) := by decide +kernel
theorem dX9_runScript_57 : decode cX9_runScript 57 = .ok (.iconst 4, 1) := by decide +kernel
theorem dX9_runScript_58 : decode cX9_runScript 58 = .ok (.iload_n 1, 1) := by decide +kernel
theorem dX9_runScript_59 : decode cX9_runScript 59 = .ok (.iconst 1, 1) := by decide +kernel
theorem dX9_runScript_60 : decode cX9_runScript 60 = .ok (.isub, 1) := by decide +kernel
theorem dX9_runScript_61 : decode cX9_runScript 61 = .ok (.iload 4, 2) := by decide +kernel
theorem dX9_runScript_63 : decode cX9_runScript 63 = .ok (.isub, 1) := by decide +kernel
theorem dX9_runScript_64 : decode cX9_runScript 64 = .ok (.imul, 1) := by decide +kernel
theorem dX9_runScript_65 : decode cX9_runScript 65 = .ok (.invokestatic 289, 3) := by decide +kernel
theorem dX9_runScript_68 : decode cX9_runScript 68 = .ok (.ldiv, 1) := by decide +kernel
theorem dX9_runScript_69 : decode cX9_runScript 69 = .ok (.ldc2_w 296, 3) := by decide +kernel
theorem dX9_runScript_72 : decode cX9_runScript 72 = .ok (.lrem, 1) := by decide +kernel
theorem dX9_runScript_73 : decode cX9_runScript 73 = .ok (.l2i, 1) := by decide +kernel
theorem dX9_runScript_74 : decode cX9_runScript 74 = .ok (.invokevirtual 298, 3) := by decide +kernel
theorem dX9_runScript_77 : decode cX9_runScript 77 = .ok (.ifCond .ne 6, 3) := by decide +kernel
theorem dX9_runScript_80 : decode cX9_runScript 80 = .ok (.iload 4, 2) := by decide +kernel
theorem dX9_runScript_82 : decode cX9_runScript 82 = .ok (.ireturn, 1) := by decide +kernel
theorem dX9_runScript_83 : decode cX9_runScript 83 = .ok (.iinc 4 1, 3) := by decide +kernel
theorem dX9_runScript_86 : decode cX9_runScript 86 = .ok (.goto (-37), 3) := by decide +kernel
theorem dX9_runScript_89 : decode cX9_runScript 89 = .ok (.bipush (-9), 2) := by decide +kernel
theorem dX9_runScript_91 : decode cX9_runScript 91 = .ok (.ireturn, 1) := by decide +kernel
theorem dX9_simulate_0 : decode cX9_simulate 0 = .ok (.aload_n 0, 1) := by decide +kernel
theorem dX9_simulate_1 : decode cX9_simulate 1 = .ok (.iload_n 3, 1) := by decide +kernel
theorem dX9_simulate_2 : decode cX9_simulate 2 = .ok (.i2l, 1) := by decide +kernel
theorem dX9_simulate_3 : decode cX9_simulate 3 = .ok (.lconst 1, 1) := by decide +kernel
theorem dX9_simulate_4 : decode cX9_simulate 4 = .ok (.ldc2_w 282, 3) := by decide +kernel
theorem dX9_simulate_7 : decode cX9_simulate 7 = .ok (.invokestatic 90, 3) := by decide +kernel
theorem dX9_simulate_10 : decode cX9_simulate 10 = .ok (.ifCond .eq 7, 3) := by decide +kernel
theorem dX9_simulate_13 : decode cX9_simulate 13 = .ok (.iconst 0, 1) := by decide +kernel
theorem dX9_simulate_14 : decode cX9_simulate 14 = .ok (.goto 4, 3) := by decide +kernel
theorem dX9_simulate_17 : decode cX9_simulate 17 = .ok (.iconst 1, 1) := by decide +kernel
theorem dX9_simulate_18 : decode cX9_simulate 18 = .ok (.invokevirtual 162, 3) := by decide +kernel
theorem dX9_simulate_21 : decode cX9_simulate 21 = .ok (.ifCond .eq 5, 3) := by decide +kernel
theorem dX9_simulate_24 : decode cX9_simulate 24 = .ok (.iconst 0, 1) := by decide +kernel
theorem dX9_simulate_25 : decode cX9_simulate 25 = .ok (.ireturn, 1) := by decide +kernel
theorem dX9_simulate_26 : decode cX9_simulate 26 = .ok (.aload_n 0, 1) := by decide +kernel
theorem dX9_simulate_27 : decode cX9_simulate 27 = .ok (.invokevirtual 293, 3) := by decide +kernel
theorem dX9_simulate_30 : decode cX9_simulate 30 = .ok (.lload_n 1, 1) := by decide +kernel
theorem dX9_simulate_31 : decode cX9_simulate 31 = .ok (.lstore 4, 2) := by decide +kernel
theorem dX9_simulate_33 : decode cX9_simulate 33 = .ok (.iconst 0, 1) := by decide +kernel
theorem dX9_simulate_34 : decode cX9_simulate 34 = .ok (.istore 6, 2) := by decide +kernel
theorem dX9_simulate_36 : decode cX9_simulate 36 = .ok (.iconst 0, 1) := by decide +kernel
theorem dX9_simulate_37 : decode cX9_simulate 37 = .ok (.istore 7, 2) := by decide +kernel
theorem dX9_simulate_39 : decode cX9_simulate 39 = .ok (.iload 7, 2) := by decide +kernel
theorem dX9_simulate_41 : decode cX9_simulate 41 = .ok (.iload_n 3, 1) := by decide +kernel
theorem dX9_simulate_42 : decode cX9_simulate 42 = .ok (.if_icmp .ge 187, 3) := by decide +kernel
theorem dX9_simulate_45 : decode cX9_simulate 45 = .ok (.lload 4, 2) := by decide +kernel
theorem dX9_simulate_47 : decode cX9_simulate 47 = .ok (.ldc2_w 301, 3) := by decide +kernel
theorem dX9_simulate_50 : decode cX9_simulate 50 = .ok (.lmul, 1) := by decide +kernel
theorem dX9_simulate_51 : decode cX9_simulate 51 = .ok (.ldc2_w 303, 3) := by decide +kernel
theorem dX9_simulate_54 : decode cX9_simulate 54 = .ok (.ladd, 1) := by decide +kernel
theorem dX9_simulate_55 : decode cX9_simulate 55 = .ok (.lstore 4, 2) := by decide +kernel
theorem dX9_simulate_57 : decode cX9_simulate 57 = .ok (.lload 4, 2) := by decide +kernel
theorem dX9_simulate_59 : decode cX9_simulate 59 = .ok (.bipush 33, 2) := by decide +kernel
theorem dX9_simulate_61 : decode cX9_simulate 61 = .ok (.lushr, 1) := by decide +kernel
theorem dX9_simulate_62 : decode cX9_simulate 62 = .ok (.l2i, 1) := by decide +kernel
theorem dX9_simulate_63 : decode cX9_simulate 63 = .ok (.istore 8, 2) := by decide +kernel
theorem dX9_simulate_65 : decode cX9_simulate 65 = .ok (.iload 8, 2) := by decide +kernel
theorem dX9_simulate_67 : decode cX9_simulate 67 = .ok (.iconst 4, 1) := by decide +kernel
theorem dX9_simulate_68 : decode cX9_simulate 68 = .ok (.idiv, 1) := by decide +kernel
theorem dX9_simulate_69 : decode cX9_simulate 69 = .ok (.istore 9, 2) := by decide +kernel
theorem dX9_simulate_71 : decode cX9_simulate 71 = .ok (.iload 8, 2) := by decide +kernel
theorem dX9_simulate_73 : decode cX9_simulate 73 = .ok (.iconst 4, 1) := by decide +kernel
theorem dX9_simulate_74 : decode cX9_simulate 74 = .ok (.irem, 1) := by decide +kernel
theorem dX9_simulate_75 : decode cX9_simulate 75 = .ok (.tableswitch 73 0 2 #[25, 43, 57], 25) := by decide +kernel
theorem dX9_simulate_100 : decode cX9_simulate 100 = .ok (.aload_n 0, 1) := by decide +kernel
theorem dX9_simulate_101 : decode cX9_simulate 101 = .ok (.getfield 20, 3) := by decide +kernel
theorem dX9_simulate_104 : decode cX9_simulate 104 = .ok (.iconst 2, 1) := by decide +kernel
theorem dX9_simulate_105 : decode cX9_simulate 105 = .ok (.bipush 10, 2) := by decide +kernel
theorem dX9_simulate_107 : decode cX9_simulate 107 = .ok (.iload 9, 2) := by decide +kernel
theorem dX9_simulate_109 : decode cX9_simulate 109 = .ok (.bipush 51, 2) := by decide +kernel
theorem dX9_simulate_111 : decode cX9_simulate 111 = .ok (.irem, 1) := by decide +kernel
theorem dX9_simulate_112 : decode cX9_simulate 112 = .ok (.iadd, 1) := by decide +kernel
theorem dX9_simulate_113 : decode cX9_simulate 113 = .ok (.i2l, 1) := by decide +kernel
theorem dX9_simulate_114 : decode cX9_simulate 114 = .ok (.lastore, 1) := by decide +kernel
theorem dX9_simulate_115 : decode cX9_simulate 115 = .ok (.goto 95, 3) := by decide +kernel
theorem dX9_simulate_118 : decode cX9_simulate 118 = .ok (.aload_n 0, 1) := by decide +kernel
theorem dX9_simulate_119 : decode cX9_simulate 119 = .ok (.getfield 20, 3) := by decide +kernel
theorem dX9_simulate_122 : decode cX9_simulate 122 = .ok (.iconst 4, 1) := by decide +kernel
theorem dX9_simulate_123 : decode cX9_simulate 123 = .ok (.iload 9, 2) := by decide +kernel
theorem dX9_simulate_125 : decode cX9_simulate 125 = .ok (.iconst 2, 1) := by decide +kernel
theorem dX9_simulate_126 : decode cX9_simulate 126 = .ok (.irem, 1) := by decide +kernel
theorem dX9_simulate_127 : decode cX9_simulate 127 = .ok (.i2l, 1) := by decide +kernel
theorem dX9_simulate_128 : decode cX9_simulate 128 = .ok (.lastore, 1) := by decide +kernel
theorem dX9_simulate_129 : decode cX9_simulate 129 = .ok (.goto 81, 3) := by decide +kernel
theorem dX9_simulate_132 : decode cX9_simulate 132 = .ok (.aload_n 0, 1) := by decide +kernel
theorem dX9_simulate_133 : decode cX9_simulate 133 = .ok (.getfield 20, 3) := by decide +kernel
theorem dX9_simulate_136 : decode cX9_simulate 136 = .ok (.iconst 3, 1) := by decide +kernel
theorem dX9_simulate_137 : decode cX9_simulate 137 = .ok (.iconst 1, 1) := by decide +kernel
theorem dX9_simulate_138 : decode cX9_simulate 138 = .ok (.iload 9, 2) := by decide +kernel
theorem dX9_simulate_140 : decode cX9_simulate 140 = .ok (.iconst 3, 1) := by decide +kernel
theorem dX9_simulate_141 : decode cX9_simulate 141 = .ok (.irem, 1) := by decide +kernel
theorem dX9_simulate_142 : decode cX9_simulate 142 = .ok (.iadd, 1) := by decide +kernel
theorem dX9_simulate_143 : decode cX9_simulate 143 = .ok (.i2l, 1) := by decide +kernel
theorem dX9_simulate_144 : decode cX9_simulate 144 = .ok (.lastore, 1) := by decide +kernel
theorem dX9_simulate_145 : decode cX9_simulate 145 = .ok (.goto 65, 3) := by decide +kernel
theorem dX9_simulate_148 : decode cX9_simulate 148 = .ok (.aload_n 0, 1) := by decide +kernel
theorem dX9_simulate_149 : decode cX9_simulate 149 = .ok (.getfield 20, 3) := by decide +kernel
theorem dX9_simulate_152 : decode cX9_simulate 152 = .ok (.invokestatic 86, 3) := by decide +kernel
theorem dX9_simulate_155 : decode cX9_simulate 155 = .ok (.ifCond .le 55, 3) := by decide +kernel
theorem dX9_simulate_158 : decode cX9_simulate 158 = .ok (.iload 9, 2) := by decide +kernel
theorem dX9_simulate_160 : decode cX9_simulate 160 = .ok (.aload_n 0, 1) := by decide +kernel
theorem dX9_simulate_161 : decode cX9_simulate 161 = .ok (.getfield 20, 3) := by decide +kernel
theorem dX9_simulate_164 : decode cX9_simulate 164 = .ok (.invokestatic 86, 3) := by decide +kernel
theorem dX9_simulate_167 : decode cX9_simulate 167 = .ok (.irem, 1) := by decide +kernel
theorem dX9_simulate_168 : decode cX9_simulate 168 = .ok (.istore 10, 2) := by decide +kernel
theorem dX9_simulate_170 : decode cX9_simulate 170 = .ok (.aload_n 0, 1) := by decide +kernel
theorem dX9_simulate_171 : decode cX9_simulate 171 = .ok (.getfield 20, 3) := by decide +kernel
theorem dX9_simulate_174 : decode cX9_simulate 174 = .ok (.iload 10, 2) := by decide +kernel
theorem dX9_simulate_176 : decode cX9_simulate 176 = .ok (.iconst 1, 1) := by decide +kernel
theorem dX9_simulate_177 : decode cX9_simulate 177 = .ok (.invokestatic 82, 3) := by decide +kernel
theorem dX9_simulate_180 : decode cX9_simulate 180 = .ok (.laload, 1) := by decide +kernel
theorem dX9_simulate_181 : decode cX9_simulate 181 = .ok (.lconst 1, 1) := by decide +kernel
theorem dX9_simulate_182 : decode cX9_simulate 182 = .ok (.lcmp, 1) := by decide +kernel
theorem dX9_simulate_183 : decode cX9_simulate 183 = .ok (.ifCond .ne 15, 3) := by decide +kernel
theorem dX9_simulate_186 : decode cX9_simulate 186 = .ok (.aload_n 0, 1) := by decide +kernel
theorem dX9_simulate_187 : decode cX9_simulate 187 = .ok (.getfield 20, 3) := by decide +kernel
theorem dX9_simulate_190 : decode cX9_simulate 190 = .ok (.iload 10, 2) := by decide +kernel
theorem dX9_simulate_192 : decode cX9_simulate 192 = .ok (.invokestatic 251, 3) := by decide +kernel
theorem dX9_simulate_195 : decode cX9_simulate 195 = .ok (.goto 15, 3) := by decide +kernel
theorem dX9_simulate_198 : decode cX9_simulate 198 = .ok (.aload_n 0, 1) := by decide +kernel
theorem dX9_simulate_199 : decode cX9_simulate 199 = .ok (.getfield 20, 3) := by decide +kernel
theorem dX9_simulate_202 : decode cX9_simulate 202 = .ok (.iload 10, 2) := by decide +kernel
theorem dX9_simulate_204 : decode cX9_simulate 204 = .ok (.iconst 1, 1) := by decide +kernel
theorem dX9_simulate_205 : decode cX9_simulate 205 = .ok (.invokestatic 82, 3) := by decide +kernel
theorem dX9_simulate_208 : decode cX9_simulate 208 = .ok (.lconst 1, 1) := by decide +kernel
theorem dX9_simulate_209 : decode cX9_simulate 209 = .ok (.lastore, 1) := by decide +kernel
theorem dX9_simulate_210 : decode cX9_simulate 210 = .ok (.iload 6, 2) := by decide +kernel
theorem dX9_simulate_212 : decode cX9_simulate 212 = .ok (.aload_n 0, 1) := by decide +kernel
theorem dX9_simulate_213 : decode cX9_simulate 213 = .ok (.aload_n 0, 1) := by decide +kernel
theorem dX9_simulate_214 : decode cX9_simulate 214 = .ok (.getfield 20, 3) := by decide +kernel
theorem dX9_simulate_217 : decode cX9_simulate 217 = .ok (.invokevirtual 284, 3) := by decide +kernel
theorem dX9_simulate_220 : decode cX9_simulate 220 = .ok (.iadd, 1) := by decide +kernel
theorem dX9_simulate_221 : decode cX9_simulate 221 = .ok (.istore 6, 2) := by decide +kernel
theorem dX9_simulate_223 : decode cX9_simulate 223 = .ok (.iinc 7 1, 3) := by decide +kernel
theorem dX9_simulate_226 : decode cX9_simulate 226 = .ok (.goto (-187), 3) := by decide +kernel
theorem dX9_simulate_229 : decode cX9_simulate 229 = .ok (.iload 6, 2) := by decide +kernel
theorem dX9_simulate_231 : decode cX9_simulate 231 = .ok (.ireturn, 1) := by decide +kernel
theorem dX9_save_0 : decode cX9_save 0 = .ok (.aload_n 0, 1) := by decide +kernel
theorem dX9_save_1 : decode cX9_save 1 = .ok (.iload_n 1, 1) := by decide +kernel
theorem dX9_save_2 : decode cX9_save 2 = .ok (.i2l, 1) := by decide +kernel
theorem dX9_save_3 : decode cX9_save 3 = .ok (.lconst 0, 1) := by decide +kernel
theorem dX9_save_4 : decode cX9_save 4 = .ok (.lconst 1, 1) := by decide +kernel
theorem dX9_save_5 : decode cX9_save 5 = .ok (.invokestatic 90, 3) := by decide +kernel
theorem dX9_save_8 : decode cX9_save 8 = .ok (.ifCond .eq 7, 3) := by decide +kernel
theorem dX9_save_11 : decode cX9_save 11 = .ok (.iconst 0, 1) := by decide +kernel
theorem dX9_save_12 : decode cX9_save 12 = .ok (.goto 4, 3) := by decide +kernel
theorem dX9_save_15 : decode cX9_save 15 = .ok (.iconst 1, 1) := by decide +kernel
theorem dX9_save_16 : decode cX9_save 16 = .ok (.invokevirtual 162, 3) := by decide +kernel
theorem dX9_save_19 : decode cX9_save 19 = .ok (.ifCond .eq 5, 3) := by decide +kernel
theorem dX9_save_22 : decode cX9_save 22 = .ok (.iconst 0, 1) := by decide +kernel
theorem dX9_save_23 : decode cX9_save 23 = .ok (.ireturn, 1) := by decide +kernel
theorem dX9_save_24 : decode cX9_save 24 = .ok (.aload_n 0, 1) := by decide +kernel
theorem dX9_save_25 : decode cX9_save 25 = .ok (.getfield 29, 3) := by decide +kernel
theorem dX9_save_28 : decode cX9_save 28 = .ok (.iload_n 1, 1) := by decide +kernel
theorem dX9_save_29 : decode cX9_save 29 = .ok (.iconst 1, 1) := by decide +kernel
theorem dX9_save_30 : decode cX9_save 30 = .ok (.bastore, 1) := by decide +kernel
theorem dX9_save_31 : decode cX9_save 31 = .ok (.aload_n 0, 1) := by decide +kernel
theorem dX9_save_32 : decode cX9_save 32 = .ok (.getfield 17, 3) := by decide +kernel
theorem dX9_save_35 : decode cX9_save 35 = .ok (.iconst 0, 1) := by decide +kernel
theorem dX9_save_36 : decode cX9_save 36 = .ok (.aload_n 0, 1) := by decide +kernel
theorem dX9_save_37 : decode cX9_save 37 = .ok (.getfield 26, 3) := by decide +kernel
theorem dX9_save_40 : decode cX9_save 40 = .ok (.sipush 253, 3) := by decide +kernel
theorem dX9_save_43 : decode cX9_save 43 = .ok (.iload_n 1, 1) := by decide +kernel
theorem dX9_save_44 : decode cX9_save 44 = .ok (.imul, 1) := by decide +kernel
theorem dX9_save_45 : decode cX9_save 45 = .ok (.sipush 253, 3) := by decide +kernel
theorem dX9_save_48 : decode cX9_save 48 = .ok (.invokestatic 74, 3) := by decide +kernel
theorem dX9_save_51 : decode cX9_save 51 = .ok (.aload_n 0, 1) := by decide +kernel
theorem dX9_save_52 : decode cX9_save 52 = .ok (.getfield 17, 3) := by decide +kernel
theorem dX9_save_55 : decode cX9_save 55 = .ok (.invokestatic 86, 3) := by decide +kernel
theorem dX9_save_58 : decode cX9_save 58 = .ok (.ireturn, 1) := by decide +kernel
theorem dX9_restore_0 : decode cX9_restore 0 = .ok (.aload_n 0, 1) := by decide +kernel
theorem dX9_restore_1 : decode cX9_restore 1 = .ok (.iload_n 1, 1) := by decide +kernel
theorem dX9_restore_2 : decode cX9_restore 2 = .ok (.i2l, 1) := by decide +kernel
theorem dX9_restore_3 : decode cX9_restore 3 = .ok (.lconst 0, 1) := by decide +kernel
theorem dX9_restore_4 : decode cX9_restore 4 = .ok (.lconst 1, 1) := by decide +kernel
theorem dX9_restore_5 : decode cX9_restore 5 = .ok (.invokestatic 90, 3) := by decide +kernel
theorem dX9_restore_8 : decode cX9_restore 8 = .ok (.ifCond .ne 7, 3) := by decide +kernel
theorem dX9_restore_11 : decode cX9_restore 11 = .ok (.iconst 1, 1) := by decide +kernel
theorem dX9_restore_12 : decode cX9_restore 12 = .ok (.goto 17, 3) := by decide +kernel
theorem dX9_restore_15 : decode cX9_restore 15 = .ok (.aload_n 0, 1) := by decide +kernel
theorem dX9_restore_16 : decode cX9_restore 16 = .ok (.getfield 29, 3) := by decide +kernel
theorem dX9_restore_19 : decode cX9_restore 19 = .ok (.iload_n 1, 1) := by decide +kernel
theorem dX9_restore_20 : decode cX9_restore 20 = .ok (.baload, 1) := by decide +kernel
theorem dX9_restore_21 : decode cX9_restore 21 = .ok (.ifCond .ne 7, 3) := by decide +kernel
theorem dX9_restore_24 : decode cX9_restore 24 = .ok (.iconst 2, 1) := by decide +kernel
theorem dX9_restore_25 : decode cX9_restore 25 = .ok (.goto 4, 3) := by decide +kernel
theorem dX9_restore_28 : decode cX9_restore 28 = .ok (.iconst 0, 1) := by decide +kernel
theorem dX9_restore_29 : decode cX9_restore 29 = .ok (.invokevirtual 162, 3) := by decide +kernel
theorem dX9_restore_32 : decode cX9_restore 32 = .ok (.ifCond .eq 5, 3) := by decide +kernel
theorem dX9_restore_35 : decode cX9_restore 35 = .ok (.iconst 0, 1) := by decide +kernel
theorem dX9_restore_36 : decode cX9_restore 36 = .ok (.ireturn, 1) := by decide +kernel
theorem dX9_restore_37 : decode cX9_restore 37 = .ok (.aload_n 0, 1) := by decide +kernel
theorem dX9_restore_38 : decode cX9_restore 38 = .ok (.getfield 26, 3) := by decide +kernel
theorem dX9_restore_41 : decode cX9_restore 41 = .ok (.sipush 253, 3) := by decide +kernel
theorem dX9_restore_44 : decode cX9_restore 44 = .ok (.iload_n 1, 1) := by decide +kernel
theorem dX9_restore_45 : decode cX9_restore 45 = .ok (.imul, 1) := by decide +kernel
theorem dX9_restore_46 : decode cX9_restore 46 = .ok (.aload_n 0, 1) := by decide +kernel
theorem dX9_restore_47 : decode cX9_restore 47 = .ok (.getfield 17, 3) := by decide +kernel
theorem dX9_restore_50 : decode cX9_restore 50 = .ok (.iconst 0, 1) := by decide +kernel
theorem dX9_restore_51 : decode cX9_restore 51 = .ok (.sipush 253, 3) := by decide +kernel
theorem dX9_restore_54 : decode cX9_restore 54 = .ok (.invokestatic 74, 3) := by decide +kernel
theorem dX9_restore_57 : decode cX9_restore 57 = .ok (.aload_n 0, 1) := by decide +kernel
theorem dX9_restore_58 : decode cX9_restore 58 = .ok (.iconst 0, 1) := by decide +kernel
theorem dX9_restore_59 : decode cX9_restore 59 = .ok (.putfield 71, 3) := by decide +kernel
theorem dX9_restore_62 : decode cX9_restore 62 = .ok (.aload_n 0, 1) := by decide +kernel
theorem dX9_restore_63 : decode cX9_restore 63 = .ok (.getfield 17, 3) := by decide +kernel
theorem dX9_restore_66 : decode cX9_restore 66 = .ok (.invokestatic 86, 3) := by decide +kernel
theorem dX9_restore_69 : decode cX9_restore 69 = .ok (.ireturn, 1) := by decide +kernel
