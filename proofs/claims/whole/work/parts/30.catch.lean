theorem dL_append_0 : decode cL_append 0 = .ok (.aload_n 2, 1) := by decide +kernel
theorem dL_append_1 : decode cL_append 1 = .ok (.iconst 0, 1) := by decide +kernel
theorem dL_append_2 : decode cL_append 2 = .ok (.aload_n 0, 1) := by decide +kernel
theorem dL_append_3 : decode cL_append 3 = .ok (.iload_n 1, 1) := by decide +kernel
theorem dL_append_4 : decode cL_append 4 = .ok (.invokevirtual 7, 3) := by decide +kernel
theorem dL_append_7 : decode cL_append 7 = .ok (.i2l, 1) := by decide +kernel
theorem dL_append_8 : decode cL_append 8 = .ok (.lastore, 1) := by decide +kernel
theorem dL_append_9 : decode cL_append 9 = .ok (.goto 9, 3) := by decide +kernel
theorem dL_append_12 : decode cL_append 12 = .ok (.astore_n 3, 1) := by decide +kernel
theorem dL_append_13 : decode cL_append 13 = .ok (.iconst 1, 1) := by decide +kernel
theorem dL_append_14 : decode cL_append 14 = .ok (.ireturn, 1) := by decide +kernel
theorem dL_append_15 : decode cL_append 15 = .ok (.astore_n 3, 1) := by decide +kernel
theorem dL_append_16 : decode cL_append 16 = .ok (.iconst 2, 1) := by decide +kernel
theorem dL_append_17 : decode cL_append 17 = .ok (.ireturn, 1) := by decide +kernel
theorem dL_append_18 : decode cL_append 18 = .ok (.iconst 0, 1) := by decide +kernel
theorem dL_append_19 : decode cL_append 19 = .ok (.ireturn, 1) := by decide +kernel
theorem dL_load_0 : decode cL_load 0 = .ok (.aload_n 1, 1) := by decide +kernel
theorem dL_load_1 : decode cL_load 1 = .ok (.iconst 0, 1) := by decide +kernel
theorem dL_load_2 : decode cL_load 2 = .ok (.aload_n 0, 1) := by decide +kernel
theorem dL_load_3 : decode cL_load 3 = .ok (.invokevirtual 17, 3) := by decide +kernel
theorem dL_load_6 : decode cL_load 6 = .ok (.i2l, 1) := by decide +kernel
theorem dL_load_7 : decode cL_load 7 = .ok (.lastore, 1) := by decide +kernel
theorem dL_load_8 : decode cL_load 8 = .ok (.goto 6, 3) := by decide +kernel
theorem dL_load_11 : decode cL_load 11 = .ok (.astore_n 2, 1) := by decide +kernel
theorem dL_load_12 : decode cL_load 12 = .ok (.iconst 1, 1) := by decide +kernel
theorem dL_load_13 : decode cL_load 13 = .ok (.ireturn, 1) := by decide +kernel
theorem dL_load_14 : decode cL_load 14 = .ok (.iconst 0, 1) := by decide +kernel
theorem dL_load_15 : decode cL_load 15 = .ok (.ireturn, 1) := by decide +kernel
theorem dL_about_0 : decode cL_about 0 = .ok (.aload_n 2, 1) := by decide +kernel
theorem dL_about_1 : decode cL_about 1 = .ok (.iconst 0, 1) := by decide +kernel
theorem dL_about_2 : decode cL_about 2 = .ok (.aload_n 0, 1) := by decide +kernel
theorem dL_about_3 : decode cL_about 3 = .ok (.iload_n 1, 1) := by decide +kernel
theorem dL_about_4 : decode cL_about 4 = .ok (.invokevirtual 21, 3) := by decide +kernel
theorem dL_about_7 : decode cL_about 7 = .ok (.i2l, 1) := by decide +kernel
theorem dL_about_8 : decode cL_about 8 = .ok (.lastore, 1) := by decide +kernel
theorem dL_about_9 : decode cL_about 9 = .ok (.goto 6, 3) := by decide +kernel
theorem dL_about_12 : decode cL_about 12 = .ok (.astore_n 3, 1) := by decide +kernel
theorem dL_about_13 : decode cL_about 13 = .ok (.iconst 1, 1) := by decide +kernel
theorem dL_about_14 : decode cL_about 14 = .ok (.ireturn, 1) := by decide +kernel
theorem dL_about_15 : decode cL_about 15 = .ok (.iconst 0, 1) := by decide +kernel
theorem dL_about_16 : decode cL_about 16 = .ok (.ireturn, 1) := by decide +kernel
theorem dL_word_0 : decode cL_word 0 = .ok (.aload_n 3, 1) := by decide +kernel
theorem dL_word_1 : decode cL_word 1 = .ok (.iconst 0, 1) := by decide +kernel
theorem dL_word_2 : decode cL_word 2 = .ok (.aload_n 0, 1) := by decide +kernel
theorem dL_word_3 : decode cL_word 3 = .ok (.iload_n 1, 1) := by decide +kernel
theorem dL_word_4 : decode cL_word 4 = .ok (.iload_n 2, 1) := by decide +kernel
theorem dL_word_5 : decode cL_word 5 = .ok (.invokevirtual 24, 3) := by decide +kernel
theorem dL_word_8 : decode cL_word 8 = .ok (.i2l, 1) := by decide +kernel
theorem dL_word_9 : decode cL_word 9 = .ok (.lastore, 1) := by decide +kernel
theorem dL_word_10 : decode cL_word 10 = .ok (.goto 11, 3) := by decide +kernel
theorem dL_word_13 : decode cL_word 13 = .ok (.astore 4, 2) := by decide +kernel
theorem dL_word_15 : decode cL_word 15 = .ok (.iconst 1, 1) := by decide +kernel
theorem dL_word_16 : decode cL_word 16 = .ok (.ireturn, 1) := by decide +kernel
theorem dL_word_17 : decode cL_word 17 = .ok (.astore 4, 2) := by decide +kernel
theorem dL_word_19 : decode cL_word 19 = .ok (.iconst 2, 1) := by decide +kernel
theorem dL_word_20 : decode cL_word 20 = .ok (.ireturn, 1) := by decide +kernel
theorem dL_word_21 : decode cL_word 21 = .ok (.iconst 0, 1) := by decide +kernel
theorem dL_word_22 : decode cL_word 22 = .ok (.ireturn, 1) := by decide +kernel
theorem dL_part_0 : decode cL_part 0 = .ok (.aload 4, 2) := by decide +kernel
theorem dL_part_2 : decode cL_part 2 = .ok (.iconst 0, 1) := by decide +kernel
theorem dL_part_3 : decode cL_part 3 = .ok (.aload_n 0, 1) := by decide +kernel
theorem dL_part_4 : decode cL_part 4 = .ok (.iload_n 1, 1) := by decide +kernel
theorem dL_part_5 : decode cL_part 5 = .ok (.iload_n 2, 1) := by decide +kernel
theorem dL_part_6 : decode cL_part 6 = .ok (.iload_n 3, 1) := by decide +kernel
theorem dL_part_7 : decode cL_part 7 = .ok (.invokevirtual 30, 3) := by decide +kernel
theorem dL_part_10 : decode cL_part 10 = .ok (.i2l, 1) := by decide +kernel
theorem dL_part_11 : decode cL_part 11 = .ok (.lastore, 1) := by decide +kernel
theorem dL_part_12 : decode cL_part 12 = .ok (.goto 11, 3) := by decide +kernel
theorem dL_part_15 : decode cL_part 15 = .ok (.astore 5, 2) := by decide +kernel
theorem dL_part_17 : decode cL_part 17 = .ok (.iconst 1, 1) := by decide +kernel
theorem dL_part_18 : decode cL_part 18 = .ok (.ireturn, 1) := by decide +kernel
theorem dL_part_19 : decode cL_part 19 = .ok (.astore 5, 2) := by decide +kernel
theorem dL_part_21 : decode cL_part 21 = .ok (.iconst 2, 1) := by decide +kernel
theorem dL_part_22 : decode cL_part 22 = .ok (.ireturn, 1) := by decide +kernel
theorem dL_part_23 : decode cL_part 23 = .ok (.iconst 0, 1) := by decide +kernel
theorem dL_part_24 : decode cL_part 24 = .ok (.ireturn, 1) := by decide +kernel
theorem dL_letter_0 : decode cL_letter 0 = .ok (.aload 5, 2) := by decide +kernel
theorem dL_letter_2 : decode cL_letter 2 = .ok (.iconst 0, 1) := by decide +kernel
theorem dL_letter_3 : decode cL_letter 3 = .ok (.aload_n 0, 1) := by decide +kernel
theorem dL_letter_4 : decode cL_letter 4 = .ok (.iload_n 1, 1) := by decide +kernel
theorem dL_letter_5 : decode cL_letter 5 = .ok (.iload_n 2, 1) := by decide +kernel
theorem dL_letter_6 : decode cL_letter 6 = .ok (.iload_n 3, 1) := by decide +kernel
theorem dL_letter_7 : decode cL_letter 7 = .ok (.iload 4, 2) := by decide +kernel
theorem dL_letter_9 : decode cL_letter 9 = .ok (.invokevirtual 34, 3) := by decide +kernel
theorem dL_letter_12 : decode cL_letter 12 = .ok (.i2l, 1) := by decide +kernel
theorem dL_letter_13 : decode cL_letter 13 = .ok (.lastore, 1) := by decide +kernel
theorem dL_letter_14 : decode cL_letter 14 = .ok (.goto 11, 3) := by decide +kernel
theorem dL_letter_17 : decode cL_letter 17 = .ok (.astore 6, 2) := by decide +kernel
theorem dL_letter_19 : decode cL_letter 19 = .ok (.iconst 1, 1) := by decide +kernel
theorem dL_letter_20 : decode cL_letter 20 = .ok (.ireturn, 1) := by decide +kernel
theorem dL_letter_21 : decode cL_letter 21 = .ok (.astore 6, 2) := by decide +kernel
theorem dL_letter_23 : decode cL_letter 23 = .ok (.iconst 2, 1) := by decide +kernel
theorem dL_letter_24 : decode cL_letter 24 = .ok (.ireturn, 1) := by decide +kernel
theorem dL_letter_25 : decode cL_letter 25 = .ok (.iconst 0, 1) := by decide +kernel
theorem dL_letter_26 : decode cL_letter 26 = .ok (.ireturn, 1) := by decide +kernel
theorem dL_entry_0 : decode cL_entry 0 = .ok (.aload 4, 2) := by decide +kernel
theorem dL_entry_2 : decode cL_entry 2 = .ok (.iconst 0, 1) := by decide +kernel
theorem dL_entry_3 : decode cL_entry 3 = .ok (.aload_n 0, 1) := by decide +kernel
theorem dL_entry_4 : decode cL_entry 4 = .ok (.iload_n 1, 1) := by decide +kernel
theorem dL_entry_5 : decode cL_entry 5 = .ok (.iload_n 2, 1) := by decide +kernel
theorem dL_entry_6 : decode cL_entry 6 = .ok (.iload_n 3, 1) := by decide +kernel
theorem dL_entry_7 : decode cL_entry 7 = .ok (.invokevirtual 38, 3) := by decide +kernel
theorem dL_entry_10 : decode cL_entry 10 = .ok (.i2l, 1) := by decide +kernel
theorem dL_entry_11 : decode cL_entry 11 = .ok (.lastore, 1) := by decide +kernel
theorem dL_entry_12 : decode cL_entry 12 = .ok (.goto 11, 3) := by decide +kernel
theorem dL_entry_15 : decode cL_entry 15 = .ok (.astore 5, 2) := by decide +kernel
theorem dL_entry_17 : decode cL_entry 17 = .ok (.iconst 1, 1) := by decide +kernel
theorem dL_entry_18 : decode cL_entry 18 = .ok (.ireturn, 1) := by decide +kernel
theorem dL_entry_19 : decode cL_entry 19 = .ok (.astore 5, 2) := by decide +kernel
theorem dL_entry_21 : decode cL_entry 21 = .ok (.iconst 2, 1) := by decide +kernel
theorem dL_entry_22 : decode cL_entry 22 = .ok (.ireturn, 1) := by decide +kernel
theorem dL_entry_23 : decode cL_entry 23 = .ok (.iconst 0, 1) := by decide +kernel
theorem dL_entry_24 : decode cL_entry 24 = .ok (.ireturn, 1) := by decide +kernel
theorem dL_row_0 : decode cL_row 0 = .ok (.aload_n 3, 1) := by decide +kernel
theorem dL_row_1 : decode cL_row 1 = .ok (.iconst 0, 1) := by decide +kernel
theorem dL_row_2 : decode cL_row 2 = .ok (.aload_n 0, 1) := by decide +kernel
theorem dL_row_3 : decode cL_row 3 = .ok (.iload_n 1, 1) := by decide +kernel
theorem dL_row_4 : decode cL_row 4 = .ok (.iload_n 2, 1) := by decide +kernel
theorem dL_row_5 : decode cL_row 5 = .ok (.invokevirtual 42, 3) := by decide +kernel
theorem dL_row_8 : decode cL_row 8 = .ok (.i2l, 1) := by decide +kernel
theorem dL_row_9 : decode cL_row 9 = .ok (.lastore, 1) := by decide +kernel
theorem dL_row_10 : decode cL_row 10 = .ok (.goto 11, 3) := by decide +kernel
theorem dL_row_13 : decode cL_row 13 = .ok (.astore 4, 2) := by decide +kernel
theorem dL_row_15 : decode cL_row 15 = .ok (.iconst 1, 1) := by decide +kernel
theorem dL_row_16 : decode cL_row 16 = .ok (.ireturn, 1) := by decide +kernel
theorem dL_row_17 : decode cL_row 17 = .ok (.astore 4, 2) := by decide +kernel
theorem dL_row_19 : decode cL_row 19 = .ok (.iconst 2, 1) := by decide +kernel
theorem dL_row_20 : decode cL_row 20 = .ok (.ireturn, 1) := by decide +kernel
theorem dL_row_21 : decode cL_row 21 = .ok (.iconst 0, 1) := by decide +kernel
theorem dL_row_22 : decode cL_row 22 = .ok (.ireturn, 1) := by decide +kernel
theorem dL_at_0 : decode cL_at 0 = .ok (.aload_n 3, 1) := by decide +kernel
theorem dL_at_1 : decode cL_at 1 = .ok (.iconst 0, 1) := by decide +kernel
theorem dL_at_2 : decode cL_at 2 = .ok (.aload_n 0, 1) := by decide +kernel
theorem dL_at_3 : decode cL_at 3 = .ok (.iload_n 1, 1) := by decide +kernel
theorem dL_at_4 : decode cL_at 4 = .ok (.iload_n 2, 1) := by decide +kernel
theorem dL_at_5 : decode cL_at 5 = .ok (.invokevirtual 45, 3) := by decide +kernel
theorem dL_at_8 : decode cL_at 8 = .ok (.i2l, 1) := by decide +kernel
theorem dL_at_9 : decode cL_at 9 = .ok (.lastore, 1) := by decide +kernel
theorem dL_at_10 : decode cL_at 10 = .ok (.goto 11, 3) := by decide +kernel
theorem dL_at_13 : decode cL_at 13 = .ok (.astore 4, 2) := by decide +kernel
theorem dL_at_15 : decode cL_at 15 = .ok (.iconst 1, 1) := by decide +kernel
theorem dL_at_16 : decode cL_at 16 = .ok (.ireturn, 1) := by decide +kernel
theorem dL_at_17 : decode cL_at 17 = .ok (.astore 4, 2) := by decide +kernel
theorem dL_at_19 : decode cL_at 19 = .ok (.iconst 2, 1) := by decide +kernel
theorem dL_at_20 : decode cL_at 20 = .ok (.ireturn, 1) := by decide +kernel
theorem dL_at_21 : decode cL_at 21 = .ok (.iconst 0, 1) := by decide +kernel
theorem dL_at_22 : decode cL_at 22 = .ok (.ireturn, 1) := by decide +kernel
theorem dL_insert_0 : decode cL_insert 0 = .ok (.aload_n 2, 1) := by decide +kernel
theorem dL_insert_1 : decode cL_insert 1 = .ok (.iconst 0, 1) := by decide +kernel
theorem dL_insert_2 : decode cL_insert 2 = .ok (.aload_n 0, 1) := by decide +kernel
theorem dL_insert_3 : decode cL_insert 3 = .ok (.iload_n 1, 1) := by decide +kernel
theorem dL_insert_4 : decode cL_insert 4 = .ok (.invokevirtual 48, 3) := by decide +kernel
theorem dL_insert_7 : decode cL_insert 7 = .ok (.i2l, 1) := by decide +kernel
theorem dL_insert_8 : decode cL_insert 8 = .ok (.lastore, 1) := by decide +kernel
theorem dL_insert_9 : decode cL_insert 9 = .ok (.goto 9, 3) := by decide +kernel
theorem dL_insert_12 : decode cL_insert 12 = .ok (.astore_n 3, 1) := by decide +kernel
theorem dL_insert_13 : decode cL_insert 13 = .ok (.iconst 1, 1) := by decide +kernel
theorem dL_insert_14 : decode cL_insert 14 = .ok (.ireturn, 1) := by decide +kernel
theorem dL_insert_15 : decode cL_insert 15 = .ok (.astore_n 3, 1) := by decide +kernel
theorem dL_insert_16 : decode cL_insert 16 = .ok (.iconst 2, 1) := by decide +kernel
theorem dL_insert_17 : decode cL_insert 17 = .ok (.ireturn, 1) := by decide +kernel
theorem dL_insert_18 : decode cL_insert 18 = .ok (.iconst 0, 1) := by decide +kernel
theorem dL_insert_19 : decode cL_insert 19 = .ok (.ireturn, 1) := by decide +kernel
theorem dL_remove_0 : decode cL_remove 0 = .ok (.aload_n 2, 1) := by decide +kernel
theorem dL_remove_1 : decode cL_remove 1 = .ok (.iconst 0, 1) := by decide +kernel
theorem dL_remove_2 : decode cL_remove 2 = .ok (.aload_n 0, 1) := by decide +kernel
theorem dL_remove_3 : decode cL_remove 3 = .ok (.iload_n 1, 1) := by decide +kernel
theorem dL_remove_4 : decode cL_remove 4 = .ok (.invokevirtual 51, 3) := by decide +kernel
theorem dL_remove_7 : decode cL_remove 7 = .ok (.i2l, 1) := by decide +kernel
theorem dL_remove_8 : decode cL_remove 8 = .ok (.lastore, 1) := by decide +kernel
theorem dL_remove_9 : decode cL_remove 9 = .ok (.goto 6, 3) := by decide +kernel
theorem dL_remove_12 : decode cL_remove 12 = .ok (.astore_n 3, 1) := by decide +kernel
theorem dL_remove_13 : decode cL_remove 13 = .ok (.iconst 1, 1) := by decide +kernel
theorem dL_remove_14 : decode cL_remove 14 = .ok (.ireturn, 1) := by decide +kernel
theorem dL_remove_15 : decode cL_remove 15 = .ok (.iconst 0, 1) := by decide +kernel
theorem dL_remove_16 : decode cL_remove 16 = .ok (.ireturn, 1) := by decide +kernel
theorem dL_end_0 : decode cL_end 0 = .ok (.aload_n 2, 1) := by decide +kernel
theorem dL_end_1 : decode cL_end 1 = .ok (.iconst 0, 1) := by decide +kernel
theorem dL_end_2 : decode cL_end 2 = .ok (.aload_n 0, 1) := by decide +kernel
theorem dL_end_3 : decode cL_end 3 = .ok (.iload_n 1, 1) := by decide +kernel
theorem dL_end_4 : decode cL_end 4 = .ok (.invokevirtual 54, 3) := by decide +kernel
theorem dL_end_7 : decode cL_end 7 = .ok (.i2l, 1) := by decide +kernel
theorem dL_end_8 : decode cL_end 8 = .ok (.lastore, 1) := by decide +kernel
theorem dL_end_9 : decode cL_end 9 = .ok (.goto 6, 3) := by decide +kernel
theorem dL_end_12 : decode cL_end 12 = .ok (.astore_n 3, 1) := by decide +kernel
theorem dL_end_13 : decode cL_end 13 = .ok (.iconst 1, 1) := by decide +kernel
theorem dL_end_14 : decode cL_end 14 = .ok (.ireturn, 1) := by decide +kernel
theorem dL_end_15 : decode cL_end 15 = .ok (.iconst 0, 1) := by decide +kernel
theorem dL_end_16 : decode cL_end 16 = .ok (.ireturn, 1) := by decide +kernel
theorem dL_join_0 : decode cL_join 0 = .ok (.aload_n 2, 1) := by decide +kernel
theorem dL_join_1 : decode cL_join 1 = .ok (.iconst 0, 1) := by decide +kernel
theorem dL_join_2 : decode cL_join 2 = .ok (.aload_n 0, 1) := by decide +kernel
theorem dL_join_3 : decode cL_join 3 = .ok (.iload_n 1, 1) := by decide +kernel
theorem dL_join_4 : decode cL_join 4 = .ok (.invokevirtual 57, 3) := by decide +kernel
theorem dL_join_7 : decode cL_join 7 = .ok (.i2l, 1) := by decide +kernel
theorem dL_join_8 : decode cL_join 8 = .ok (.lastore, 1) := by decide +kernel
theorem dL_join_9 : decode cL_join 9 = .ok (.goto 6, 3) := by decide +kernel
theorem dL_join_12 : decode cL_join 12 = .ok (.astore_n 3, 1) := by decide +kernel
theorem dL_join_13 : decode cL_join 13 = .ok (.iconst 1, 1) := by decide +kernel
theorem dL_join_14 : decode cL_join 14 = .ok (.ireturn, 1) := by decide +kernel
theorem dL_join_15 : decode cL_join 15 = .ok (.iconst 0, 1) := by decide +kernel
theorem dL_join_16 : decode cL_join 16 = .ok (.ireturn, 1) := by decide +kernel
theorem dL_setFree_0 : decode cL_setFree 0 = .ok (.aload_n 2, 1) := by decide +kernel
theorem dL_setFree_1 : decode cL_setFree 1 = .ok (.iconst 0, 1) := by decide +kernel
theorem dL_setFree_2 : decode cL_setFree 2 = .ok (.aload_n 0, 1) := by decide +kernel
theorem dL_setFree_3 : decode cL_setFree 3 = .ok (.iload_n 1, 1) := by decide +kernel
theorem dL_setFree_4 : decode cL_setFree 4 = .ok (.invokevirtual 60, 3) := by decide +kernel
theorem dL_setFree_7 : decode cL_setFree 7 = .ok (.i2l, 1) := by decide +kernel
theorem dL_setFree_8 : decode cL_setFree 8 = .ok (.lastore, 1) := by decide +kernel
theorem dL_setFree_9 : decode cL_setFree 9 = .ok (.goto 9, 3) := by decide +kernel
theorem dL_setFree_12 : decode cL_setFree 12 = .ok (.astore_n 3, 1) := by decide +kernel
theorem dL_setFree_13 : decode cL_setFree 13 = .ok (.iconst 1, 1) := by decide +kernel
theorem dL_setFree_14 : decode cL_setFree 14 = .ok (.ireturn, 1) := by decide +kernel
theorem dL_setFree_15 : decode cL_setFree 15 = .ok (.astore_n 3, 1) := by decide +kernel
theorem dL_setFree_16 : decode cL_setFree 16 = .ok (.iconst 2, 1) := by decide +kernel
theorem dL_setFree_17 : decode cL_setFree 17 = .ok (.ireturn, 1) := by decide +kernel
theorem dL_setFree_18 : decode cL_setFree 18 = .ok (.iconst 0, 1) := by decide +kernel
theorem dL_setFree_19 : decode cL_setFree 19 = .ok (.ireturn, 1) := by decide +kernel
theorem dL_setGloss_0 : decode cL_setGloss 0 = .ok (.aload_n 3, 1) := by decide +kernel
theorem dL_setGloss_1 : decode cL_setGloss 1 = .ok (.iconst 0, 1) := by decide +kernel
theorem dL_setGloss_2 : decode cL_setGloss 2 = .ok (.aload_n 0, 1) := by decide +kernel
theorem dL_setGloss_3 : decode cL_setGloss 3 = .ok (.iload_n 1, 1) := by decide +kernel
theorem dL_setGloss_4 : decode cL_setGloss 4 = .ok (.iload_n 2, 1) := by decide +kernel
theorem dL_setGloss_5 : decode cL_setGloss 5 = .ok (.invokevirtual 63, 3) := by decide +kernel
theorem dL_setGloss_8 : decode cL_setGloss 8 = .ok (.i2l, 1) := by decide +kernel
theorem dL_setGloss_9 : decode cL_setGloss 9 = .ok (.lastore, 1) := by decide +kernel
theorem dL_setGloss_10 : decode cL_setGloss 10 = .ok (.goto 11, 3) := by decide +kernel
theorem dL_setGloss_13 : decode cL_setGloss 13 = .ok (.astore 4, 2) := by decide +kernel
theorem dL_setGloss_15 : decode cL_setGloss 15 = .ok (.iconst 1, 1) := by decide +kernel
theorem dL_setGloss_16 : decode cL_setGloss 16 = .ok (.ireturn, 1) := by decide +kernel
theorem dL_setGloss_17 : decode cL_setGloss 17 = .ok (.astore 4, 2) := by decide +kernel
theorem dL_setGloss_19 : decode cL_setGloss 19 = .ok (.iconst 2, 1) := by decide +kernel
theorem dL_setGloss_20 : decode cL_setGloss 20 = .ok (.ireturn, 1) := by decide +kernel
theorem dL_setGloss_21 : decode cL_setGloss 21 = .ok (.iconst 0, 1) := by decide +kernel
theorem dL_setGloss_22 : decode cL_setGloss 22 = .ok (.ireturn, 1) := by decide +kernel
theorem dL_set_0 : decode cL_set 0 = .ok (.aload_n 3, 1) := by decide +kernel
theorem dL_set_1 : decode cL_set 1 = .ok (.iconst 0, 1) := by decide +kernel
theorem dL_set_2 : decode cL_set 2 = .ok (.aload_n 0, 1) := by decide +kernel
theorem dL_set_3 : decode cL_set 3 = .ok (.iload_n 1, 1) := by decide +kernel
theorem dL_set_4 : decode cL_set 4 = .ok (.iload_n 2, 1) := by decide +kernel
theorem dL_set_5 : decode cL_set 5 = .ok (.invokevirtual 66, 3) := by decide +kernel
theorem dL_set_8 : decode cL_set 8 = .ok (.i2l, 1) := by decide +kernel
theorem dL_set_9 : decode cL_set 9 = .ok (.lastore, 1) := by decide +kernel
theorem dL_set_10 : decode cL_set 10 = .ok (.goto 7, 3) := by decide +kernel
theorem dL_set_13 : decode cL_set 13 = .ok (.astore 4, 2) := by decide +kernel
theorem dL_set_15 : decode cL_set 15 = .ok (.iconst 1, 1) := by decide +kernel
theorem dL_set_16 : decode cL_set 16 = .ok (.ireturn, 1) := by decide +kernel
theorem dL_set_17 : decode cL_set 17 = .ok (.iconst 0, 1) := by decide +kernel
theorem dL_set_18 : decode cL_set 18 = .ok (.ireturn, 1) := by decide +kernel
theorem dL_learn_0 : decode cL_learn 0 = .ok (.aload_n 3, 1) := by decide +kernel
theorem dL_learn_1 : decode cL_learn 1 = .ok (.iconst 0, 1) := by decide +kernel
theorem dL_learn_2 : decode cL_learn 2 = .ok (.aload_n 0, 1) := by decide +kernel
theorem dL_learn_3 : decode cL_learn 3 = .ok (.iload_n 1, 1) := by decide +kernel
theorem dL_learn_4 : decode cL_learn 4 = .ok (.iload_n 2, 1) := by decide +kernel
theorem dL_learn_5 : decode cL_learn 5 = .ok (.invokevirtual 69, 3) := by decide +kernel
theorem dL_learn_8 : decode cL_learn 8 = .ok (.i2l, 1) := by decide +kernel
theorem dL_learn_9 : decode cL_learn 9 = .ok (.lastore, 1) := by decide +kernel
theorem dL_learn_10 : decode cL_learn 10 = .ok (.goto 11, 3) := by decide +kernel
theorem dL_learn_13 : decode cL_learn 13 = .ok (.astore 4, 2) := by decide +kernel
theorem dL_learn_15 : decode cL_learn 15 = .ok (.iconst 1, 1) := by decide +kernel
theorem dL_learn_16 : decode cL_learn 16 = .ok (.ireturn, 1) := by decide +kernel
theorem dL_learn_17 : decode cL_learn 17 = .ok (.astore 4, 2) := by decide +kernel
theorem dL_learn_19 : decode cL_learn 19 = .ok (.iconst 2, 1) := by decide +kernel
theorem dL_learn_20 : decode cL_learn 20 = .ok (.ireturn, 1) := by decide +kernel
theorem dL_learn_21 : decode cL_learn 21 = .ok (.iconst 0, 1) := by decide +kernel
theorem dL_learn_22 : decode cL_learn 22 = .ok (.ireturn, 1) := by decide +kernel
theorem dL_forget_0 : decode cL_forget 0 = .ok (.aload_n 2, 1) := by decide +kernel
theorem dL_forget_1 : decode cL_forget 1 = .ok (.iconst 0, 1) := by decide +kernel
theorem dL_forget_2 : decode cL_forget 2 = .ok (.aload_n 0, 1) := by decide +kernel
theorem dL_forget_3 : decode cL_forget 3 = .ok (.iload_n 1, 1) := by decide +kernel
theorem dL_forget_4 : decode cL_forget 4 = .ok (.invokevirtual 72, 3) := by decide +kernel
theorem dL_forget_7 : decode cL_forget 7 = .ok (.i2l, 1) := by decide +kernel
theorem dL_forget_8 : decode cL_forget 8 = .ok (.lastore, 1) := by decide +kernel
theorem dL_forget_9 : decode cL_forget 9 = .ok (.goto 6, 3) := by decide +kernel
theorem dL_forget_12 : decode cL_forget 12 = .ok (.astore_n 3, 1) := by decide +kernel
theorem dL_forget_13 : decode cL_forget 13 = .ok (.iconst 1, 1) := by decide +kernel
theorem dL_forget_14 : decode cL_forget 14 = .ok (.ireturn, 1) := by decide +kernel
theorem dL_forget_15 : decode cL_forget 15 = .ok (.iconst 0, 1) := by decide +kernel
theorem dL_forget_16 : decode cL_forget 16 = .ok (.ireturn, 1) := by decide +kernel
theorem dL_undo_0 : decode cL_undo 0 = .ok (.aload_n 1, 1) := by decide +kernel
theorem dL_undo_1 : decode cL_undo 1 = .ok (.iconst 0, 1) := by decide +kernel
theorem dL_undo_2 : decode cL_undo 2 = .ok (.aload_n 0, 1) := by decide +kernel
theorem dL_undo_3 : decode cL_undo 3 = .ok (.invokevirtual 75, 3) := by decide +kernel
theorem dL_undo_6 : decode cL_undo 6 = .ok (.i2l, 1) := by decide +kernel
theorem dL_undo_7 : decode cL_undo 7 = .ok (.lastore, 1) := by decide +kernel
theorem dL_undo_8 : decode cL_undo 8 = .ok (.goto 6, 3) := by decide +kernel
theorem dL_undo_11 : decode cL_undo 11 = .ok (.astore_n 2, 1) := by decide +kernel
theorem dL_undo_12 : decode cL_undo 12 = .ok (.iconst 1, 1) := by decide +kernel
theorem dL_undo_13 : decode cL_undo 13 = .ok (.ireturn, 1) := by decide +kernel
theorem dL_undo_14 : decode cL_undo 14 = .ok (.iconst 0, 1) := by decide +kernel
theorem dL_undo_15 : decode cL_undo 15 = .ok (.ireturn, 1) := by decide +kernel
theorem dL_gap_0 : decode cL_gap 0 = .ok (.aload_n 2, 1) := by decide +kernel
theorem dL_gap_1 : decode cL_gap 1 = .ok (.iconst 0, 1) := by decide +kernel
theorem dL_gap_2 : decode cL_gap 2 = .ok (.aload_n 0, 1) := by decide +kernel
theorem dL_gap_3 : decode cL_gap 3 = .ok (.iload_n 1, 1) := by decide +kernel
theorem dL_gap_4 : decode cL_gap 4 = .ok (.invokevirtual 78, 3) := by decide +kernel
theorem dL_gap_7 : decode cL_gap 7 = .ok (.i2l, 1) := by decide +kernel
theorem dL_gap_8 : decode cL_gap 8 = .ok (.lastore, 1) := by decide +kernel
theorem dL_gap_9 : decode cL_gap 9 = .ok (.goto 6, 3) := by decide +kernel
theorem dL_gap_12 : decode cL_gap 12 = .ok (.astore_n 3, 1) := by decide +kernel
theorem dL_gap_13 : decode cL_gap 13 = .ok (.iconst 1, 1) := by decide +kernel
theorem dL_gap_14 : decode cL_gap 14 = .ok (.ireturn, 1) := by decide +kernel
theorem dL_gap_15 : decode cL_gap 15 = .ok (.iconst 0, 1) := by decide +kernel
theorem dL_gap_16 : decode cL_gap 16 = .ok (.ireturn, 1) := by decide +kernel
theorem dL_widthFor_0 : decode cL_widthFor 0 = .ok (.aload_n 2, 1) := by decide +kernel
theorem dL_widthFor_1 : decode cL_widthFor 1 = .ok (.iconst 0, 1) := by decide +kernel
theorem dL_widthFor_2 : decode cL_widthFor 2 = .ok (.aload_n 0, 1) := by decide +kernel
theorem dL_widthFor_3 : decode cL_widthFor 3 = .ok (.iload_n 1, 1) := by decide +kernel
theorem dL_widthFor_4 : decode cL_widthFor 4 = .ok (.invokevirtual 81, 3) := by decide +kernel
theorem dL_widthFor_7 : decode cL_widthFor 7 = .ok (.i2l, 1) := by decide +kernel
theorem dL_widthFor_8 : decode cL_widthFor 8 = .ok (.lastore, 1) := by decide +kernel
theorem dL_widthFor_9 : decode cL_widthFor 9 = .ok (.goto 6, 3) := by decide +kernel
theorem dL_widthFor_12 : decode cL_widthFor 12 = .ok (.astore_n 3, 1) := by decide +kernel
theorem dL_widthFor_13 : decode cL_widthFor 13 = .ok (.iconst 1, 1) := by decide +kernel
theorem dL_widthFor_14 : decode cL_widthFor 14 = .ok (.ireturn, 1) := by decide +kernel
theorem dL_widthFor_15 : decode cL_widthFor 15 = .ok (.iconst 0, 1) := by decide +kernel
theorem dL_widthFor_16 : decode cL_widthFor 16 = .ok (.ireturn, 1) := by decide +kernel
theorem dL_rowsWith_0 : decode cL_rowsWith 0 = .ok (.aload_n 3, 1) := by decide +kernel
theorem dL_rowsWith_1 : decode cL_rowsWith 1 = .ok (.iconst 0, 1) := by decide +kernel
theorem dL_rowsWith_2 : decode cL_rowsWith 2 = .ok (.aload_n 0, 1) := by decide +kernel
theorem dL_rowsWith_3 : decode cL_rowsWith 3 = .ok (.iload_n 1, 1) := by decide +kernel
theorem dL_rowsWith_4 : decode cL_rowsWith 4 = .ok (.iload_n 2, 1) := by decide +kernel
theorem dL_rowsWith_5 : decode cL_rowsWith 5 = .ok (.invokevirtual 84, 3) := by decide +kernel
theorem dL_rowsWith_8 : decode cL_rowsWith 8 = .ok (.i2l, 1) := by decide +kernel
theorem dL_rowsWith_9 : decode cL_rowsWith 9 = .ok (.lastore, 1) := by decide +kernel
theorem dL_rowsWith_10 : decode cL_rowsWith 10 = .ok (.goto 7, 3) := by decide +kernel
theorem dL_rowsWith_13 : decode cL_rowsWith 13 = .ok (.astore 4, 2) := by decide +kernel
theorem dL_rowsWith_15 : decode cL_rowsWith 15 = .ok (.iconst 1, 1) := by decide +kernel
theorem dL_rowsWith_16 : decode cL_rowsWith 16 = .ok (.ireturn, 1) := by decide +kernel
theorem dL_rowsWith_17 : decode cL_rowsWith 17 = .ok (.iconst 0, 1) := by decide +kernel
theorem dL_rowsWith_18 : decode cL_rowsWith 18 = .ok (.ireturn, 1) := by decide +kernel
theorem dL_runScript_0 : decode cL_runScript 0 = .ok (.aload 4, 2) := by decide +kernel
theorem dL_runScript_2 : decode cL_runScript 2 = .ok (.iconst 0, 1) := by decide +kernel
theorem dL_runScript_3 : decode cL_runScript 3 = .ok (.aload_n 0, 1) := by decide +kernel
theorem dL_runScript_4 : decode cL_runScript 4 = .ok (.iload_n 1, 1) := by decide +kernel
theorem dL_runScript_5 : decode cL_runScript 5 = .ok (.lload_n 2, 1) := by decide +kernel
theorem dL_runScript_6 : decode cL_runScript 6 = .ok (.invokevirtual 87, 3) := by decide +kernel
theorem dL_runScript_9 : decode cL_runScript 9 = .ok (.i2l, 1) := by decide +kernel
theorem dL_runScript_10 : decode cL_runScript 10 = .ok (.lastore, 1) := by decide +kernel
theorem dL_runScript_11 : decode cL_runScript 11 = .ok (.goto 7, 3) := by decide +kernel
theorem dL_runScript_14 : decode cL_runScript 14 = .ok (.astore 5, 2) := by decide +kernel
theorem dL_runScript_16 : decode cL_runScript 16 = .ok (.iconst 1, 1) := by decide +kernel
theorem dL_runScript_17 : decode cL_runScript 17 = .ok (.ireturn, 1) := by decide +kernel
theorem dL_runScript_18 : decode cL_runScript 18 = .ok (.iconst 0, 1) := by decide +kernel
theorem dL_runScript_19 : decode cL_runScript 19 = .ok (.ireturn, 1) := by decide +kernel
theorem dL_simulate_0 : decode cL_simulate 0 = .ok (.aload 4, 2) := by decide +kernel
theorem dL_simulate_2 : decode cL_simulate 2 = .ok (.iconst 0, 1) := by decide +kernel
theorem dL_simulate_3 : decode cL_simulate 3 = .ok (.aload_n 0, 1) := by decide +kernel
theorem dL_simulate_4 : decode cL_simulate 4 = .ok (.lload_n 1, 1) := by decide +kernel
theorem dL_simulate_5 : decode cL_simulate 5 = .ok (.iload_n 3, 1) := by decide +kernel
theorem dL_simulate_6 : decode cL_simulate 6 = .ok (.invokevirtual 91, 3) := by decide +kernel
theorem dL_simulate_9 : decode cL_simulate 9 = .ok (.i2l, 1) := by decide +kernel
theorem dL_simulate_10 : decode cL_simulate 10 = .ok (.lastore, 1) := by decide +kernel
theorem dL_simulate_11 : decode cL_simulate 11 = .ok (.goto 7, 3) := by decide +kernel
theorem dL_simulate_14 : decode cL_simulate 14 = .ok (.astore 5, 2) := by decide +kernel
theorem dL_simulate_16 : decode cL_simulate 16 = .ok (.iconst 1, 1) := by decide +kernel
theorem dL_simulate_17 : decode cL_simulate 17 = .ok (.ireturn, 1) := by decide +kernel
theorem dL_simulate_18 : decode cL_simulate 18 = .ok (.iconst 0, 1) := by decide +kernel
theorem dL_simulate_19 : decode cL_simulate 19 = .ok (.ireturn, 1) := by decide +kernel
theorem dL_save_0 : decode cL_save 0 = .ok (.aload_n 2, 1) := by decide +kernel
theorem dL_save_1 : decode cL_save 1 = .ok (.iconst 0, 1) := by decide +kernel
theorem dL_save_2 : decode cL_save 2 = .ok (.aload_n 0, 1) := by decide +kernel
theorem dL_save_3 : decode cL_save 3 = .ok (.iload_n 1, 1) := by decide +kernel
theorem dL_save_4 : decode cL_save 4 = .ok (.invokevirtual 95, 3) := by decide +kernel
theorem dL_save_7 : decode cL_save 7 = .ok (.i2l, 1) := by decide +kernel
theorem dL_save_8 : decode cL_save 8 = .ok (.lastore, 1) := by decide +kernel
theorem dL_save_9 : decode cL_save 9 = .ok (.goto 6, 3) := by decide +kernel
theorem dL_save_12 : decode cL_save 12 = .ok (.astore_n 3, 1) := by decide +kernel
theorem dL_save_13 : decode cL_save 13 = .ok (.iconst 1, 1) := by decide +kernel
theorem dL_save_14 : decode cL_save 14 = .ok (.ireturn, 1) := by decide +kernel
theorem dL_save_15 : decode cL_save 15 = .ok (.iconst 0, 1) := by decide +kernel
theorem dL_save_16 : decode cL_save 16 = .ok (.ireturn, 1) := by decide +kernel
theorem dL_restore_0 : decode cL_restore 0 = .ok (.aload_n 2, 1) := by decide +kernel
theorem dL_restore_1 : decode cL_restore 1 = .ok (.iconst 0, 1) := by decide +kernel
theorem dL_restore_2 : decode cL_restore 2 = .ok (.aload_n 0, 1) := by decide +kernel
theorem dL_restore_3 : decode cL_restore 3 = .ok (.iload_n 1, 1) := by decide +kernel
theorem dL_restore_4 : decode cL_restore 4 = .ok (.invokevirtual 98, 3) := by decide +kernel
theorem dL_restore_7 : decode cL_restore 7 = .ok (.i2l, 1) := by decide +kernel
theorem dL_restore_8 : decode cL_restore 8 = .ok (.lastore, 1) := by decide +kernel
theorem dL_restore_9 : decode cL_restore 9 = .ok (.goto 9, 3) := by decide +kernel
theorem dL_restore_12 : decode cL_restore 12 = .ok (.astore_n 3, 1) := by decide +kernel
theorem dL_restore_13 : decode cL_restore 13 = .ok (.iconst 1, 1) := by decide +kernel
theorem dL_restore_14 : decode cL_restore 14 = .ok (.ireturn, 1) := by decide +kernel
theorem dL_restore_15 : decode cL_restore 15 = .ok (.astore_n 3, 1) := by decide +kernel
theorem dL_restore_16 : decode cL_restore 16 = .ok (.iconst 2, 1) := by decide +kernel
theorem dL_restore_17 : decode cL_restore 17 = .ok (.ireturn, 1) := by decide +kernel
theorem dL_restore_18 : decode cL_restore 18 = .ok (.iconst 0, 1) := by decide +kernel
theorem dL_restore_19 : decode cL_restore 19 = .ok (.ireturn, 1) := by decide +kernel
/-! ===== the law's own methods: they call one of the class's and catch what it throws ===== -/
abbrev ka_A9 (G : ka_G) : Nat → Prop := fun q => G.2.2.1 ≤ q
/-- the row that the answers come in, at the address that the methods let alone -/
def kl_O (G : ka_G) (o : Int64) (H : Heap) : Prop := va_at (ka_D G) vwCl (G.2.2.2, .inl (ka_r G 1, 1, .inr (.inl (fun _ => o)))) H
def kl_Nc (U : State) : Prop := ∀ i, i < 3 → ∀ j, j < 3 → i ≠ j → va_Nc (ka_E i) (ka_E j) U
def kl_B (G : ka_G) (u : ka_S × Int64) (t : State) : Prop := ka_B G u.1 t ∧ kl_O G u.2 t.heap
def kl_Pc (G : ka_G) (av : List Value) (σ : ka_S) (o : Int64) : Array Value → State → Prop := va_Pc av (fun U => ka_BT G σ U ∧ kl_O G o U.heap ∧ kl_Nc U ∧ G.2.2.1 ≤ U.heap.size ∧ G.2.2.2 < U.heap.size)
abbrev kc_L (l : Launch) (y : MethodName) (ws : List Cond) (rm : Room) (mc ms : Nat) (G : ka_G) (av : List Value) (σ : ka_S) (o : Int64) (Q : Int32 → ka_S → Int64 → Prop) : Prop := Met l y ws rm (kl_Pc G av σ o) (va_Qi (fun r (u : ka_S × Int64) => Q r u.1 u.2) (kl_B G) (ka_A9 G)) mc ms (ka_A9 G)
theorem kl_blind {av : List Value} {G : ka_G} {σ : ka_S} {o : Int64} : FrameBlind (kl_Pc G av σ o) := fun a U g mk q =>
  have h := ka_blindT (av := av) (G := G) (σ := σ) a U g mk ⟨q.1, q.2.1⟩
  ⟨q.1, h.2, q.2.2.1, fun i hi j hj hij => va_Nc.moved (u := U) (U := U.calling g mk a) (Vm.Alike.refl U.vm) (q.2.2.2.1 i hi j hj hij), q.2.2.2.2⟩
abbrev kw_W (y : MethodName) (cc : ByteArray) (nL : Nat) (hh : List (Nat × Nat × Nat × Nat)) : List Cond := .codeWith y cc nL (some .int) hh :: kq_W
theorem kl_of {l : Launch} {y : MethodName} {cc : ByteArray} {nL : Nat} {hh : List (Nat × Nat × Nat × Nat)} {rm : Room} {mc ms : Nat} {G : ka_G} {av : List Value} {σ : ka_S} {o : Int64} {Qc : Array Value → State → Outcome → State → Prop} (ho : y.cls = "GlossRowsLaw") (hy : plainName y.cls = true) (hn : (lg_sl av).length ≤ nL) (hQ : G.2.2.1 ≤ G.2.2.2)
    (body : ∀ (p : Program) (e : Env) (s : State) (m : MethodId) (below : List Frame) (meth : Method) (c : Code), ka_C p s m av.toArray meth c cc nL "GlossRowsLaw" (some .int) → ka_Kn G s → ka_T G s → kl_Nc s → c.exceptionTable.toList = tableOf hh → ∀ (H : Heap) (locs : List Loc), ka_P G σ H → kl_O G o H → va_S (ka_A G) s.heap H locs → G.2.2.2 < H.size → ∀ ls : Array Slot, lv_has ls nL (lv_args 0 av) → W p l e rm s m av.toArray below meth c H locs 0 0 (MQ below Qc av.toArray s mc ms (ka_A9 G)) (F0 m 0 ls [])) :
    Met l y (kw_W y cc nL hh) rm (kl_Pc G av σ o) Qc mc ms (ka_A9 G) := by
  refine MetFree.of_bodyS (code := cc) (maxLocals := nL) (ret := some .int) hy ?_ ?_
  · intro args s m h hn
    obtain ⟨m9, meth, c, hn9, h1, h2, h3, h4, -, h5, h6, -⟩ := Cond.codeWith_spec (atoms_spec (ws := kw_W y cc nL hh) h _ List.mem_cons_self)
    cases hn.symm.trans hn9
    exact ⟨meth, c, h1, h2, h3, h4, h5, h6⟩
  · intro p e s m args below meth c s₁ B hml hv _
    have hh0 : s₁.heap = s.heap := by rw [B.state]; rfl
    obtain ⟨rfl, ⟨⟨hP, hK⟩, hT⟩, hO, hN, hb0, hq0⟩ := hv
    have hts := atoms_spec (ws := kw_W y cc nL hh) B.pre
    have hl := lv_entry av (n := nL) hn
    have hown : s.vm.findClass "GlossRowsLaw" = some m.cls := by rw [← ho]; exact findClass_of_methodNamed B.named
    have hx := vx_table (x := y) B (hts _ List.mem_cons_self)
    have K : W p l e rm s m av.toArray below meth c s.heap [] 0 0 (MQ below Qc av.toArray s mc ms (ka_A9 G)) (entryFrame m av.toArray nL) := by
      rw [lg_entry_eq]
      exact body p e s m below meth c ⟨B.exec, B.bytes, B.returns, hml, hown, fun w hw => hts w (List.mem_cons_of_mem _ hw), B.notSynchronized⟩ hK hT hN hx s.heap [] hP hO va_S.rf hq0 _ hl
    obtain ⟨t, a1, o9, b1, b2, b3⟩ := K s₁ hh0 (Stand.of_body B)
    exact ⟨t, o9, a1, b1, b2, ⟨b3.1, b3.2⟩⟩
section KL
variable {p : Program} {l : Launch} {e : Env} {R : Room} {s : State} {m : MethodId} {args : Array Value} {below : List Frame} {meth : Method} {c : Code} {H : Heap} {locs : List Loc} {cells slots : Nat} {Q : State → Prop}
variable {cc : ByteArray} {pc : Nat} {ls : Array Slot} {rest : List Value} {G : ka_G} {σ : ka_S} {k : ka_K} {own : String} {nL : Nat} {ret : Option FieldType}
theorem kl_O.kept {o : Int64} {H1 : Heap} (h : kl_O G o H) (hq : H1[G.2.2.2]? = H[G.2.2.2]?) : kl_O G o H1 := va_at.kept h hq
/-- the answer is put into the row -/
theorem kl_last {x o : Int64} (C0 : ka_C p s m args meth c cc nL own ret) (hK : ka_Kn G s) (hI : ka_I G) (hP : ka_P G σ H) (hO : kl_O G o H) (hS : va_S (ka_A9 G) s.heap H locs) (hQ : G.2.2.1 ≤ G.2.2.2) (hdg : decode cc pc = .ok (.lastore, 1))
    (kk : ∀ (H1 : Heap) (locs1 : List Loc), ka_P G σ H1 → kl_O G x H1 → va_S (ka_A9 G) s.heap H1 locs1 → W p l e R s m args below meth c H1 locs1 cells slots Q (F0 m (pc + 1) ls rest)) : W p l e R s m args below meth c H locs cells slots Q (F0 m pc ls (.long x :: .int 0 :: .ref G.2.2.2 :: rest)) := by
  have h0 : vp_in (0 : Int32) 1 := vp_in_nI (n := 0) (by decide) (by decide)
  have hat : H[G.2.2.2]? = some (vp_cell (ka_r G 1) (1, .inr (.inl (fun _ => o)))) := hO
  refine W.last C0.1 C0.2.1 hat ((hK.2 1 _ rfl).1 1 (fun j => .long o)) (fun q => by cases q) (by show ¬ ((0 : Int32) < 0 ∨ (arrV _ _ _).slots.size ≤ _); rw [arrV_size]; exact h0) rfl rfl hdg fun H1 e z oq => ?_
  refine kk H1 _ (fun k hv => (hP k hv).kept (oq _ (hI.2 k hv).2)) ?_ (hS.put z oq hQ)
  show H1[_]? = some (vp_cell _ _)
  rw [e]
  rw [vp_cell_l, vp_cell_l, arrV_store]
  congr 1
theorem kl_ret {v : Int32} {o : Int64} {mc ms : Nat} {Qp : Int32 → ka_S → Int64 → Prop} (C0 : ka_C p s m args meth c cc nL own (some .int)) (hK : ka_Kn G s) (hP : ka_P G σ H) (hO : kl_O G o H) (hS : va_S (ka_A9 G) s.heap H locs) (hq : Qp v σ o) (hdg : decode cc pc = .ok (.ireturn, 1)) (hc : cells ≤ mc ∧ slots ≤ ms) : W p l e R s m args below meth c H locs cells slots (MQ below (va_Qi (fun r (u : ka_S × Int64) => Qp r u.1 u.2) (kl_B G) (ka_A9 G)) args s mc ms (ka_A9 G)) (F0 m pc ls [.int v]) :=
  W.widen hc.1 hc.2 (W.iret (v := v) C0.1 C0.2.1 C0.2.2.1 (fun t ht hW => ⟨⟨v, (σ, o), rfl, hq, ⟨by rw [ht]; exact hP, va_K.moved hW.alike hK⟩, by rw [ht]; exact hO⟩, hS.F ht⟩) hS.2.2 hdg C0.2.2.2.2.2.2)
variable {y : MethodName} {bytes : ByteArray} {mL idx n : Nat} {rt : Option FieldType} {rm : Room} {As : List Value}
/-- a call that may throw; what is thrown stands as an exception of the number E -/
theorem kl_V {Qp : Int32 → ka_S → Prop} {X : Nat → ka_S → Prop} {o : Int64} {c1 s1 : Nat} {lv : List (Nat × Value)} (C0 : ka_C p s m args meth c cc nL own ret) (hK : ka_Kn G s) (hT : ka_T G s) (hP : ka_P G σ H) (hO : kl_O G o H) (hS : va_S (ka_A G) s.heap H locs) (hqz : G.2.2.2 < H.size) (hl : lv_has ls nL lv) (hM : kx_i l y (kw_ y bytes mL rt) rm c1 s1 G (.ref (ka_a G k) :: As) σ Qp X) (kd : kd_V y bytes mL rt n) (hlink : Cond.methodLink own idx y ∈ kq_W) (hv : ka_v k) {ci : Nat} {q : vw_C} {fs : List Value} (he : ka_c G σ k = .inr (ci, fs)) (hc : vwCl[ci]? = some q) (hC : q.1 = y.cls)
    (hrm : rm.cells = c1 ∧ rm.slots = s1 ∧ rm.frames + 1 ≤ R.frames ∧ 8 + (mL + 11) + rm.locals ≤ R.locals) (hn : As.length = n) (hW : (rest.map fun v => v.category).sum ≤ 8) (hdg : decode cc pc = .ok (.invokevirtual idx, 3)) (hf : cells + c1 ≤ R.cells ∧ slots + s1 ≤ R.slots)
    (kx : ∀ (j : Nat) (ce : Cell) (q9 : Addr) (σ1 : ka_S) (H1 : Heap) (locs1 : List Loc), X j σ1 → ka_P G σ1 H1 → kl_O G o H1 → va_S (ka_A G) s.heap H1 locs1 → H1[q9]? = some ce → ce.vm = .none → s.vm.findClass (ka_E j) = some ce.cls → vx_W p l e R s m args below meth c H1 locs1 (cells + c1) (slots + s1) Q (F0 m pc ls rest) q9)
    (kk : ∀ (r : Int32) (σ1 : ka_S) (H1 : Heap) (locs1 : List Loc), Qp r σ1 → ka_P G σ1 H1 → kl_O G o H1 → va_S (ka_A G) s.heap H1 locs1 → W p l e R s m args below meth c H1 locs1 (cells + c1) (slots + s1) Q (F0 m (pc + 3) ls (.int r :: rest))) : W p l e R s m args below meth c H locs cells slots Q (F0 m pc ls (As.reverse ++ .ref (ka_a G k) :: rest)) := by
  have keep : ∀ H1 : Heap, (∀ q : Nat, q < H.size → ¬ ka_A G q → H1[q]? = H[q]?) → kl_O G o H1 := fun H1 ho => hO.kept (ho _ hqz (fun z => z.2 rfl))
  refine vx_calli (vx_runV C0.fix hM (kx_cbV C0 hlink kd hrm) (kx_pV hK hT hS hP hv he hc hC) rfl hn hl.1 rfl (lv_room hW) hdg hf) hS (fun q _ h => h) (fun q h => h) (fun q _ h => h)
    (fun E ce q9 u t H1 locs1 ht hvm hw hB hz hk1 hS1 hce hcv hcl => ?_)
    (fun r u t H1 locs1 ht hvm hw hB hz hk1 hS1 => kk r u H1 locs1 hw (by rw [← ht]; exact hB.1) (keep H1 hk1) hS1)
  obtain ⟨hE, hB⟩ := hB
  subst hE
  exact kx u.1 ce q9 u.2 H1 locs1 hw (by rw [← ht]; exact hB.1) (keep H1 hk1) hS1 hce hcv hcl
theorem va_S.more {H : Heap} {locs : List Loc} (h : va_S (ka_A G) s.heap H locs) : va_S (ka_A9 G) s.heap H locs := ⟨h.1, fun q a b => h.2.1 q a (fun z => b z.1), fun x hx => (h.2.2 x hx).1⟩
end KL
def kw_L_append (σ : ka_S) (v1 : Int32) (o : Int64) (Q : Int32 → ka_S → Int64 → Prop) : Prop := kw_X8_append σ v1 (fun r σ1 => Q 0 σ1 r.toInt64) (fun j σ1 => match j with | 0 => Q 1 σ1 o | 1 => Q 2 σ1 o | _ => False)
def rm_L_append : Room := { frames := 7, cells := 1, slots := 6, locals := 103 }
set_option maxHeartbeats 4000000 in
set_option maxRecDepth 100000 in
theorem km_L_append (l : Launch) (hl0 : l.stackTraces = false) {G : ka_G} (hI : ka_I G) (hQ : G.2.2.1 ≤ G.2.2.2) {σ : ka_S} {v1 : Int32} {o : Int64} {Q : Int32 → ka_S → Int64 → Prop} (hq : kw_L_append σ v1 o Q) : kc_L l yL_append (kw_W yL_append cL_append 4 [(0, 9, 12, 13), (0, 9, 15, 15)]) rm_L_append 1 6 G [.ref (ka_a G (22, 0, 0)), .int v1, .ref G.2.2.2] σ o Q := by
  refine kl_of rfl (by decide) (Nat.le_of_ble_eq_true rfl) hQ ?_
  intro p e s m below meth c C0 hK hT hN htab H locs hP hO hS hqz ls hl
  obtain ⟨hx, hb, -, hml, hown, hts, -⟩ := id C0
  have hl : lv_has ls 4 [(0, .ref (ka_a G (22, 0, 0))), (1, .int v1), (2, .ref G.2.2.2)] := hl
  unfold kw_L_append at hq
  refine lv_aload_n hx hb dL_append_0 rfl (lv_at hl 2 rfl) ?_
  refine lv_iconst (v := 0) hx hb dL_append_1 (by decide) ?_
  refine lv_aload_n hx hb dL_append_2 rfl (lv_at hl 0 rfl) ?_
  refine lv_iload_n hx hb dL_append_3 rfl (lv_at hl 1 rfl) ?_
  refine kl_V (k := (22, 0, 0)) (As := [.int v1]) (rest := [.int 0, .ref G.2.2.2]) C0 hK hT hP hO hS hqz hl (km_X8_append l hl0 hI hq) kd_X8_append kq_421 (kv_s (by decide) (by decide)) rfl rfl rfl ⟨rfl, rfl, Nat.le_of_ble_eq_true rfl, Nat.le_of_ble_eq_true rfl⟩ rfl (Nat.le_of_ble_eq_true rfl) dL_append_4 ⟨Nat.le_of_ble_eq_true rfl, Nat.le_of_ble_eq_true rfl⟩ (fun j ce q9 σ1 H locs hj hP hO hS hce hcv hcl => ?_) (fun r σ1 H locs hq hP hO hS => ?_)
  · match j, hj, hcl with
    | 0, hj, hcl =>
      refine vx_catch (own := "GlossRowsLaw") (name := ka_E 0) (E := ka_E 0) hown [] ⟨0, 9, 12, 13⟩ [⟨0, 9, 15, 15⟩] (by rw [htab]; rfl) (fun z hz => absurd hz List.not_mem_nil) (by decide) (by decide) (hts _ kq_419) (va_Nw.use rfl (hT.2.2.1 (Cond.castable (ka_E 0) (ka_E 0)) (List.mem_of_getElem? (i := 0) rfl))) hce hcv hcl ?_
      refine lv_astore_n (lv' := [(3, .ref q9), (0, .ref (ka_a G (22, 0, 0))), (1, .int v1), (2, .ref G.2.2.2)]) hx hb dL_append_12 rfl hl (by decide) rfl (fun ls hl => ?_)
      refine lv_iconst (v := 1) hx hb dL_append_13 (by decide) ?_
      exact kl_ret C0 hK hP hO hS.more hj dL_append_14 ⟨Nat.le_of_ble_eq_true rfl, Nat.le_of_ble_eq_true rfl⟩
    | 1, hj, hcl =>
      refine vx_catch (own := "GlossRowsLaw") (name := ka_E 1) (E := ka_E 1) hown [⟨0, 9, 12, 13⟩] ⟨0, 9, 15, 15⟩ [] (by rw [htab]; rfl) (fun z hz => Or.inr (by obtain rfl := List.mem_singleton.mp hz; exact ⟨by decide, ka_E 0, hts _ kq_419, hN 1 (by decide) 0 (by decide) (by decide)⟩)) (by decide) (by decide) (hts _ kq_420) (va_Nw.use rfl (hT.2.2.1 (Cond.castable (ka_E 1) (ka_E 1)) (List.mem_of_getElem? (i := 4) rfl))) hce hcv hcl ?_
      refine lv_astore_n (lv' := [(3, .ref q9), (0, .ref (ka_a G (22, 0, 0))), (1, .int v1), (2, .ref G.2.2.2)]) hx hb dL_append_15 rfl hl (by decide) rfl (fun ls hl => ?_)
      refine lv_iconst (v := 2) hx hb dL_append_16 (by decide) ?_
      exact kl_ret C0 hK hP hO hS.more hj dL_append_17 ⟨Nat.le_of_ble_eq_true rfl, Nat.le_of_ble_eq_true rfl⟩
    | n + 2, hj, hcl => exact absurd hj (fun h => h)
  · refine lv_i2l hx hb dL_append_7 rfl ?_
    refine kl_last C0 hK hI hP hO hS.more hQ dL_append_8 (fun H locs hP hO hS => ?_)
    refine lv_goto (tgt := 18) hx hb dL_append_9 (by decide) ?_
    refine lv_iconst (v := 0) hx hb dL_append_18 (by decide) ?_
    exact kl_ret C0 hK hP hO hS hq dL_append_19 ⟨Nat.le_of_ble_eq_true rfl, Nat.le_of_ble_eq_true rfl⟩
def kw_L_load (σ : ka_S) (o : Int64) (Q : Int32 → ka_S → Int64 → Prop) : Prop := kw_X8_load σ (fun r σ1 => Q 0 σ1 r.toInt64) (fun j σ1 => match j with | 0 => False | 1 => Q 1 σ1 o | _ => False)
def rm_L_load : Room := { frames := 7, cells := 1, slots := 6, locals := 145 }
set_option maxHeartbeats 4000000 in
set_option maxRecDepth 100000 in
theorem km_L_load (l : Launch) (hl0 : l.stackTraces = false) {G : ka_G} (hI : ka_I G) (hQ : G.2.2.1 ≤ G.2.2.2) {σ : ka_S} {o : Int64} {Q : Int32 → ka_S → Int64 → Prop} (hq : kw_L_load σ o Q) : kc_L l yL_load (kw_W yL_load cL_load 3 [(0, 8, 11, 15)]) rm_L_load 1 6 G [.ref (ka_a G (22, 0, 0)), .ref G.2.2.2] σ o Q := by
  refine kl_of rfl (by decide) (Nat.le_of_ble_eq_true rfl) hQ ?_
  intro p e s m below meth c C0 hK hT hN htab H locs hP hO hS hqz ls hl
  obtain ⟨hx, hb, -, hml, hown, hts, -⟩ := id C0
  have hl : lv_has ls 3 [(0, .ref (ka_a G (22, 0, 0))), (1, .ref G.2.2.2)] := hl
  unfold kw_L_load at hq
  refine lv_aload_n hx hb dL_load_0 rfl (lv_at hl 1 rfl) ?_
  refine lv_iconst (v := 0) hx hb dL_load_1 (by decide) ?_
  refine lv_aload_n hx hb dL_load_2 rfl (lv_at hl 0 rfl) ?_
  refine kl_V (k := (22, 0, 0)) (As := []) (rest := [.int 0, .ref G.2.2.2]) C0 hK hT hP hO hS hqz hl (km_X8_load l hl0 hI hq) kd_X8_load kq_516 (kv_s (by decide) (by decide)) rfl rfl rfl ⟨rfl, rfl, Nat.le_of_ble_eq_true rfl, Nat.le_of_ble_eq_true rfl⟩ rfl (Nat.le_of_ble_eq_true rfl) dL_load_3 ⟨Nat.le_of_ble_eq_true rfl, Nat.le_of_ble_eq_true rfl⟩ (fun j ce q9 σ1 H locs hj hP hO hS hce hcv hcl => ?_) (fun r σ1 H locs hq hP hO hS => ?_)
  · match j, hj, hcl with
    | 0, hj, hcl => exact absurd hj (fun h => h)
    | 1, hj, hcl =>
      refine vx_catch (own := "GlossRowsLaw") (name := ka_E 1) (E := ka_E 1) hown [] ⟨0, 8, 11, 15⟩ [] (by rw [htab]; rfl) (fun z hz => absurd hz List.not_mem_nil) (by decide) (by decide) (hts _ kq_420) (va_Nw.use rfl (hT.2.2.1 (Cond.castable (ka_E 1) (ka_E 1)) (List.mem_of_getElem? (i := 4) rfl))) hce hcv hcl ?_
      refine lv_astore_n (lv' := [(2, .ref q9), (0, .ref (ka_a G (22, 0, 0))), (1, .ref G.2.2.2)]) hx hb dL_load_11 rfl hl (by decide) rfl (fun ls hl => ?_)
      refine lv_iconst (v := 1) hx hb dL_load_12 (by decide) ?_
      exact kl_ret C0 hK hP hO hS.more hj dL_load_13 ⟨Nat.le_of_ble_eq_true rfl, Nat.le_of_ble_eq_true rfl⟩
    | n + 2, hj, hcl => exact absurd hj (fun h => h)
  · refine lv_i2l hx hb dL_load_6 rfl ?_
    refine kl_last C0 hK hI hP hO hS.more hQ dL_load_7 (fun H locs hP hO hS => ?_)
    refine lv_goto (tgt := 14) hx hb dL_load_8 (by decide) ?_
    refine lv_iconst (v := 0) hx hb dL_load_14 (by decide) ?_
    exact kl_ret C0 hK hP hO hS hq dL_load_15 ⟨Nat.le_of_ble_eq_true rfl, Nat.le_of_ble_eq_true rfl⟩
def kw_L_about (σ : ka_S) (v1 : Int32) (o : Int64) (Q : Int32 → ka_S → Int64 → Prop) : Prop := kw_X8_about σ v1 (fun r σ1 => Q 0 σ1 r.toInt64) (fun j σ1 => match j with | 0 => Q 1 σ1 o | 1 => False | _ => False)
def rm_L_about : Room := { frames := 7, cells := 1, slots := 6, locals := 157 }
set_option maxHeartbeats 4000000 in
set_option maxRecDepth 100000 in
theorem km_L_about (l : Launch) (hl0 : l.stackTraces = false) {G : ka_G} (hI : ka_I G) (hQ : G.2.2.1 ≤ G.2.2.2) {σ : ka_S} {v1 : Int32} {o : Int64} {Q : Int32 → ka_S → Int64 → Prop} (hq : kw_L_about σ v1 o Q) : kc_L l yL_about (kw_W yL_about cL_about 4 [(0, 9, 12, 13)]) rm_L_about 1 6 G [.ref (ka_a G (22, 0, 0)), .int v1, .ref G.2.2.2] σ o Q := by
  refine kl_of rfl (by decide) (Nat.le_of_ble_eq_true rfl) hQ ?_
  intro p e s m below meth c C0 hK hT hN htab H locs hP hO hS hqz ls hl
  obtain ⟨hx, hb, -, hml, hown, hts, -⟩ := id C0
  have hl : lv_has ls 4 [(0, .ref (ka_a G (22, 0, 0))), (1, .int v1), (2, .ref G.2.2.2)] := hl
  unfold kw_L_about at hq
  refine lv_aload_n hx hb dL_about_0 rfl (lv_at hl 2 rfl) ?_
  refine lv_iconst (v := 0) hx hb dL_about_1 (by decide) ?_
  refine lv_aload_n hx hb dL_about_2 rfl (lv_at hl 0 rfl) ?_
  refine lv_iload_n hx hb dL_about_3 rfl (lv_at hl 1 rfl) ?_
  refine kl_V (k := (22, 0, 0)) (As := [.int v1]) (rest := [.int 0, .ref G.2.2.2]) C0 hK hT hP hO hS hqz hl (km_X8_about l hl0 hI hq) kd_X8_about kq_533 (kv_s (by decide) (by decide)) rfl rfl rfl ⟨rfl, rfl, Nat.le_of_ble_eq_true rfl, Nat.le_of_ble_eq_true rfl⟩ rfl (Nat.le_of_ble_eq_true rfl) dL_about_4 ⟨Nat.le_of_ble_eq_true rfl, Nat.le_of_ble_eq_true rfl⟩ (fun j ce q9 σ1 H locs hj hP hO hS hce hcv hcl => ?_) (fun r σ1 H locs hq hP hO hS => ?_)
  · match j, hj, hcl with
    | 0, hj, hcl =>
      refine vx_catch (own := "GlossRowsLaw") (name := ka_E 0) (E := ka_E 0) hown [] ⟨0, 9, 12, 13⟩ [] (by rw [htab]; rfl) (fun z hz => absurd hz List.not_mem_nil) (by decide) (by decide) (hts _ kq_419) (va_Nw.use rfl (hT.2.2.1 (Cond.castable (ka_E 0) (ka_E 0)) (List.mem_of_getElem? (i := 0) rfl))) hce hcv hcl ?_
      refine lv_astore_n (lv' := [(3, .ref q9), (0, .ref (ka_a G (22, 0, 0))), (1, .int v1), (2, .ref G.2.2.2)]) hx hb dL_about_12 rfl hl (by decide) rfl (fun ls hl => ?_)
      refine lv_iconst (v := 1) hx hb dL_about_13 (by decide) ?_
      exact kl_ret C0 hK hP hO hS.more hj dL_about_14 ⟨Nat.le_of_ble_eq_true rfl, Nat.le_of_ble_eq_true rfl⟩
    | 1, hj, hcl => exact absurd hj (fun h => h)
    | n + 2, hj, hcl => exact absurd hj (fun h => h)
  · refine lv_i2l hx hb dL_about_7 rfl ?_
    refine kl_last C0 hK hI hP hO hS.more hQ dL_about_8 (fun H locs hP hO hS => ?_)
    refine lv_goto (tgt := 15) hx hb dL_about_9 (by decide) ?_
    refine lv_iconst (v := 0) hx hb dL_about_15 (by decide) ?_
    exact kl_ret C0 hK hP hO hS hq dL_about_16 ⟨Nat.le_of_ble_eq_true rfl, Nat.le_of_ble_eq_true rfl⟩
def kw_L_word (σ : ka_S) (v1 : Int32) (v2 : Int32) (o : Int64) (Q : Int32 → ka_S → Int64 → Prop) : Prop := kw_X8_word σ v1 v2 (fun r σ1 => Q 0 σ1 r.toInt64) (fun j σ1 => match j with | 0 => Q 2 σ1 o | 1 => False | _ => Q 1 σ1 o)
def rm_L_word : Room := { frames := 8, cells := 2, slots := 12, locals := 158 }
set_option maxHeartbeats 4000000 in
set_option maxRecDepth 100000 in
theorem km_L_word (l : Launch) (hl0 : l.stackTraces = false) {G : ka_G} (hI : ka_I G) (hQ : G.2.2.1 ≤ G.2.2.2) {σ : ka_S} {v1 : Int32} {v2 : Int32} {o : Int64} {Q : Int32 → ka_S → Int64 → Prop} (hq : kw_L_word σ v1 v2 o Q) : kc_L l yL_word (kw_W yL_word cL_word 5 [(0, 10, 13, 28), (0, 10, 17, 13)]) rm_L_word 2 12 G [.ref (ka_a G (22, 0, 0)), .int v1, .int v2, .ref G.2.2.2] σ o Q := by
  refine kl_of rfl (by decide) (Nat.le_of_ble_eq_true rfl) hQ ?_
  intro p e s m below meth c C0 hK hT hN htab H locs hP hO hS hqz ls hl
  obtain ⟨hx, hb, -, hml, hown, hts, -⟩ := id C0
  have hl : lv_has ls 5 [(0, .ref (ka_a G (22, 0, 0))), (1, .int v1), (2, .int v2), (3, .ref G.2.2.2)] := hl
  unfold kw_L_word at hq
  refine lv_aload_n hx hb dL_word_0 rfl (lv_at hl 3 rfl) ?_
  refine lv_iconst (v := 0) hx hb dL_word_1 (by decide) ?_
  refine lv_aload_n hx hb dL_word_2 rfl (lv_at hl 0 rfl) ?_
  refine lv_iload_n hx hb dL_word_3 rfl (lv_at hl 1 rfl) ?_
  refine lv_iload_n hx hb dL_word_4 rfl (lv_at hl 2 rfl) ?_
  refine kl_V (k := (22, 0, 0)) (As := [.int v1, .int v2]) (rest := [.int 0, .ref G.2.2.2]) C0 hK hT hP hO hS hqz hl (km_X8_word l hl0 hI hq) kd_X8_word kq_566 (kv_s (by decide) (by decide)) rfl rfl rfl ⟨rfl, rfl, Nat.le_of_ble_eq_true rfl, Nat.le_of_ble_eq_true rfl⟩ rfl (Nat.le_of_ble_eq_true rfl) dL_word_5 ⟨Nat.le_of_ble_eq_true rfl, Nat.le_of_ble_eq_true rfl⟩ (fun j ce q9 σ1 H locs hj hP hO hS hce hcv hcl => ?_) (fun r σ1 H locs hq hP hO hS => ?_)
  · match j, hj, hcl with
    | 0, hj, hcl =>
      refine vx_catch (own := "GlossRowsLaw") (name := ka_E 0) (E := ka_E 0) hown [⟨0, 10, 13, 28⟩] ⟨0, 10, 17, 13⟩ [] (by rw [htab]; rfl) (fun z hz => Or.inr (by obtain rfl := List.mem_singleton.mp hz; exact ⟨by decide, ka_E 2, hts _ kq_565, hN 0 (by decide) 2 (by decide) (by decide)⟩)) (by decide) (by decide) (hts _ kq_419) (va_Nw.use rfl (hT.2.2.1 (Cond.castable (ka_E 0) (ka_E 0)) (List.mem_of_getElem? (i := 0) rfl))) hce hcv hcl ?_
      refine lv_astore (lv' := [(4, .ref q9), (0, .ref (ka_a G (22, 0, 0))), (1, .int v1), (2, .int v2), (3, .ref G.2.2.2)]) hx hb dL_word_17 hl (by decide) rfl (fun ls hl => ?_)
      refine lv_iconst (v := 2) hx hb dL_word_19 (by decide) ?_
      exact kl_ret C0 hK hP hO hS.more hj dL_word_20 ⟨Nat.le_of_ble_eq_true rfl, Nat.le_of_ble_eq_true rfl⟩
    | 1, hj, hcl => exact absurd hj (fun h => h)
    | n + 2, hj, hcl =>
      refine vx_catch (own := "GlossRowsLaw") (name := ka_E 2) (E := ka_E 2) hown [] ⟨0, 10, 13, 28⟩ [⟨0, 10, 17, 13⟩] (by rw [htab]; rfl) (fun z hz => absurd hz List.not_mem_nil) (by decide) (by decide) (hts _ kq_565) (va_Nw.use rfl (hT.2.2.1 (Cond.castable (ka_E 2) (ka_E 2)) (List.mem_of_getElem? (i := 5) rfl))) hce hcv hcl ?_
      refine lv_astore (lv' := [(4, .ref q9), (0, .ref (ka_a G (22, 0, 0))), (1, .int v1), (2, .int v2), (3, .ref G.2.2.2)]) hx hb dL_word_13 hl (by decide) rfl (fun ls hl => ?_)
      refine lv_iconst (v := 1) hx hb dL_word_15 (by decide) ?_
      exact kl_ret C0 hK hP hO hS.more hj dL_word_16 ⟨Nat.le_of_ble_eq_true rfl, Nat.le_of_ble_eq_true rfl⟩
  · refine lv_i2l hx hb dL_word_8 rfl ?_
    refine kl_last C0 hK hI hP hO hS.more hQ dL_word_9 (fun H locs hP hO hS => ?_)
    refine lv_goto (tgt := 21) hx hb dL_word_10 (by decide) ?_
    refine lv_iconst (v := 0) hx hb dL_word_21 (by decide) ?_
    exact kl_ret C0 hK hP hO hS hq dL_word_22 ⟨Nat.le_of_ble_eq_true rfl, Nat.le_of_ble_eq_true rfl⟩
def kw_L_part (σ : ka_S) (v1 : Int32) (v2 : Int32) (v3 : Int32) (o : Int64) (Q : Int32 → ka_S → Int64 → Prop) : Prop := kw_X8_part σ v1 v2 v3 (fun r σ1 => Q 0 σ1 r.toInt64) (fun j σ1 => match j with | 0 => Q 2 σ1 o | 1 => False | _ => Q 1 σ1 o)
def rm_L_part : Room := { frames := 8, cells := 2, slots := 12, locals := 127 }
set_option maxHeartbeats 4000000 in
set_option maxRecDepth 100000 in
theorem km_L_part (l : Launch) (hl0 : l.stackTraces = false) {G : ka_G} (hI : ka_I G) (hQ : G.2.2.1 ≤ G.2.2.2) {σ : ka_S} {v1 : Int32} {v2 : Int32} {v3 : Int32} {o : Int64} {Q : Int32 → ka_S → Int64 → Prop} (hq : kw_L_part σ v1 v2 v3 o Q) : kc_L l yL_part (kw_W yL_part cL_part 6 [(0, 12, 15, 28), (0, 12, 19, 13)]) rm_L_part 2 12 G [.ref (ka_a G (22, 0, 0)), .int v1, .int v2, .int v3, .ref G.2.2.2] σ o Q := by
  refine kl_of rfl (by decide) (Nat.le_of_ble_eq_true rfl) hQ ?_
  intro p e s m below meth c C0 hK hT hN htab H locs hP hO hS hqz ls hl
  obtain ⟨hx, hb, -, hml, hown, hts, -⟩ := id C0
  have hl : lv_has ls 6 [(0, .ref (ka_a G (22, 0, 0))), (1, .int v1), (2, .int v2), (3, .int v3), (4, .ref G.2.2.2)] := hl
  unfold kw_L_part at hq
  refine lv_aload hx hb dL_part_0 (lv_at hl 4 rfl) ?_
  refine lv_iconst (v := 0) hx hb dL_part_2 (by decide) ?_
  refine lv_aload_n hx hb dL_part_3 rfl (lv_at hl 0 rfl) ?_
  refine lv_iload_n hx hb dL_part_4 rfl (lv_at hl 1 rfl) ?_
  refine lv_iload_n hx hb dL_part_5 rfl (lv_at hl 2 rfl) ?_
  refine lv_iload_n hx hb dL_part_6 rfl (lv_at hl 3 rfl) ?_
  refine kl_V (k := (22, 0, 0)) (As := [.int v1, .int v2, .int v3]) (rest := [.int 0, .ref G.2.2.2]) C0 hK hT hP hO hS hqz hl (km_X8_part l hl0 hI hq) kd_X8_part kq_600 (kv_s (by decide) (by decide)) rfl rfl rfl ⟨rfl, rfl, Nat.le_of_ble_eq_true rfl, Nat.le_of_ble_eq_true rfl⟩ rfl (Nat.le_of_ble_eq_true rfl) dL_part_7 ⟨Nat.le_of_ble_eq_true rfl, Nat.le_of_ble_eq_true rfl⟩ (fun j ce q9 σ1 H locs hj hP hO hS hce hcv hcl => ?_) (fun r σ1 H locs hq hP hO hS => ?_)
  · match j, hj, hcl with
    | 0, hj, hcl =>
      refine vx_catch (own := "GlossRowsLaw") (name := ka_E 0) (E := ka_E 0) hown [⟨0, 12, 15, 28⟩] ⟨0, 12, 19, 13⟩ [] (by rw [htab]; rfl) (fun z hz => Or.inr (by obtain rfl := List.mem_singleton.mp hz; exact ⟨by decide, ka_E 2, hts _ kq_565, hN 0 (by decide) 2 (by decide) (by decide)⟩)) (by decide) (by decide) (hts _ kq_419) (va_Nw.use rfl (hT.2.2.1 (Cond.castable (ka_E 0) (ka_E 0)) (List.mem_of_getElem? (i := 0) rfl))) hce hcv hcl ?_
      refine lv_astore (lv' := [(5, .ref q9), (0, .ref (ka_a G (22, 0, 0))), (1, .int v1), (2, .int v2), (3, .int v3), (4, .ref G.2.2.2)]) hx hb dL_part_19 hl (by decide) rfl (fun ls hl => ?_)
      refine lv_iconst (v := 2) hx hb dL_part_21 (by decide) ?_
      exact kl_ret C0 hK hP hO hS.more hj dL_part_22 ⟨Nat.le_of_ble_eq_true rfl, Nat.le_of_ble_eq_true rfl⟩
    | 1, hj, hcl => exact absurd hj (fun h => h)
    | n + 2, hj, hcl =>
      refine vx_catch (own := "GlossRowsLaw") (name := ka_E 2) (E := ka_E 2) hown [] ⟨0, 12, 15, 28⟩ [⟨0, 12, 19, 13⟩] (by rw [htab]; rfl) (fun z hz => absurd hz List.not_mem_nil) (by decide) (by decide) (hts _ kq_565) (va_Nw.use rfl (hT.2.2.1 (Cond.castable (ka_E 2) (ka_E 2)) (List.mem_of_getElem? (i := 5) rfl))) hce hcv hcl ?_
      refine lv_astore (lv' := [(5, .ref q9), (0, .ref (ka_a G (22, 0, 0))), (1, .int v1), (2, .int v2), (3, .int v3), (4, .ref G.2.2.2)]) hx hb dL_part_15 hl (by decide) rfl (fun ls hl => ?_)
      refine lv_iconst (v := 1) hx hb dL_part_17 (by decide) ?_
      exact kl_ret C0 hK hP hO hS.more hj dL_part_18 ⟨Nat.le_of_ble_eq_true rfl, Nat.le_of_ble_eq_true rfl⟩
  · refine lv_i2l hx hb dL_part_10 rfl ?_
    refine kl_last C0 hK hI hP hO hS.more hQ dL_part_11 (fun H locs hP hO hS => ?_)
    refine lv_goto (tgt := 23) hx hb dL_part_12 (by decide) ?_
    refine lv_iconst (v := 0) hx hb dL_part_23 (by decide) ?_
    exact kl_ret C0 hK hP hO hS hq dL_part_24 ⟨Nat.le_of_ble_eq_true rfl, Nat.le_of_ble_eq_true rfl⟩
def kw_L_letter (σ : ka_S) (v1 : Int32) (v2 : Int32) (v3 : Int32) (v4 : Int32) (o : Int64) (Q : Int32 → ka_S → Int64 → Prop) : Prop := kw_X8_letter σ v1 v2 v3 v4 (fun r σ1 => Q 0 σ1 r.toInt64) (fun j σ1 => match j with | 0 => Q 2 σ1 o | 1 => False | _ => Q 1 σ1 o)
def rm_L_letter : Room := { frames := 8, cells := 2, slots := 12, locals := 128 }
set_option maxHeartbeats 4000000 in
set_option maxRecDepth 100000 in
theorem km_L_letter (l : Launch) (hl0 : l.stackTraces = false) {G : ka_G} (hI : ka_I G) (hQ : G.2.2.1 ≤ G.2.2.2) {σ : ka_S} {v1 : Int32} {v2 : Int32} {v3 : Int32} {v4 : Int32} {o : Int64} {Q : Int32 → ka_S → Int64 → Prop} (hq : kw_L_letter σ v1 v2 v3 v4 o Q) : kc_L l yL_letter (kw_W yL_letter cL_letter 7 [(0, 14, 17, 28), (0, 14, 21, 13)]) rm_L_letter 2 12 G [.ref (ka_a G (22, 0, 0)), .int v1, .int v2, .int v3, .int v4, .ref G.2.2.2] σ o Q := by
  refine kl_of rfl (by decide) (Nat.le_of_ble_eq_true rfl) hQ ?_
  intro p e s m below meth c C0 hK hT hN htab H locs hP hO hS hqz ls hl
  obtain ⟨hx, hb, -, hml, hown, hts, -⟩ := id C0
  have hl : lv_has ls 7 [(0, .ref (ka_a G (22, 0, 0))), (1, .int v1), (2, .int v2), (3, .int v3), (4, .int v4), (5, .ref G.2.2.2)] := hl
  unfold kw_L_letter at hq
  refine lv_aload hx hb dL_letter_0 (lv_at hl 5 rfl) ?_
  refine lv_iconst (v := 0) hx hb dL_letter_2 (by decide) ?_
  refine lv_aload_n hx hb dL_letter_3 rfl (lv_at hl 0 rfl) ?_
  refine lv_iload_n hx hb dL_letter_4 rfl (lv_at hl 1 rfl) ?_
  refine lv_iload_n hx hb dL_letter_5 rfl (lv_at hl 2 rfl) ?_
  refine lv_iload_n hx hb dL_letter_6 rfl (lv_at hl 3 rfl) ?_
  refine lv_iload hx hb dL_letter_7 (lv_at hl 4 rfl) ?_
  refine kl_V (k := (22, 0, 0)) (As := [.int v1, .int v2, .int v3, .int v4]) (rest := [.int 0, .ref G.2.2.2]) C0 hK hT hP hO hS hqz hl (km_X8_letter l hl0 hI hq) kd_X8_letter kq_620 (kv_s (by decide) (by decide)) rfl rfl rfl ⟨rfl, rfl, Nat.le_of_ble_eq_true rfl, Nat.le_of_ble_eq_true rfl⟩ rfl (Nat.le_of_ble_eq_true rfl) dL_letter_9 ⟨Nat.le_of_ble_eq_true rfl, Nat.le_of_ble_eq_true rfl⟩ (fun j ce q9 σ1 H locs hj hP hO hS hce hcv hcl => ?_) (fun r σ1 H locs hq hP hO hS => ?_)
  · match j, hj, hcl with
    | 0, hj, hcl =>
      refine vx_catch (own := "GlossRowsLaw") (name := ka_E 0) (E := ka_E 0) hown [⟨0, 14, 17, 28⟩] ⟨0, 14, 21, 13⟩ [] (by rw [htab]; rfl) (fun z hz => Or.inr (by obtain rfl := List.mem_singleton.mp hz; exact ⟨by decide, ka_E 2, hts _ kq_565, hN 0 (by decide) 2 (by decide) (by decide)⟩)) (by decide) (by decide) (hts _ kq_419) (va_Nw.use rfl (hT.2.2.1 (Cond.castable (ka_E 0) (ka_E 0)) (List.mem_of_getElem? (i := 0) rfl))) hce hcv hcl ?_
      refine lv_astore (lv' := [(6, .ref q9), (0, .ref (ka_a G (22, 0, 0))), (1, .int v1), (2, .int v2), (3, .int v3), (4, .int v4), (5, .ref G.2.2.2)]) hx hb dL_letter_21 hl (by decide) rfl (fun ls hl => ?_)
      refine lv_iconst (v := 2) hx hb dL_letter_23 (by decide) ?_
      exact kl_ret C0 hK hP hO hS.more hj dL_letter_24 ⟨Nat.le_of_ble_eq_true rfl, Nat.le_of_ble_eq_true rfl⟩
    | 1, hj, hcl => exact absurd hj (fun h => h)
    | n + 2, hj, hcl =>
      refine vx_catch (own := "GlossRowsLaw") (name := ka_E 2) (E := ka_E 2) hown [] ⟨0, 14, 17, 28⟩ [⟨0, 14, 21, 13⟩] (by rw [htab]; rfl) (fun z hz => absurd hz List.not_mem_nil) (by decide) (by decide) (hts _ kq_565) (va_Nw.use rfl (hT.2.2.1 (Cond.castable (ka_E 2) (ka_E 2)) (List.mem_of_getElem? (i := 5) rfl))) hce hcv hcl ?_
      refine lv_astore (lv' := [(6, .ref q9), (0, .ref (ka_a G (22, 0, 0))), (1, .int v1), (2, .int v2), (3, .int v3), (4, .int v4), (5, .ref G.2.2.2)]) hx hb dL_letter_17 hl (by decide) rfl (fun ls hl => ?_)
      refine lv_iconst (v := 1) hx hb dL_letter_19 (by decide) ?_
      exact kl_ret C0 hK hP hO hS.more hj dL_letter_20 ⟨Nat.le_of_ble_eq_true rfl, Nat.le_of_ble_eq_true rfl⟩
  · refine lv_i2l hx hb dL_letter_12 rfl ?_
    refine kl_last C0 hK hI hP hO hS.more hQ dL_letter_13 (fun H locs hP hO hS => ?_)
    refine lv_goto (tgt := 25) hx hb dL_letter_14 (by decide) ?_
    refine lv_iconst (v := 0) hx hb dL_letter_25 (by decide) ?_
    exact kl_ret C0 hK hP hO hS hq dL_letter_26 ⟨Nat.le_of_ble_eq_true rfl, Nat.le_of_ble_eq_true rfl⟩
def kw_L_entry (σ : ka_S) (v1 : Int32) (v2 : Int32) (v3 : Int32) (o : Int64) (Q : Int32 → ka_S → Int64 → Prop) : Prop := kw_X8_entry σ v1 v2 v3 (fun r σ1 => Q 0 σ1 r.toInt64) (fun j σ1 => match j with | 0 => Q 2 σ1 o | 1 => False | _ => Q 1 σ1 o)
def rm_L_entry : Room := { frames := 8, cells := 2, slots := 12, locals := 126 }
set_option maxHeartbeats 4000000 in
set_option maxRecDepth 100000 in
theorem km_L_entry (l : Launch) (hl0 : l.stackTraces = false) {G : ka_G} (hI : ka_I G) (hQ : G.2.2.1 ≤ G.2.2.2) {σ : ka_S} {v1 : Int32} {v2 : Int32} {v3 : Int32} {o : Int64} {Q : Int32 → ka_S → Int64 → Prop} (hq : kw_L_entry σ v1 v2 v3 o Q) : kc_L l yL_entry (kw_W yL_entry cL_entry 6 [(0, 12, 15, 28), (0, 12, 19, 13)]) rm_L_entry 2 12 G [.ref (ka_a G (22, 0, 0)), .int v1, .int v2, .int v3, .ref G.2.2.2] σ o Q := by
  refine kl_of rfl (by decide) (Nat.le_of_ble_eq_true rfl) hQ ?_
  intro p e s m below meth c C0 hK hT hN htab H locs hP hO hS hqz ls hl
  obtain ⟨hx, hb, -, hml, hown, hts, -⟩ := id C0
  have hl : lv_has ls 6 [(0, .ref (ka_a G (22, 0, 0))), (1, .int v1), (2, .int v2), (3, .int v3), (4, .ref G.2.2.2)] := hl
  unfold kw_L_entry at hq
  refine lv_aload hx hb dL_entry_0 (lv_at hl 4 rfl) ?_
  refine lv_iconst (v := 0) hx hb dL_entry_2 (by decide) ?_
  refine lv_aload_n hx hb dL_entry_3 rfl (lv_at hl 0 rfl) ?_
  refine lv_iload_n hx hb dL_entry_4 rfl (lv_at hl 1 rfl) ?_
  refine lv_iload_n hx hb dL_entry_5 rfl (lv_at hl 2 rfl) ?_
  refine lv_iload_n hx hb dL_entry_6 rfl (lv_at hl 3 rfl) ?_
  refine kl_V (k := (22, 0, 0)) (As := [.int v1, .int v2, .int v3]) (rest := [.int 0, .ref G.2.2.2]) C0 hK hT hP hO hS hqz hl (km_X8_entry l hl0 hI hq) kd_X8_entry kq_635 (kv_s (by decide) (by decide)) rfl rfl rfl ⟨rfl, rfl, Nat.le_of_ble_eq_true rfl, Nat.le_of_ble_eq_true rfl⟩ rfl (Nat.le_of_ble_eq_true rfl) dL_entry_7 ⟨Nat.le_of_ble_eq_true rfl, Nat.le_of_ble_eq_true rfl⟩ (fun j ce q9 σ1 H locs hj hP hO hS hce hcv hcl => ?_) (fun r σ1 H locs hq hP hO hS => ?_)
  · match j, hj, hcl with
    | 0, hj, hcl =>
      refine vx_catch (own := "GlossRowsLaw") (name := ka_E 0) (E := ka_E 0) hown [⟨0, 12, 15, 28⟩] ⟨0, 12, 19, 13⟩ [] (by rw [htab]; rfl) (fun z hz => Or.inr (by obtain rfl := List.mem_singleton.mp hz; exact ⟨by decide, ka_E 2, hts _ kq_565, hN 0 (by decide) 2 (by decide) (by decide)⟩)) (by decide) (by decide) (hts _ kq_419) (va_Nw.use rfl (hT.2.2.1 (Cond.castable (ka_E 0) (ka_E 0)) (List.mem_of_getElem? (i := 0) rfl))) hce hcv hcl ?_
      refine lv_astore (lv' := [(5, .ref q9), (0, .ref (ka_a G (22, 0, 0))), (1, .int v1), (2, .int v2), (3, .int v3), (4, .ref G.2.2.2)]) hx hb dL_entry_19 hl (by decide) rfl (fun ls hl => ?_)
      refine lv_iconst (v := 2) hx hb dL_entry_21 (by decide) ?_
      exact kl_ret C0 hK hP hO hS.more hj dL_entry_22 ⟨Nat.le_of_ble_eq_true rfl, Nat.le_of_ble_eq_true rfl⟩
    | 1, hj, hcl => exact absurd hj (fun h => h)
    | n + 2, hj, hcl =>
      refine vx_catch (own := "GlossRowsLaw") (name := ka_E 2) (E := ka_E 2) hown [] ⟨0, 12, 15, 28⟩ [⟨0, 12, 19, 13⟩] (by rw [htab]; rfl) (fun z hz => absurd hz List.not_mem_nil) (by decide) (by decide) (hts _ kq_565) (va_Nw.use rfl (hT.2.2.1 (Cond.castable (ka_E 2) (ka_E 2)) (List.mem_of_getElem? (i := 5) rfl))) hce hcv hcl ?_
      refine lv_astore (lv' := [(5, .ref q9), (0, .ref (ka_a G (22, 0, 0))), (1, .int v1), (2, .int v2), (3, .int v3), (4, .ref G.2.2.2)]) hx hb dL_entry_15 hl (by decide) rfl (fun ls hl => ?_)
      refine lv_iconst (v := 1) hx hb dL_entry_17 (by decide) ?_
      exact kl_ret C0 hK hP hO hS.more hj dL_entry_18 ⟨Nat.le_of_ble_eq_true rfl, Nat.le_of_ble_eq_true rfl⟩
  · refine lv_i2l hx hb dL_entry_10 rfl ?_
    refine kl_last C0 hK hI hP hO hS.more hQ dL_entry_11 (fun H locs hP hO hS => ?_)
    refine lv_goto (tgt := 23) hx hb dL_entry_12 (by decide) ?_
    refine lv_iconst (v := 0) hx hb dL_entry_23 (by decide) ?_
    exact kl_ret C0 hK hP hO hS hq dL_entry_24 ⟨Nat.le_of_ble_eq_true rfl, Nat.le_of_ble_eq_true rfl⟩
def kw_L_row (σ : ka_S) (v1 : Int32) (v2 : Int32) (o : Int64) (Q : Int32 → ka_S → Int64 → Prop) : Prop := kw_X8_row σ v1 v2 (fun r σ1 => Q 0 σ1 r.toInt64) (fun j σ1 => match j with | 0 => Q 2 σ1 o | 1 => False | _ => Q 1 σ1 o)
def rm_L_row : Room := { frames := 8, cells := 2, slots := 12, locals := 179 }
set_option maxHeartbeats 4000000 in
set_option maxRecDepth 100000 in
theorem km_L_row (l : Launch) (hl0 : l.stackTraces = false) {G : ka_G} (hI : ka_I G) (hQ : G.2.2.1 ≤ G.2.2.2) {σ : ka_S} {v1 : Int32} {v2 : Int32} {o : Int64} {Q : Int32 → ka_S → Int64 → Prop} (hq : kw_L_row σ v1 v2 o Q) : kc_L l yL_row (kw_W yL_row cL_row 5 [(0, 10, 13, 28), (0, 10, 17, 13)]) rm_L_row 2 12 G [.ref (ka_a G (22, 0, 0)), .int v1, .int v2, .ref G.2.2.2] σ o Q := by
  refine kl_of rfl (by decide) (Nat.le_of_ble_eq_true rfl) hQ ?_
  intro p e s m below meth c C0 hK hT hN htab H locs hP hO hS hqz ls hl
  obtain ⟨hx, hb, -, hml, hown, hts, -⟩ := id C0
  have hl : lv_has ls 5 [(0, .ref (ka_a G (22, 0, 0))), (1, .int v1), (2, .int v2), (3, .ref G.2.2.2)] := hl
  unfold kw_L_row at hq
  refine lv_aload_n hx hb dL_row_0 rfl (lv_at hl 3 rfl) ?_
  refine lv_iconst (v := 0) hx hb dL_row_1 (by decide) ?_
  refine lv_aload_n hx hb dL_row_2 rfl (lv_at hl 0 rfl) ?_
  refine lv_iload_n hx hb dL_row_3 rfl (lv_at hl 1 rfl) ?_
  refine lv_iload_n hx hb dL_row_4 rfl (lv_at hl 2 rfl) ?_
  refine kl_V (k := (22, 0, 0)) (As := [.int v1, .int v2]) (rest := [.int 0, .ref G.2.2.2]) C0 hK hT hP hO hS hqz hl (km_X8_row l hl0 hI hq) kd_X8_row kq_647 (kv_s (by decide) (by decide)) rfl rfl rfl ⟨rfl, rfl, Nat.le_of_ble_eq_true rfl, Nat.le_of_ble_eq_true rfl⟩ rfl (Nat.le_of_ble_eq_true rfl) dL_row_5 ⟨Nat.le_of_ble_eq_true rfl, Nat.le_of_ble_eq_true rfl⟩ (fun j ce q9 σ1 H locs hj hP hO hS hce hcv hcl => ?_) (fun r σ1 H locs hq hP hO hS => ?_)
  · match j, hj, hcl with
    | 0, hj, hcl =>
      refine vx_catch (own := "GlossRowsLaw") (name := ka_E 0) (E := ka_E 0) hown [⟨0, 10, 13, 28⟩] ⟨0, 10, 17, 13⟩ [] (by rw [htab]; rfl) (fun z hz => Or.inr (by obtain rfl := List.mem_singleton.mp hz; exact ⟨by decide, ka_E 2, hts _ kq_565, hN 0 (by decide) 2 (by decide) (by decide)⟩)) (by decide) (by decide) (hts _ kq_419) (va_Nw.use rfl (hT.2.2.1 (Cond.castable (ka_E 0) (ka_E 0)) (List.mem_of_getElem? (i := 0) rfl))) hce hcv hcl ?_
      refine lv_astore (lv' := [(4, .ref q9), (0, .ref (ka_a G (22, 0, 0))), (1, .int v1), (2, .int v2), (3, .ref G.2.2.2)]) hx hb dL_row_17 hl (by decide) rfl (fun ls hl => ?_)
      refine lv_iconst (v := 2) hx hb dL_row_19 (by decide) ?_
      exact kl_ret C0 hK hP hO hS.more hj dL_row_20 ⟨Nat.le_of_ble_eq_true rfl, Nat.le_of_ble_eq_true rfl⟩
    | 1, hj, hcl => exact absurd hj (fun h => h)
    | n + 2, hj, hcl =>
      refine vx_catch (own := "GlossRowsLaw") (name := ka_E 2) (E := ka_E 2) hown [] ⟨0, 10, 13, 28⟩ [⟨0, 10, 17, 13⟩] (by rw [htab]; rfl) (fun z hz => absurd hz List.not_mem_nil) (by decide) (by decide) (hts _ kq_565) (va_Nw.use rfl (hT.2.2.1 (Cond.castable (ka_E 2) (ka_E 2)) (List.mem_of_getElem? (i := 5) rfl))) hce hcv hcl ?_
      refine lv_astore (lv' := [(4, .ref q9), (0, .ref (ka_a G (22, 0, 0))), (1, .int v1), (2, .int v2), (3, .ref G.2.2.2)]) hx hb dL_row_13 hl (by decide) rfl (fun ls hl => ?_)
      refine lv_iconst (v := 1) hx hb dL_row_15 (by decide) ?_
      exact kl_ret C0 hK hP hO hS.more hj dL_row_16 ⟨Nat.le_of_ble_eq_true rfl, Nat.le_of_ble_eq_true rfl⟩
  · refine lv_i2l hx hb dL_row_8 rfl ?_
    refine kl_last C0 hK hI hP hO hS.more hQ dL_row_9 (fun H locs hP hO hS => ?_)
    refine lv_goto (tgt := 21) hx hb dL_row_10 (by decide) ?_
    refine lv_iconst (v := 0) hx hb dL_row_21 (by decide) ?_
    exact kl_ret C0 hK hP hO hS hq dL_row_22 ⟨Nat.le_of_ble_eq_true rfl, Nat.le_of_ble_eq_true rfl⟩
def kw_L_at (σ : ka_S) (v1 : Int32) (v2 : Int32) (o : Int64) (Q : Int32 → ka_S → Int64 → Prop) : Prop := kw_X8_at σ v1 v2 (fun r σ1 => Q 0 σ1 r.toInt64) (fun j σ1 => match j with | 0 => Q 2 σ1 o | 1 => False | _ => Q 1 σ1 o)
def rm_L_at : Room := { frames := 8, cells := 2, slots := 12, locals := 179 }
set_option maxHeartbeats 4000000 in
set_option maxRecDepth 100000 in
theorem km_L_at (l : Launch) (hl0 : l.stackTraces = false) {G : ka_G} (hI : ka_I G) (hQ : G.2.2.1 ≤ G.2.2.2) {σ : ka_S} {v1 : Int32} {v2 : Int32} {o : Int64} {Q : Int32 → ka_S → Int64 → Prop} (hq : kw_L_at σ v1 v2 o Q) : kc_L l yL_at (kw_W yL_at cL_at 5 [(0, 10, 13, 28), (0, 10, 17, 13)]) rm_L_at 2 12 G [.ref (ka_a G (22, 0, 0)), .int v1, .int v2, .ref G.2.2.2] σ o Q := by
  refine kl_of rfl (by decide) (Nat.le_of_ble_eq_true rfl) hQ ?_
  intro p e s m below meth c C0 hK hT hN htab H locs hP hO hS hqz ls hl
  obtain ⟨hx, hb, -, hml, hown, hts, -⟩ := id C0
  have hl : lv_has ls 5 [(0, .ref (ka_a G (22, 0, 0))), (1, .int v1), (2, .int v2), (3, .ref G.2.2.2)] := hl
  unfold kw_L_at at hq
  refine lv_aload_n hx hb dL_at_0 rfl (lv_at hl 3 rfl) ?_
  refine lv_iconst (v := 0) hx hb dL_at_1 (by decide) ?_
  refine lv_aload_n hx hb dL_at_2 rfl (lv_at hl 0 rfl) ?_
  refine lv_iload_n hx hb dL_at_3 rfl (lv_at hl 1 rfl) ?_
  refine lv_iload_n hx hb dL_at_4 rfl (lv_at hl 2 rfl) ?_
  refine kl_V (k := (22, 0, 0)) (As := [.int v1, .int v2]) (rest := [.int 0, .ref G.2.2.2]) C0 hK hT hP hO hS hqz hl (km_X8_at l hl0 hI hq) kd_X8_at kq_684 (kv_s (by decide) (by decide)) rfl rfl rfl ⟨rfl, rfl, Nat.le_of_ble_eq_true rfl, Nat.le_of_ble_eq_true rfl⟩ rfl (Nat.le_of_ble_eq_true rfl) dL_at_5 ⟨Nat.le_of_ble_eq_true rfl, Nat.le_of_ble_eq_true rfl⟩ (fun j ce q9 σ1 H locs hj hP hO hS hce hcv hcl => ?_) (fun r σ1 H locs hq hP hO hS => ?_)
  · match j, hj, hcl with
    | 0, hj, hcl =>
      refine vx_catch (own := "GlossRowsLaw") (name := ka_E 0) (E := ka_E 0) hown [⟨0, 10, 13, 28⟩] ⟨0, 10, 17, 13⟩ [] (by rw [htab]; rfl) (fun z hz => Or.inr (by obtain rfl := List.mem_singleton.mp hz; exact ⟨by decide, ka_E 2, hts _ kq_565, hN 0 (by decide) 2 (by decide) (by decide)⟩)) (by decide) (by decide) (hts _ kq_419) (va_Nw.use rfl (hT.2.2.1 (Cond.castable (ka_E 0) (ka_E 0)) (List.mem_of_getElem? (i := 0) rfl))) hce hcv hcl ?_
      refine lv_astore (lv' := [(4, .ref q9), (0, .ref (ka_a G (22, 0, 0))), (1, .int v1), (2, .int v2), (3, .ref G.2.2.2)]) hx hb dL_at_17 hl (by decide) rfl (fun ls hl => ?_)
      refine lv_iconst (v := 2) hx hb dL_at_19 (by decide) ?_
      exact kl_ret C0 hK hP hO hS.more hj dL_at_20 ⟨Nat.le_of_ble_eq_true rfl, Nat.le_of_ble_eq_true rfl⟩
    | 1, hj, hcl => exact absurd hj (fun h => h)
    | n + 2, hj, hcl =>
      refine vx_catch (own := "GlossRowsLaw") (name := ka_E 2) (E := ka_E 2) hown [] ⟨0, 10, 13, 28⟩ [⟨0, 10, 17, 13⟩] (by rw [htab]; rfl) (fun z hz => absurd hz List.not_mem_nil) (by decide) (by decide) (hts _ kq_565) (va_Nw.use rfl (hT.2.2.1 (Cond.castable (ka_E 2) (ka_E 2)) (List.mem_of_getElem? (i := 5) rfl))) hce hcv hcl ?_
      refine lv_astore (lv' := [(4, .ref q9), (0, .ref (ka_a G (22, 0, 0))), (1, .int v1), (2, .int v2), (3, .ref G.2.2.2)]) hx hb dL_at_13 hl (by decide) rfl (fun ls hl => ?_)
      refine lv_iconst (v := 1) hx hb dL_at_15 (by decide) ?_
      exact kl_ret C0 hK hP hO hS.more hj dL_at_16 ⟨Nat.le_of_ble_eq_true rfl, Nat.le_of_ble_eq_true rfl⟩
  · refine lv_i2l hx hb dL_at_8 rfl ?_
    refine kl_last C0 hK hI hP hO hS.more hQ dL_at_9 (fun H locs hP hO hS => ?_)
    refine lv_goto (tgt := 21) hx hb dL_at_10 (by decide) ?_
    refine lv_iconst (v := 0) hx hb dL_at_21 (by decide) ?_
    exact kl_ret C0 hK hP hO hS hq dL_at_22 ⟨Nat.le_of_ble_eq_true rfl, Nat.le_of_ble_eq_true rfl⟩
def kw_L_insert (σ : ka_S) (v1 : Int32) (o : Int64) (Q : Int32 → ka_S → Int64 → Prop) : Prop := kw_X8_insert σ v1 (fun r σ1 => Q 0 σ1 r.toInt64) (fun j σ1 => match j with | 0 => False | 1 => Q 2 σ1 o | _ => Q 1 σ1 o)
def rm_L_insert : Room := { frames := 7, cells := 1, slots := 6, locals := 145 }
set_option maxHeartbeats 4000000 in
set_option maxRecDepth 100000 in
theorem km_L_insert (l : Launch) (hl0 : l.stackTraces = false) {G : ka_G} (hI : ka_I G) (hQ : G.2.2.1 ≤ G.2.2.2) {σ : ka_S} {v1 : Int32} {o : Int64} {Q : Int32 → ka_S → Int64 → Prop} (hq : kw_L_insert σ v1 o Q) : kc_L l yL_insert (kw_W yL_insert cL_insert 4 [(0, 9, 12, 28), (0, 9, 15, 15)]) rm_L_insert 1 6 G [.ref (ka_a G (22, 0, 0)), .int v1, .ref G.2.2.2] σ o Q := by
  refine kl_of rfl (by decide) (Nat.le_of_ble_eq_true rfl) hQ ?_
  intro p e s m below meth c C0 hK hT hN htab H locs hP hO hS hqz ls hl
  obtain ⟨hx, hb, -, hml, hown, hts, -⟩ := id C0
  have hl : lv_has ls 4 [(0, .ref (ka_a G (22, 0, 0))), (1, .int v1), (2, .ref G.2.2.2)] := hl
  unfold kw_L_insert at hq
  refine lv_aload_n hx hb dL_insert_0 rfl (lv_at hl 2 rfl) ?_
  refine lv_iconst (v := 0) hx hb dL_insert_1 (by decide) ?_
  refine lv_aload_n hx hb dL_insert_2 rfl (lv_at hl 0 rfl) ?_
  refine lv_iload_n hx hb dL_insert_3 rfl (lv_at hl 1 rfl) ?_
  refine kl_V (k := (22, 0, 0)) (As := [.int v1]) (rest := [.int 0, .ref G.2.2.2]) C0 hK hT hP hO hS hqz hl (km_X8_insert l hl0 hI hq) kd_X8_insert kq_705 (kv_s (by decide) (by decide)) rfl rfl rfl ⟨rfl, rfl, Nat.le_of_ble_eq_true rfl, Nat.le_of_ble_eq_true rfl⟩ rfl (Nat.le_of_ble_eq_true rfl) dL_insert_4 ⟨Nat.le_of_ble_eq_true rfl, Nat.le_of_ble_eq_true rfl⟩ (fun j ce q9 σ1 H locs hj hP hO hS hce hcv hcl => ?_) (fun r σ1 H locs hq hP hO hS => ?_)
  · match j, hj, hcl with
    | 0, hj, hcl => exact absurd hj (fun h => h)
    | 1, hj, hcl =>
      refine vx_catch (own := "GlossRowsLaw") (name := ka_E 1) (E := ka_E 1) hown [⟨0, 9, 12, 28⟩] ⟨0, 9, 15, 15⟩ [] (by rw [htab]; rfl) (fun z hz => Or.inr (by obtain rfl := List.mem_singleton.mp hz; exact ⟨by decide, ka_E 2, hts _ kq_565, hN 1 (by decide) 2 (by decide) (by decide)⟩)) (by decide) (by decide) (hts _ kq_420) (va_Nw.use rfl (hT.2.2.1 (Cond.castable (ka_E 1) (ka_E 1)) (List.mem_of_getElem? (i := 4) rfl))) hce hcv hcl ?_
      refine lv_astore_n (lv' := [(3, .ref q9), (0, .ref (ka_a G (22, 0, 0))), (1, .int v1), (2, .ref G.2.2.2)]) hx hb dL_insert_15 rfl hl (by decide) rfl (fun ls hl => ?_)
      refine lv_iconst (v := 2) hx hb dL_insert_16 (by decide) ?_
      exact kl_ret C0 hK hP hO hS.more hj dL_insert_17 ⟨Nat.le_of_ble_eq_true rfl, Nat.le_of_ble_eq_true rfl⟩
    | n + 2, hj, hcl =>
      refine vx_catch (own := "GlossRowsLaw") (name := ka_E 2) (E := ka_E 2) hown [] ⟨0, 9, 12, 28⟩ [⟨0, 9, 15, 15⟩] (by rw [htab]; rfl) (fun z hz => absurd hz List.not_mem_nil) (by decide) (by decide) (hts _ kq_565) (va_Nw.use rfl (hT.2.2.1 (Cond.castable (ka_E 2) (ka_E 2)) (List.mem_of_getElem? (i := 5) rfl))) hce hcv hcl ?_
      refine lv_astore_n (lv' := [(3, .ref q9), (0, .ref (ka_a G (22, 0, 0))), (1, .int v1), (2, .ref G.2.2.2)]) hx hb dL_insert_12 rfl hl (by decide) rfl (fun ls hl => ?_)
      refine lv_iconst (v := 1) hx hb dL_insert_13 (by decide) ?_
      exact kl_ret C0 hK hP hO hS.more hj dL_insert_14 ⟨Nat.le_of_ble_eq_true rfl, Nat.le_of_ble_eq_true rfl⟩
  · refine lv_i2l hx hb dL_insert_7 rfl ?_
    refine kl_last C0 hK hI hP hO hS.more hQ dL_insert_8 (fun H locs hP hO hS => ?_)
    refine lv_goto (tgt := 18) hx hb dL_insert_9 (by decide) ?_
    refine lv_iconst (v := 0) hx hb dL_insert_18 (by decide) ?_
    exact kl_ret C0 hK hP hO hS hq dL_insert_19 ⟨Nat.le_of_ble_eq_true rfl, Nat.le_of_ble_eq_true rfl⟩
def kw_L_remove (σ : ka_S) (v1 : Int32) (o : Int64) (Q : Int32 → ka_S → Int64 → Prop) : Prop := kw_X8_remove σ v1 (fun r σ1 => Q 0 σ1 r.toInt64) (fun j σ1 => match j with | 0 => False | 1 => False | _ => Q 1 σ1 o)
def rm_L_remove : Room := { frames := 8, cells := 1, slots := 6, locals := 124 }
set_option maxHeartbeats 4000000 in
set_option maxRecDepth 100000 in
theorem km_L_remove (l : Launch) (hl0 : l.stackTraces = false) {G : ka_G} (hI : ka_I G) (hQ : G.2.2.1 ≤ G.2.2.2) {σ : ka_S} {v1 : Int32} {o : Int64} {Q : Int32 → ka_S → Int64 → Prop} (hq : kw_L_remove σ v1 o Q) : kc_L l yL_remove (kw_W yL_remove cL_remove 4 [(0, 9, 12, 28)]) rm_L_remove 1 6 G [.ref (ka_a G (22, 0, 0)), .int v1, .ref G.2.2.2] σ o Q := by
  refine kl_of rfl (by decide) (Nat.le_of_ble_eq_true rfl) hQ ?_
  intro p e s m below meth c C0 hK hT hN htab H locs hP hO hS hqz ls hl
  obtain ⟨hx, hb, -, hml, hown, hts, -⟩ := id C0
  have hl : lv_has ls 4 [(0, .ref (ka_a G (22, 0, 0))), (1, .int v1), (2, .ref G.2.2.2)] := hl
  unfold kw_L_remove at hq
  refine lv_aload_n hx hb dL_remove_0 rfl (lv_at hl 2 rfl) ?_
  refine lv_iconst (v := 0) hx hb dL_remove_1 (by decide) ?_
  refine lv_aload_n hx hb dL_remove_2 rfl (lv_at hl 0 rfl) ?_
  refine lv_iload_n hx hb dL_remove_3 rfl (lv_at hl 1 rfl) ?_
  refine kl_V (k := (22, 0, 0)) (As := [.int v1]) (rest := [.int 0, .ref G.2.2.2]) C0 hK hT hP hO hS hqz hl (km_X8_remove l hl0 hI hq) kd_X8_remove kq_714 (kv_s (by decide) (by decide)) rfl rfl rfl ⟨rfl, rfl, Nat.le_of_ble_eq_true rfl, Nat.le_of_ble_eq_true rfl⟩ rfl (Nat.le_of_ble_eq_true rfl) dL_remove_4 ⟨Nat.le_of_ble_eq_true rfl, Nat.le_of_ble_eq_true rfl⟩ (fun j ce q9 σ1 H locs hj hP hO hS hce hcv hcl => ?_) (fun r σ1 H locs hq hP hO hS => ?_)
  · match j, hj, hcl with
    | 0, hj, hcl => exact absurd hj (fun h => h)
    | 1, hj, hcl => exact absurd hj (fun h => h)
    | n + 2, hj, hcl =>
      refine vx_catch (own := "GlossRowsLaw") (name := ka_E 2) (E := ka_E 2) hown [] ⟨0, 9, 12, 28⟩ [] (by rw [htab]; rfl) (fun z hz => absurd hz List.not_mem_nil) (by decide) (by decide) (hts _ kq_565) (va_Nw.use rfl (hT.2.2.1 (Cond.castable (ka_E 2) (ka_E 2)) (List.mem_of_getElem? (i := 5) rfl))) hce hcv hcl ?_
      refine lv_astore_n (lv' := [(3, .ref q9), (0, .ref (ka_a G (22, 0, 0))), (1, .int v1), (2, .ref G.2.2.2)]) hx hb dL_remove_12 rfl hl (by decide) rfl (fun ls hl => ?_)
      refine lv_iconst (v := 1) hx hb dL_remove_13 (by decide) ?_
      exact kl_ret C0 hK hP hO hS.more hj dL_remove_14 ⟨Nat.le_of_ble_eq_true rfl, Nat.le_of_ble_eq_true rfl⟩
  · refine lv_i2l hx hb dL_remove_7 rfl ?_
    refine kl_last C0 hK hI hP hO hS.more hQ dL_remove_8 (fun H locs hP hO hS => ?_)
    refine lv_goto (tgt := 15) hx hb dL_remove_9 (by decide) ?_
    refine lv_iconst (v := 0) hx hb dL_remove_15 (by decide) ?_
    exact kl_ret C0 hK hP hO hS hq dL_remove_16 ⟨Nat.le_of_ble_eq_true rfl, Nat.le_of_ble_eq_true rfl⟩
def kw_L_end (σ : ka_S) (v1 : Int32) (o : Int64) (Q : Int32 → ka_S → Int64 → Prop) : Prop := kw_X8_end σ v1 (fun r σ1 => Q 0 σ1 r.toInt64) (fun j σ1 => match j with | 0 => False | 1 => False | _ => Q 1 σ1 o)
def rm_L_end : Room := { frames := 8, cells := 1, slots := 6, locals := 124 }
set_option maxHeartbeats 4000000 in
set_option maxRecDepth 100000 in
theorem km_L_end (l : Launch) (hl0 : l.stackTraces = false) {G : ka_G} (hI : ka_I G) (hQ : G.2.2.1 ≤ G.2.2.2) {σ : ka_S} {v1 : Int32} {o : Int64} {Q : Int32 → ka_S → Int64 → Prop} (hq : kw_L_end σ v1 o Q) : kc_L l yL_end (kw_W yL_end cL_end 4 [(0, 9, 12, 28)]) rm_L_end 1 6 G [.ref (ka_a G (22, 0, 0)), .int v1, .ref G.2.2.2] σ o Q := by
  refine kl_of rfl (by decide) (Nat.le_of_ble_eq_true rfl) hQ ?_
  intro p e s m below meth c C0 hK hT hN htab H locs hP hO hS hqz ls hl
  obtain ⟨hx, hb, -, hml, hown, hts, -⟩ := id C0
  have hl : lv_has ls 4 [(0, .ref (ka_a G (22, 0, 0))), (1, .int v1), (2, .ref G.2.2.2)] := hl
  unfold kw_L_end at hq
  refine lv_aload_n hx hb dL_end_0 rfl (lv_at hl 2 rfl) ?_
  refine lv_iconst (v := 0) hx hb dL_end_1 (by decide) ?_
  refine lv_aload_n hx hb dL_end_2 rfl (lv_at hl 0 rfl) ?_
  refine lv_iload_n hx hb dL_end_3 rfl (lv_at hl 1 rfl) ?_
  refine kl_V (k := (22, 0, 0)) (As := [.int v1]) (rest := [.int 0, .ref G.2.2.2]) C0 hK hT hP hO hS hqz hl (km_X8_end l hl0 hI hq) kd_X8_end kq_725 (kv_s (by decide) (by decide)) rfl rfl rfl ⟨rfl, rfl, Nat.le_of_ble_eq_true rfl, Nat.le_of_ble_eq_true rfl⟩ rfl (Nat.le_of_ble_eq_true rfl) dL_end_4 ⟨Nat.le_of_ble_eq_true rfl, Nat.le_of_ble_eq_true rfl⟩ (fun j ce q9 σ1 H locs hj hP hO hS hce hcv hcl => ?_) (fun r σ1 H locs hq hP hO hS => ?_)
  · match j, hj, hcl with
    | 0, hj, hcl => exact absurd hj (fun h => h)
    | 1, hj, hcl => exact absurd hj (fun h => h)
    | n + 2, hj, hcl =>
      refine vx_catch (own := "GlossRowsLaw") (name := ka_E 2) (E := ka_E 2) hown [] ⟨0, 9, 12, 28⟩ [] (by rw [htab]; rfl) (fun z hz => absurd hz List.not_mem_nil) (by decide) (by decide) (hts _ kq_565) (va_Nw.use rfl (hT.2.2.1 (Cond.castable (ka_E 2) (ka_E 2)) (List.mem_of_getElem? (i := 5) rfl))) hce hcv hcl ?_
      refine lv_astore_n (lv' := [(3, .ref q9), (0, .ref (ka_a G (22, 0, 0))), (1, .int v1), (2, .ref G.2.2.2)]) hx hb dL_end_12 rfl hl (by decide) rfl (fun ls hl => ?_)
      refine lv_iconst (v := 1) hx hb dL_end_13 (by decide) ?_
      exact kl_ret C0 hK hP hO hS.more hj dL_end_14 ⟨Nat.le_of_ble_eq_true rfl, Nat.le_of_ble_eq_true rfl⟩
  · refine lv_i2l hx hb dL_end_7 rfl ?_
    refine kl_last C0 hK hI hP hO hS.more hQ dL_end_8 (fun H locs hP hO hS => ?_)
    refine lv_goto (tgt := 15) hx hb dL_end_9 (by decide) ?_
    refine lv_iconst (v := 0) hx hb dL_end_15 (by decide) ?_
    exact kl_ret C0 hK hP hO hS hq dL_end_16 ⟨Nat.le_of_ble_eq_true rfl, Nat.le_of_ble_eq_true rfl⟩
def kw_L_join (σ : ka_S) (v1 : Int32) (o : Int64) (Q : Int32 → ka_S → Int64 → Prop) : Prop := kw_X8_join σ v1 (fun r σ1 => Q 0 σ1 r.toInt64) (fun j σ1 => match j with | 0 => False | 1 => False | _ => Q 1 σ1 o)
def rm_L_join : Room := { frames := 8, cells := 1, slots := 6, locals := 124 }
set_option maxHeartbeats 4000000 in
set_option maxRecDepth 100000 in
theorem km_L_join (l : Launch) (hl0 : l.stackTraces = false) {G : ka_G} (hI : ka_I G) (hQ : G.2.2.1 ≤ G.2.2.2) {σ : ka_S} {v1 : Int32} {o : Int64} {Q : Int32 → ka_S → Int64 → Prop} (hq : kw_L_join σ v1 o Q) : kc_L l yL_join (kw_W yL_join cL_join 4 [(0, 9, 12, 28)]) rm_L_join 1 6 G [.ref (ka_a G (22, 0, 0)), .int v1, .ref G.2.2.2] σ o Q := by
  refine kl_of rfl (by decide) (Nat.le_of_ble_eq_true rfl) hQ ?_
  intro p e s m below meth c C0 hK hT hN htab H locs hP hO hS hqz ls hl
  obtain ⟨hx, hb, -, hml, hown, hts, -⟩ := id C0
  have hl : lv_has ls 4 [(0, .ref (ka_a G (22, 0, 0))), (1, .int v1), (2, .ref G.2.2.2)] := hl
  unfold kw_L_join at hq
  refine lv_aload_n hx hb dL_join_0 rfl (lv_at hl 2 rfl) ?_
  refine lv_iconst (v := 0) hx hb dL_join_1 (by decide) ?_
  refine lv_aload_n hx hb dL_join_2 rfl (lv_at hl 0 rfl) ?_
  refine lv_iload_n hx hb dL_join_3 rfl (lv_at hl 1 rfl) ?_
  refine kl_V (k := (22, 0, 0)) (As := [.int v1]) (rest := [.int 0, .ref G.2.2.2]) C0 hK hT hP hO hS hqz hl (km_X8_join l hl0 hI hq) kd_X8_join kq_732 (kv_s (by decide) (by decide)) rfl rfl rfl ⟨rfl, rfl, Nat.le_of_ble_eq_true rfl, Nat.le_of_ble_eq_true rfl⟩ rfl (Nat.le_of_ble_eq_true rfl) dL_join_4 ⟨Nat.le_of_ble_eq_true rfl, Nat.le_of_ble_eq_true rfl⟩ (fun j ce q9 σ1 H locs hj hP hO hS hce hcv hcl => ?_) (fun r σ1 H locs hq hP hO hS => ?_)
  · match j, hj, hcl with
    | 0, hj, hcl => exact absurd hj (fun h => h)
    | 1, hj, hcl => exact absurd hj (fun h => h)
    | n + 2, hj, hcl =>
      refine vx_catch (own := "GlossRowsLaw") (name := ka_E 2) (E := ka_E 2) hown [] ⟨0, 9, 12, 28⟩ [] (by rw [htab]; rfl) (fun z hz => absurd hz List.not_mem_nil) (by decide) (by decide) (hts _ kq_565) (va_Nw.use rfl (hT.2.2.1 (Cond.castable (ka_E 2) (ka_E 2)) (List.mem_of_getElem? (i := 5) rfl))) hce hcv hcl ?_
      refine lv_astore_n (lv' := [(3, .ref q9), (0, .ref (ka_a G (22, 0, 0))), (1, .int v1), (2, .ref G.2.2.2)]) hx hb dL_join_12 rfl hl (by decide) rfl (fun ls hl => ?_)
      refine lv_iconst (v := 1) hx hb dL_join_13 (by decide) ?_
      exact kl_ret C0 hK hP hO hS.more hj dL_join_14 ⟨Nat.le_of_ble_eq_true rfl, Nat.le_of_ble_eq_true rfl⟩
  · refine lv_i2l hx hb dL_join_7 rfl ?_
    refine kl_last C0 hK hI hP hO hS.more hQ dL_join_8 (fun H locs hP hO hS => ?_)
    refine lv_goto (tgt := 15) hx hb dL_join_9 (by decide) ?_
    refine lv_iconst (v := 0) hx hb dL_join_15 (by decide) ?_
    exact kl_ret C0 hK hP hO hS hq dL_join_16 ⟨Nat.le_of_ble_eq_true rfl, Nat.le_of_ble_eq_true rfl⟩
def kw_L_setFree (σ : ka_S) (v1 : Int32) (o : Int64) (Q : Int32 → ka_S → Int64 → Prop) : Prop := kw_X8_setFree σ v1 (fun r σ1 => Q 0 σ1 r.toInt64) (fun j σ1 => match j with | 0 => False | 1 => Q 2 σ1 o | _ => Q 1 σ1 o)
def rm_L_setFree : Room := { frames := 8, cells := 2, slots := 12, locals := 124 }
set_option maxHeartbeats 4000000 in
set_option maxRecDepth 100000 in
theorem km_L_setFree (l : Launch) (hl0 : l.stackTraces = false) {G : ka_G} (hI : ka_I G) (hQ : G.2.2.1 ≤ G.2.2.2) {σ : ka_S} {v1 : Int32} {o : Int64} {Q : Int32 → ka_S → Int64 → Prop} (hq : kw_L_setFree σ v1 o Q) : kc_L l yL_setFree (kw_W yL_setFree cL_setFree 4 [(0, 9, 12, 28), (0, 9, 15, 15)]) rm_L_setFree 2 12 G [.ref (ka_a G (22, 0, 0)), .int v1, .ref G.2.2.2] σ o Q := by
  refine kl_of rfl (by decide) (Nat.le_of_ble_eq_true rfl) hQ ?_
  intro p e s m below meth c C0 hK hT hN htab H locs hP hO hS hqz ls hl
  obtain ⟨hx, hb, -, hml, hown, hts, -⟩ := id C0
  have hl : lv_has ls 4 [(0, .ref (ka_a G (22, 0, 0))), (1, .int v1), (2, .ref G.2.2.2)] := hl
  unfold kw_L_setFree at hq
  refine lv_aload_n hx hb dL_setFree_0 rfl (lv_at hl 2 rfl) ?_
  refine lv_iconst (v := 0) hx hb dL_setFree_1 (by decide) ?_
  refine lv_aload_n hx hb dL_setFree_2 rfl (lv_at hl 0 rfl) ?_
  refine lv_iload_n hx hb dL_setFree_3 rfl (lv_at hl 1 rfl) ?_
  refine kl_V (k := (22, 0, 0)) (As := [.int v1]) (rest := [.int 0, .ref G.2.2.2]) C0 hK hT hP hO hS hqz hl (km_X8_setFree l hl0 hI hq) kd_X8_setFree kq_743 (kv_s (by decide) (by decide)) rfl rfl rfl ⟨rfl, rfl, Nat.le_of_ble_eq_true rfl, Nat.le_of_ble_eq_true rfl⟩ rfl (Nat.le_of_ble_eq_true rfl) dL_setFree_4 ⟨Nat.le_of_ble_eq_true rfl, Nat.le_of_ble_eq_true rfl⟩ (fun j ce q9 σ1 H locs hj hP hO hS hce hcv hcl => ?_) (fun r σ1 H locs hq hP hO hS => ?_)
  · match j, hj, hcl with
    | 0, hj, hcl => exact absurd hj (fun h => h)
    | 1, hj, hcl =>
      refine vx_catch (own := "GlossRowsLaw") (name := ka_E 1) (E := ka_E 1) hown [⟨0, 9, 12, 28⟩] ⟨0, 9, 15, 15⟩ [] (by rw [htab]; rfl) (fun z hz => Or.inr (by obtain rfl := List.mem_singleton.mp hz; exact ⟨by decide, ka_E 2, hts _ kq_565, hN 1 (by decide) 2 (by decide) (by decide)⟩)) (by decide) (by decide) (hts _ kq_420) (va_Nw.use rfl (hT.2.2.1 (Cond.castable (ka_E 1) (ka_E 1)) (List.mem_of_getElem? (i := 4) rfl))) hce hcv hcl ?_
      refine lv_astore_n (lv' := [(3, .ref q9), (0, .ref (ka_a G (22, 0, 0))), (1, .int v1), (2, .ref G.2.2.2)]) hx hb dL_setFree_15 rfl hl (by decide) rfl (fun ls hl => ?_)
      refine lv_iconst (v := 2) hx hb dL_setFree_16 (by decide) ?_
      exact kl_ret C0 hK hP hO hS.more hj dL_setFree_17 ⟨Nat.le_of_ble_eq_true rfl, Nat.le_of_ble_eq_true rfl⟩
    | n + 2, hj, hcl =>
      refine vx_catch (own := "GlossRowsLaw") (name := ka_E 2) (E := ka_E 2) hown [] ⟨0, 9, 12, 28⟩ [⟨0, 9, 15, 15⟩] (by rw [htab]; rfl) (fun z hz => absurd hz List.not_mem_nil) (by decide) (by decide) (hts _ kq_565) (va_Nw.use rfl (hT.2.2.1 (Cond.castable (ka_E 2) (ka_E 2)) (List.mem_of_getElem? (i := 5) rfl))) hce hcv hcl ?_
      refine lv_astore_n (lv' := [(3, .ref q9), (0, .ref (ka_a G (22, 0, 0))), (1, .int v1), (2, .ref G.2.2.2)]) hx hb dL_setFree_12 rfl hl (by decide) rfl (fun ls hl => ?_)
      refine lv_iconst (v := 1) hx hb dL_setFree_13 (by decide) ?_
      exact kl_ret C0 hK hP hO hS.more hj dL_setFree_14 ⟨Nat.le_of_ble_eq_true rfl, Nat.le_of_ble_eq_true rfl⟩
  · refine lv_i2l hx hb dL_setFree_7 rfl ?_
    refine kl_last C0 hK hI hP hO hS.more hQ dL_setFree_8 (fun H locs hP hO hS => ?_)
    refine lv_goto (tgt := 18) hx hb dL_setFree_9 (by decide) ?_
    refine lv_iconst (v := 0) hx hb dL_setFree_18 (by decide) ?_
    exact kl_ret C0 hK hP hO hS hq dL_setFree_19 ⟨Nat.le_of_ble_eq_true rfl, Nat.le_of_ble_eq_true rfl⟩
def kw_L_setGloss (σ : ka_S) (v1 : Int32) (v2 : Int32) (o : Int64) (Q : Int32 → ka_S → Int64 → Prop) : Prop := kw_X8_setGloss σ v1 v2 (fun r σ1 => Q 0 σ1 r.toInt64) (fun j σ1 => match j with | 0 => False | 1 => Q 2 σ1 o | _ => Q 1 σ1 o)
def rm_L_setGloss : Room := { frames := 8, cells := 2, slots := 12, locals := 126 }
set_option maxHeartbeats 4000000 in
set_option maxRecDepth 100000 in
theorem km_L_setGloss (l : Launch) (hl0 : l.stackTraces = false) {G : ka_G} (hI : ka_I G) (hQ : G.2.2.1 ≤ G.2.2.2) {σ : ka_S} {v1 : Int32} {v2 : Int32} {o : Int64} {Q : Int32 → ka_S → Int64 → Prop} (hq : kw_L_setGloss σ v1 v2 o Q) : kc_L l yL_setGloss (kw_W yL_setGloss cL_setGloss 5 [(0, 10, 13, 28), (0, 10, 17, 15)]) rm_L_setGloss 2 12 G [.ref (ka_a G (22, 0, 0)), .int v1, .int v2, .ref G.2.2.2] σ o Q := by
  refine kl_of rfl (by decide) (Nat.le_of_ble_eq_true rfl) hQ ?_
  intro p e s m below meth c C0 hK hT hN htab H locs hP hO hS hqz ls hl
  obtain ⟨hx, hb, -, hml, hown, hts, -⟩ := id C0
  have hl : lv_has ls 5 [(0, .ref (ka_a G (22, 0, 0))), (1, .int v1), (2, .int v2), (3, .ref G.2.2.2)] := hl
  unfold kw_L_setGloss at hq
  refine lv_aload_n hx hb dL_setGloss_0 rfl (lv_at hl 3 rfl) ?_
  refine lv_iconst (v := 0) hx hb dL_setGloss_1 (by decide) ?_
  refine lv_aload_n hx hb dL_setGloss_2 rfl (lv_at hl 0 rfl) ?_
  refine lv_iload_n hx hb dL_setGloss_3 rfl (lv_at hl 1 rfl) ?_
  refine lv_iload_n hx hb dL_setGloss_4 rfl (lv_at hl 2 rfl) ?_
  refine kl_V (k := (22, 0, 0)) (As := [.int v1, .int v2]) (rest := [.int 0, .ref G.2.2.2]) C0 hK hT hP hO hS hqz hl (km_X8_setGloss l hl0 hI hq) kd_X8_setGloss kq_760 (kv_s (by decide) (by decide)) rfl rfl rfl ⟨rfl, rfl, Nat.le_of_ble_eq_true rfl, Nat.le_of_ble_eq_true rfl⟩ rfl (Nat.le_of_ble_eq_true rfl) dL_setGloss_5 ⟨Nat.le_of_ble_eq_true rfl, Nat.le_of_ble_eq_true rfl⟩ (fun j ce q9 σ1 H locs hj hP hO hS hce hcv hcl => ?_) (fun r σ1 H locs hq hP hO hS => ?_)
  · match j, hj, hcl with
    | 0, hj, hcl => exact absurd hj (fun h => h)
    | 1, hj, hcl =>
      refine vx_catch (own := "GlossRowsLaw") (name := ka_E 1) (E := ka_E 1) hown [⟨0, 10, 13, 28⟩] ⟨0, 10, 17, 15⟩ [] (by rw [htab]; rfl) (fun z hz => Or.inr (by obtain rfl := List.mem_singleton.mp hz; exact ⟨by decide, ka_E 2, hts _ kq_565, hN 1 (by decide) 2 (by decide) (by decide)⟩)) (by decide) (by decide) (hts _ kq_420) (va_Nw.use rfl (hT.2.2.1 (Cond.castable (ka_E 1) (ka_E 1)) (List.mem_of_getElem? (i := 4) rfl))) hce hcv hcl ?_
      refine lv_astore (lv' := [(4, .ref q9), (0, .ref (ka_a G (22, 0, 0))), (1, .int v1), (2, .int v2), (3, .ref G.2.2.2)]) hx hb dL_setGloss_17 hl (by decide) rfl (fun ls hl => ?_)
      refine lv_iconst (v := 2) hx hb dL_setGloss_19 (by decide) ?_
      exact kl_ret C0 hK hP hO hS.more hj dL_setGloss_20 ⟨Nat.le_of_ble_eq_true rfl, Nat.le_of_ble_eq_true rfl⟩
    | n + 2, hj, hcl =>
      refine vx_catch (own := "GlossRowsLaw") (name := ka_E 2) (E := ka_E 2) hown [] ⟨0, 10, 13, 28⟩ [⟨0, 10, 17, 15⟩] (by rw [htab]; rfl) (fun z hz => absurd hz List.not_mem_nil) (by decide) (by decide) (hts _ kq_565) (va_Nw.use rfl (hT.2.2.1 (Cond.castable (ka_E 2) (ka_E 2)) (List.mem_of_getElem? (i := 5) rfl))) hce hcv hcl ?_
      refine lv_astore (lv' := [(4, .ref q9), (0, .ref (ka_a G (22, 0, 0))), (1, .int v1), (2, .int v2), (3, .ref G.2.2.2)]) hx hb dL_setGloss_13 hl (by decide) rfl (fun ls hl => ?_)
      refine lv_iconst (v := 1) hx hb dL_setGloss_15 (by decide) ?_
      exact kl_ret C0 hK hP hO hS.more hj dL_setGloss_16 ⟨Nat.le_of_ble_eq_true rfl, Nat.le_of_ble_eq_true rfl⟩
  · refine lv_i2l hx hb dL_setGloss_8 rfl ?_
    refine kl_last C0 hK hI hP hO hS.more hQ dL_setGloss_9 (fun H locs hP hO hS => ?_)
    refine lv_goto (tgt := 21) hx hb dL_setGloss_10 (by decide) ?_
    refine lv_iconst (v := 0) hx hb dL_setGloss_21 (by decide) ?_
    exact kl_ret C0 hK hP hO hS hq dL_setGloss_22 ⟨Nat.le_of_ble_eq_true rfl, Nat.le_of_ble_eq_true rfl⟩
def kw_L_set (σ : ka_S) (v1 : Int32) (v2 : Int32) (o : Int64) (Q : Int32 → ka_S → Int64 → Prop) : Prop := kw_X8_set σ v1 v2 (fun r σ1 => Q 0 σ1 r.toInt64) (fun j σ1 => match j with | 0 => Q 1 σ1 o | 1 => False | _ => False)
def rm_L_set : Room := { frames := 7, cells := 1, slots := 6, locals := 104 }
set_option maxHeartbeats 4000000 in
set_option maxRecDepth 100000 in
theorem km_L_set (l : Launch) (hl0 : l.stackTraces = false) {G : ka_G} (hI : ka_I G) (hQ : G.2.2.1 ≤ G.2.2.2) {σ : ka_S} {v1 : Int32} {v2 : Int32} {o : Int64} {Q : Int32 → ka_S → Int64 → Prop} (hq : kw_L_set σ v1 v2 o Q) : kc_L l yL_set (kw_W yL_set cL_set 5 [(0, 10, 13, 13)]) rm_L_set 1 6 G [.ref (ka_a G (22, 0, 0)), .int v1, .int v2, .ref G.2.2.2] σ o Q := by
  refine kl_of rfl (by decide) (Nat.le_of_ble_eq_true rfl) hQ ?_
  intro p e s m below meth c C0 hK hT hN htab H locs hP hO hS hqz ls hl
  obtain ⟨hx, hb, -, hml, hown, hts, -⟩ := id C0
  have hl : lv_has ls 5 [(0, .ref (ka_a G (22, 0, 0))), (1, .int v1), (2, .int v2), (3, .ref G.2.2.2)] := hl
  unfold kw_L_set at hq
  refine lv_aload_n hx hb dL_set_0 rfl (lv_at hl 3 rfl) ?_
  refine lv_iconst (v := 0) hx hb dL_set_1 (by decide) ?_
  refine lv_aload_n hx hb dL_set_2 rfl (lv_at hl 0 rfl) ?_
  refine lv_iload_n hx hb dL_set_3 rfl (lv_at hl 1 rfl) ?_
  refine lv_iload_n hx hb dL_set_4 rfl (lv_at hl 2 rfl) ?_
  refine kl_V (k := (22, 0, 0)) (As := [.int v1, .int v2]) (rest := [.int 0, .ref G.2.2.2]) C0 hK hT hP hO hS hqz hl (km_X8_set l hl0 hI hq) kd_X8_set kq_778 (kv_s (by decide) (by decide)) rfl rfl rfl ⟨rfl, rfl, Nat.le_of_ble_eq_true rfl, Nat.le_of_ble_eq_true rfl⟩ rfl (Nat.le_of_ble_eq_true rfl) dL_set_5 ⟨Nat.le_of_ble_eq_true rfl, Nat.le_of_ble_eq_true rfl⟩ (fun j ce q9 σ1 H locs hj hP hO hS hce hcv hcl => ?_) (fun r σ1 H locs hq hP hO hS => ?_)
  · match j, hj, hcl with
    | 0, hj, hcl =>
      refine vx_catch (own := "GlossRowsLaw") (name := ka_E 0) (E := ka_E 0) hown [] ⟨0, 10, 13, 13⟩ [] (by rw [htab]; rfl) (fun z hz => absurd hz List.not_mem_nil) (by decide) (by decide) (hts _ kq_419) (va_Nw.use rfl (hT.2.2.1 (Cond.castable (ka_E 0) (ka_E 0)) (List.mem_of_getElem? (i := 0) rfl))) hce hcv hcl ?_
      refine lv_astore (lv' := [(4, .ref q9), (0, .ref (ka_a G (22, 0, 0))), (1, .int v1), (2, .int v2), (3, .ref G.2.2.2)]) hx hb dL_set_13 hl (by decide) rfl (fun ls hl => ?_)
      refine lv_iconst (v := 1) hx hb dL_set_15 (by decide) ?_
      exact kl_ret C0 hK hP hO hS.more hj dL_set_16 ⟨Nat.le_of_ble_eq_true rfl, Nat.le_of_ble_eq_true rfl⟩
    | 1, hj, hcl => exact absurd hj (fun h => h)
    | n + 2, hj, hcl => exact absurd hj (fun h => h)
  · refine lv_i2l hx hb dL_set_8 rfl ?_
    refine kl_last C0 hK hI hP hO hS.more hQ dL_set_9 (fun H locs hP hO hS => ?_)
    refine lv_goto (tgt := 17) hx hb dL_set_10 (by decide) ?_
    refine lv_iconst (v := 0) hx hb dL_set_17 (by decide) ?_
    exact kl_ret C0 hK hP hO hS hq dL_set_18 ⟨Nat.le_of_ble_eq_true rfl, Nat.le_of_ble_eq_true rfl⟩
def kw_L_learn (σ : ka_S) (v1 : Int32) (v2 : Int32) (o : Int64) (Q : Int32 → ka_S → Int64 → Prop) : Prop := kw_X8_learn σ v1 v2 (fun r σ1 => Q 0 σ1 r.toInt64) (fun j σ1 => match j with | 0 => False | 1 => Q 2 σ1 o | _ => Q 1 σ1 o)
def rm_L_learn : Room := { frames := 8, cells := 2, slots := 12, locals := 126 }
set_option maxHeartbeats 4000000 in
set_option maxRecDepth 100000 in
theorem km_L_learn (l : Launch) (hl0 : l.stackTraces = false) {G : ka_G} (hI : ka_I G) (hQ : G.2.2.1 ≤ G.2.2.2) {σ : ka_S} {v1 : Int32} {v2 : Int32} {o : Int64} {Q : Int32 → ka_S → Int64 → Prop} (hq : kw_L_learn σ v1 v2 o Q) : kc_L l yL_learn (kw_W yL_learn cL_learn 5 [(0, 10, 13, 28), (0, 10, 17, 15)]) rm_L_learn 2 12 G [.ref (ka_a G (22, 0, 0)), .int v1, .int v2, .ref G.2.2.2] σ o Q := by
  refine kl_of rfl (by decide) (Nat.le_of_ble_eq_true rfl) hQ ?_
  intro p e s m below meth c C0 hK hT hN htab H locs hP hO hS hqz ls hl
  obtain ⟨hx, hb, -, hml, hown, hts, -⟩ := id C0
  have hl : lv_has ls 5 [(0, .ref (ka_a G (22, 0, 0))), (1, .int v1), (2, .int v2), (3, .ref G.2.2.2)] := hl
  unfold kw_L_learn at hq
  refine lv_aload_n hx hb dL_learn_0 rfl (lv_at hl 3 rfl) ?_
  refine lv_iconst (v := 0) hx hb dL_learn_1 (by decide) ?_
  refine lv_aload_n hx hb dL_learn_2 rfl (lv_at hl 0 rfl) ?_
  refine lv_iload_n hx hb dL_learn_3 rfl (lv_at hl 1 rfl) ?_
  refine lv_iload_n hx hb dL_learn_4 rfl (lv_at hl 2 rfl) ?_
  refine kl_V (k := (22, 0, 0)) (As := [.int v1, .int v2]) (rest := [.int 0, .ref G.2.2.2]) C0 hK hT hP hO hS hqz hl (km_X8_learn l hl0 hI hq) kd_X8_learn kq_793 (kv_s (by decide) (by decide)) rfl rfl rfl ⟨rfl, rfl, Nat.le_of_ble_eq_true rfl, Nat.le_of_ble_eq_true rfl⟩ rfl (Nat.le_of_ble_eq_true rfl) dL_learn_5 ⟨Nat.le_of_ble_eq_true rfl, Nat.le_of_ble_eq_true rfl⟩ (fun j ce q9 σ1 H locs hj hP hO hS hce hcv hcl => ?_) (fun r σ1 H locs hq hP hO hS => ?_)
  · match j, hj, hcl with
    | 0, hj, hcl => exact absurd hj (fun h => h)
    | 1, hj, hcl =>
      refine vx_catch (own := "GlossRowsLaw") (name := ka_E 1) (E := ka_E 1) hown [⟨0, 10, 13, 28⟩] ⟨0, 10, 17, 15⟩ [] (by rw [htab]; rfl) (fun z hz => Or.inr (by obtain rfl := List.mem_singleton.mp hz; exact ⟨by decide, ka_E 2, hts _ kq_565, hN 1 (by decide) 2 (by decide) (by decide)⟩)) (by decide) (by decide) (hts _ kq_420) (va_Nw.use rfl (hT.2.2.1 (Cond.castable (ka_E 1) (ka_E 1)) (List.mem_of_getElem? (i := 4) rfl))) hce hcv hcl ?_
      refine lv_astore (lv' := [(4, .ref q9), (0, .ref (ka_a G (22, 0, 0))), (1, .int v1), (2, .int v2), (3, .ref G.2.2.2)]) hx hb dL_learn_17 hl (by decide) rfl (fun ls hl => ?_)
      refine lv_iconst (v := 2) hx hb dL_learn_19 (by decide) ?_
      exact kl_ret C0 hK hP hO hS.more hj dL_learn_20 ⟨Nat.le_of_ble_eq_true rfl, Nat.le_of_ble_eq_true rfl⟩
    | n + 2, hj, hcl =>
      refine vx_catch (own := "GlossRowsLaw") (name := ka_E 2) (E := ka_E 2) hown [] ⟨0, 10, 13, 28⟩ [⟨0, 10, 17, 15⟩] (by rw [htab]; rfl) (fun z hz => absurd hz List.not_mem_nil) (by decide) (by decide) (hts _ kq_565) (va_Nw.use rfl (hT.2.2.1 (Cond.castable (ka_E 2) (ka_E 2)) (List.mem_of_getElem? (i := 5) rfl))) hce hcv hcl ?_
      refine lv_astore (lv' := [(4, .ref q9), (0, .ref (ka_a G (22, 0, 0))), (1, .int v1), (2, .int v2), (3, .ref G.2.2.2)]) hx hb dL_learn_13 hl (by decide) rfl (fun ls hl => ?_)
      refine lv_iconst (v := 1) hx hb dL_learn_15 (by decide) ?_
      exact kl_ret C0 hK hP hO hS.more hj dL_learn_16 ⟨Nat.le_of_ble_eq_true rfl, Nat.le_of_ble_eq_true rfl⟩
  · refine lv_i2l hx hb dL_learn_8 rfl ?_
    refine kl_last C0 hK hI hP hO hS.more hQ dL_learn_9 (fun H locs hP hO hS => ?_)
    refine lv_goto (tgt := 21) hx hb dL_learn_10 (by decide) ?_
    refine lv_iconst (v := 0) hx hb dL_learn_21 (by decide) ?_
    exact kl_ret C0 hK hP hO hS hq dL_learn_22 ⟨Nat.le_of_ble_eq_true rfl, Nat.le_of_ble_eq_true rfl⟩
def kw_L_forget (σ : ka_S) (v1 : Int32) (o : Int64) (Q : Int32 → ka_S → Int64 → Prop) : Prop := kw_X8_forget σ v1 (fun r σ1 => Q 0 σ1 r.toInt64) (fun j σ1 => match j with | 0 => False | 1 => False | _ => Q 1 σ1 o)
def rm_L_forget : Room := { frames := 8, cells := 1, slots := 6, locals := 124 }
set_option maxHeartbeats 4000000 in
set_option maxRecDepth 100000 in
theorem km_L_forget (l : Launch) (hl0 : l.stackTraces = false) {G : ka_G} (hI : ka_I G) (hQ : G.2.2.1 ≤ G.2.2.2) {σ : ka_S} {v1 : Int32} {o : Int64} {Q : Int32 → ka_S → Int64 → Prop} (hq : kw_L_forget σ v1 o Q) : kc_L l yL_forget (kw_W yL_forget cL_forget 4 [(0, 9, 12, 28)]) rm_L_forget 1 6 G [.ref (ka_a G (22, 0, 0)), .int v1, .ref G.2.2.2] σ o Q := by
  refine kl_of rfl (by decide) (Nat.le_of_ble_eq_true rfl) hQ ?_
  intro p e s m below meth c C0 hK hT hN htab H locs hP hO hS hqz ls hl
  obtain ⟨hx, hb, -, hml, hown, hts, -⟩ := id C0
  have hl : lv_has ls 4 [(0, .ref (ka_a G (22, 0, 0))), (1, .int v1), (2, .ref G.2.2.2)] := hl
  unfold kw_L_forget at hq
  refine lv_aload_n hx hb dL_forget_0 rfl (lv_at hl 2 rfl) ?_
  refine lv_iconst (v := 0) hx hb dL_forget_1 (by decide) ?_
  refine lv_aload_n hx hb dL_forget_2 rfl (lv_at hl 0 rfl) ?_
  refine lv_iload_n hx hb dL_forget_3 rfl (lv_at hl 1 rfl) ?_
  refine kl_V (k := (22, 0, 0)) (As := [.int v1]) (rest := [.int 0, .ref G.2.2.2]) C0 hK hT hP hO hS hqz hl (km_X8_forget l hl0 hI hq) kd_X8_forget kq_824 (kv_s (by decide) (by decide)) rfl rfl rfl ⟨rfl, rfl, Nat.le_of_ble_eq_true rfl, Nat.le_of_ble_eq_true rfl⟩ rfl (Nat.le_of_ble_eq_true rfl) dL_forget_4 ⟨Nat.le_of_ble_eq_true rfl, Nat.le_of_ble_eq_true rfl⟩ (fun j ce q9 σ1 H locs hj hP hO hS hce hcv hcl => ?_) (fun r σ1 H locs hq hP hO hS => ?_)
  · match j, hj, hcl with
    | 0, hj, hcl => exact absurd hj (fun h => h)
    | 1, hj, hcl => exact absurd hj (fun h => h)
    | n + 2, hj, hcl =>
      refine vx_catch (own := "GlossRowsLaw") (name := ka_E 2) (E := ka_E 2) hown [] ⟨0, 9, 12, 28⟩ [] (by rw [htab]; rfl) (fun z hz => absurd hz List.not_mem_nil) (by decide) (by decide) (hts _ kq_565) (va_Nw.use rfl (hT.2.2.1 (Cond.castable (ka_E 2) (ka_E 2)) (List.mem_of_getElem? (i := 5) rfl))) hce hcv hcl ?_
      refine lv_astore_n (lv' := [(3, .ref q9), (0, .ref (ka_a G (22, 0, 0))), (1, .int v1), (2, .ref G.2.2.2)]) hx hb dL_forget_12 rfl hl (by decide) rfl (fun ls hl => ?_)
      refine lv_iconst (v := 1) hx hb dL_forget_13 (by decide) ?_
      exact kl_ret C0 hK hP hO hS.more hj dL_forget_14 ⟨Nat.le_of_ble_eq_true rfl, Nat.le_of_ble_eq_true rfl⟩
  · refine lv_i2l hx hb dL_forget_7 rfl ?_
    refine kl_last C0 hK hI hP hO hS.more hQ dL_forget_8 (fun H locs hP hO hS => ?_)
    refine lv_goto (tgt := 15) hx hb dL_forget_9 (by decide) ?_
    refine lv_iconst (v := 0) hx hb dL_forget_15 (by decide) ?_
    exact kl_ret C0 hK hP hO hS hq dL_forget_16 ⟨Nat.le_of_ble_eq_true rfl, Nat.le_of_ble_eq_true rfl⟩
def kw_L_undo (σ : ka_S) (o : Int64) (Q : Int32 → ka_S → Int64 → Prop) : Prop := kw_X8_undo σ (fun r σ1 => Q 0 σ1 r.toInt64) (fun j σ1 => match j with | 0 => False | 1 => Q 1 σ1 o | _ => False)
def rm_L_undo : Room := { frames := 7, cells := 1, slots := 6, locals := 102 }
set_option maxHeartbeats 4000000 in
set_option maxRecDepth 100000 in
theorem km_L_undo (l : Launch) (hl0 : l.stackTraces = false) {G : ka_G} (hI : ka_I G) (hQ : G.2.2.1 ≤ G.2.2.2) {σ : ka_S} {o : Int64} {Q : Int32 → ka_S → Int64 → Prop} (hq : kw_L_undo σ o Q) : kc_L l yL_undo (kw_W yL_undo cL_undo 3 [(0, 8, 11, 15)]) rm_L_undo 1 6 G [.ref (ka_a G (22, 0, 0)), .ref G.2.2.2] σ o Q := by
  refine kl_of rfl (by decide) (Nat.le_of_ble_eq_true rfl) hQ ?_
  intro p e s m below meth c C0 hK hT hN htab H locs hP hO hS hqz ls hl
  obtain ⟨hx, hb, -, hml, hown, hts, -⟩ := id C0
  have hl : lv_has ls 3 [(0, .ref (ka_a G (22, 0, 0))), (1, .ref G.2.2.2)] := hl
  unfold kw_L_undo at hq
  refine lv_aload_n hx hb dL_undo_0 rfl (lv_at hl 1 rfl) ?_
  refine lv_iconst (v := 0) hx hb dL_undo_1 (by decide) ?_
  refine lv_aload_n hx hb dL_undo_2 rfl (lv_at hl 0 rfl) ?_
  refine kl_V (k := (22, 0, 0)) (As := []) (rest := [.int 0, .ref G.2.2.2]) C0 hK hT hP hO hS hqz hl (km_X8_undo l hl0 hI hq) kd_X8_undo kq_835 (kv_s (by decide) (by decide)) rfl rfl rfl ⟨rfl, rfl, Nat.le_of_ble_eq_true rfl, Nat.le_of_ble_eq_true rfl⟩ rfl (Nat.le_of_ble_eq_true rfl) dL_undo_3 ⟨Nat.le_of_ble_eq_true rfl, Nat.le_of_ble_eq_true rfl⟩ (fun j ce q9 σ1 H locs hj hP hO hS hce hcv hcl => ?_) (fun r σ1 H locs hq hP hO hS => ?_)
  · match j, hj, hcl with
    | 0, hj, hcl => exact absurd hj (fun h => h)
    | 1, hj, hcl =>
      refine vx_catch (own := "GlossRowsLaw") (name := ka_E 1) (E := ka_E 1) hown [] ⟨0, 8, 11, 15⟩ [] (by rw [htab]; rfl) (fun z hz => absurd hz List.not_mem_nil) (by decide) (by decide) (hts _ kq_420) (va_Nw.use rfl (hT.2.2.1 (Cond.castable (ka_E 1) (ka_E 1)) (List.mem_of_getElem? (i := 4) rfl))) hce hcv hcl ?_
      refine lv_astore_n (lv' := [(2, .ref q9), (0, .ref (ka_a G (22, 0, 0))), (1, .ref G.2.2.2)]) hx hb dL_undo_11 rfl hl (by decide) rfl (fun ls hl => ?_)
      refine lv_iconst (v := 1) hx hb dL_undo_12 (by decide) ?_
      exact kl_ret C0 hK hP hO hS.more hj dL_undo_13 ⟨Nat.le_of_ble_eq_true rfl, Nat.le_of_ble_eq_true rfl⟩
    | n + 2, hj, hcl => exact absurd hj (fun h => h)
  · refine lv_i2l hx hb dL_undo_6 rfl ?_
    refine kl_last C0 hK hI hP hO hS.more hQ dL_undo_7 (fun H locs hP hO hS => ?_)
    refine lv_goto (tgt := 14) hx hb dL_undo_8 (by decide) ?_
    refine lv_iconst (v := 0) hx hb dL_undo_14 (by decide) ?_
    exact kl_ret C0 hK hP hO hS hq dL_undo_15 ⟨Nat.le_of_ble_eq_true rfl, Nat.le_of_ble_eq_true rfl⟩
def kw_L_gap (σ : ka_S) (v1 : Int32) (o : Int64) (Q : Int32 → ka_S → Int64 → Prop) : Prop := kw_X8_gap σ v1 (fun r σ1 => Q 0 σ1 r.toInt64) (fun j σ1 => match j with | 0 => Q 1 σ1 o | 1 => False | _ => False)
def rm_L_gap : Room := { frames := 8, cells := 1, slots := 6, locals := 124 }
set_option maxHeartbeats 4000000 in
set_option maxRecDepth 100000 in
theorem km_L_gap (l : Launch) (hl0 : l.stackTraces = false) {G : ka_G} (hI : ka_I G) (hQ : G.2.2.1 ≤ G.2.2.2) {σ : ka_S} {v1 : Int32} {o : Int64} {Q : Int32 → ka_S → Int64 → Prop} (hq : kw_L_gap σ v1 o Q) : kc_L l yL_gap (kw_W yL_gap cL_gap 4 [(0, 9, 12, 13)]) rm_L_gap 1 6 G [.ref (ka_a G (22, 0, 0)), .int v1, .ref G.2.2.2] σ o Q := by
  refine kl_of rfl (by decide) (Nat.le_of_ble_eq_true rfl) hQ ?_
  intro p e s m below meth c C0 hK hT hN htab H locs hP hO hS hqz ls hl
  obtain ⟨hx, hb, -, hml, hown, hts, -⟩ := id C0
  have hl : lv_has ls 4 [(0, .ref (ka_a G (22, 0, 0))), (1, .int v1), (2, .ref G.2.2.2)] := hl
  unfold kw_L_gap at hq
  refine lv_aload_n hx hb dL_gap_0 rfl (lv_at hl 2 rfl) ?_
  refine lv_iconst (v := 0) hx hb dL_gap_1 (by decide) ?_
  refine lv_aload_n hx hb dL_gap_2 rfl (lv_at hl 0 rfl) ?_
  refine lv_iload_n hx hb dL_gap_3 rfl (lv_at hl 1 rfl) ?_
  refine kl_V (k := (22, 0, 0)) (As := [.int v1]) (rest := [.int 0, .ref G.2.2.2]) C0 hK hT hP hO hS hqz hl (km_X8_gap l hl0 hI hq) kd_X8_gap kq_847 (kv_s (by decide) (by decide)) rfl rfl rfl ⟨rfl, rfl, Nat.le_of_ble_eq_true rfl, Nat.le_of_ble_eq_true rfl⟩ rfl (Nat.le_of_ble_eq_true rfl) dL_gap_4 ⟨Nat.le_of_ble_eq_true rfl, Nat.le_of_ble_eq_true rfl⟩ (fun j ce q9 σ1 H locs hj hP hO hS hce hcv hcl => ?_) (fun r σ1 H locs hq hP hO hS => ?_)
  · match j, hj, hcl with
    | 0, hj, hcl =>
      refine vx_catch (own := "GlossRowsLaw") (name := ka_E 0) (E := ka_E 0) hown [] ⟨0, 9, 12, 13⟩ [] (by rw [htab]; rfl) (fun z hz => absurd hz List.not_mem_nil) (by decide) (by decide) (hts _ kq_419) (va_Nw.use rfl (hT.2.2.1 (Cond.castable (ka_E 0) (ka_E 0)) (List.mem_of_getElem? (i := 0) rfl))) hce hcv hcl ?_
      refine lv_astore_n (lv' := [(3, .ref q9), (0, .ref (ka_a G (22, 0, 0))), (1, .int v1), (2, .ref G.2.2.2)]) hx hb dL_gap_12 rfl hl (by decide) rfl (fun ls hl => ?_)
      refine lv_iconst (v := 1) hx hb dL_gap_13 (by decide) ?_
      exact kl_ret C0 hK hP hO hS.more hj dL_gap_14 ⟨Nat.le_of_ble_eq_true rfl, Nat.le_of_ble_eq_true rfl⟩
    | 1, hj, hcl => exact absurd hj (fun h => h)
    | n + 2, hj, hcl => exact absurd hj (fun h => h)
  · refine lv_i2l hx hb dL_gap_7 rfl ?_
    refine kl_last C0 hK hI hP hO hS.more hQ dL_gap_8 (fun H locs hP hO hS => ?_)
    refine lv_goto (tgt := 15) hx hb dL_gap_9 (by decide) ?_
    refine lv_iconst (v := 0) hx hb dL_gap_15 (by decide) ?_
    exact kl_ret C0 hK hP hO hS hq dL_gap_16 ⟨Nat.le_of_ble_eq_true rfl, Nat.le_of_ble_eq_true rfl⟩
def kw_L_widthFor (σ : ka_S) (v1 : Int32) (o : Int64) (Q : Int32 → ka_S → Int64 → Prop) : Prop := kw_X8_widthFor σ v1 (fun r σ1 => Q 0 σ1 r.toInt64) (fun j σ1 => match j with | 0 => Q 1 σ1 o | 1 => False | _ => False)
def rm_L_widthFor : Room := { frames := 7, cells := 1, slots := 6, locals := 137 }
set_option maxHeartbeats 4000000 in
set_option maxRecDepth 100000 in
theorem km_L_widthFor (l : Launch) (hl0 : l.stackTraces = false) {G : ka_G} (hI : ka_I G) (hQ : G.2.2.1 ≤ G.2.2.2) {σ : ka_S} {v1 : Int32} {o : Int64} {Q : Int32 → ka_S → Int64 → Prop} (hq : kw_L_widthFor σ v1 o Q) : kc_L l yL_widthFor (kw_W yL_widthFor cL_widthFor 4 [(0, 9, 12, 13)]) rm_L_widthFor 1 6 G [.ref (ka_a G (22, 0, 0)), .int v1, .ref G.2.2.2] σ o Q := by
  refine kl_of rfl (by decide) (Nat.le_of_ble_eq_true rfl) hQ ?_
  intro p e s m below meth c C0 hK hT hN htab H locs hP hO hS hqz ls hl
  obtain ⟨hx, hb, -, hml, hown, hts, -⟩ := id C0
  have hl : lv_has ls 4 [(0, .ref (ka_a G (22, 0, 0))), (1, .int v1), (2, .ref G.2.2.2)] := hl
  unfold kw_L_widthFor at hq
  refine lv_aload_n hx hb dL_widthFor_0 rfl (lv_at hl 2 rfl) ?_
  refine lv_iconst (v := 0) hx hb dL_widthFor_1 (by decide) ?_
  refine lv_aload_n hx hb dL_widthFor_2 rfl (lv_at hl 0 rfl) ?_
  refine lv_iload_n hx hb dL_widthFor_3 rfl (lv_at hl 1 rfl) ?_
  refine kl_V (k := (22, 0, 0)) (As := [.int v1]) (rest := [.int 0, .ref G.2.2.2]) C0 hK hT hP hO hS hqz hl (km_X8_widthFor l hl0 hI hq) kd_X8_widthFor kq_858 (kv_s (by decide) (by decide)) rfl rfl rfl ⟨rfl, rfl, Nat.le_of_ble_eq_true rfl, Nat.le_of_ble_eq_true rfl⟩ rfl (Nat.le_of_ble_eq_true rfl) dL_widthFor_4 ⟨Nat.le_of_ble_eq_true rfl, Nat.le_of_ble_eq_true rfl⟩ (fun j ce q9 σ1 H locs hj hP hO hS hce hcv hcl => ?_) (fun r σ1 H locs hq hP hO hS => ?_)
  · match j, hj, hcl with
    | 0, hj, hcl =>
      refine vx_catch (own := "GlossRowsLaw") (name := ka_E 0) (E := ka_E 0) hown [] ⟨0, 9, 12, 13⟩ [] (by rw [htab]; rfl) (fun z hz => absurd hz List.not_mem_nil) (by decide) (by decide) (hts _ kq_419) (va_Nw.use rfl (hT.2.2.1 (Cond.castable (ka_E 0) (ka_E 0)) (List.mem_of_getElem? (i := 0) rfl))) hce hcv hcl ?_
      refine lv_astore_n (lv' := [(3, .ref q9), (0, .ref (ka_a G (22, 0, 0))), (1, .int v1), (2, .ref G.2.2.2)]) hx hb dL_widthFor_12 rfl hl (by decide) rfl (fun ls hl => ?_)
      refine lv_iconst (v := 1) hx hb dL_widthFor_13 (by decide) ?_
      exact kl_ret C0 hK hP hO hS.more hj dL_widthFor_14 ⟨Nat.le_of_ble_eq_true rfl, Nat.le_of_ble_eq_true rfl⟩
    | 1, hj, hcl => exact absurd hj (fun h => h)
    | n + 2, hj, hcl => exact absurd hj (fun h => h)
  · refine lv_i2l hx hb dL_widthFor_7 rfl ?_
    refine kl_last C0 hK hI hP hO hS.more hQ dL_widthFor_8 (fun H locs hP hO hS => ?_)
    refine lv_goto (tgt := 15) hx hb dL_widthFor_9 (by decide) ?_
    refine lv_iconst (v := 0) hx hb dL_widthFor_15 (by decide) ?_
    exact kl_ret C0 hK hP hO hS hq dL_widthFor_16 ⟨Nat.le_of_ble_eq_true rfl, Nat.le_of_ble_eq_true rfl⟩
def kw_L_rowsWith (σ : ka_S) (v1 : Int32) (v2 : Int32) (o : Int64) (Q : Int32 → ka_S → Int64 → Prop) : Prop := kw_X8_rowsWith σ v1 v2 (fun r σ1 => Q 0 σ1 r.toInt64) (fun j σ1 => match j with | 0 => Q 1 σ1 o | 1 => False | _ => False)
def rm_L_rowsWith : Room := { frames := 7, cells := 1, slots := 6, locals := 137 }
set_option maxHeartbeats 4000000 in
set_option maxRecDepth 100000 in
theorem km_L_rowsWith (l : Launch) (hl0 : l.stackTraces = false) {G : ka_G} (hI : ka_I G) (hQ : G.2.2.1 ≤ G.2.2.2) {σ : ka_S} {v1 : Int32} {v2 : Int32} {o : Int64} {Q : Int32 → ka_S → Int64 → Prop} (hq : kw_L_rowsWith σ v1 v2 o Q) : kc_L l yL_rowsWith (kw_W yL_rowsWith cL_rowsWith 5 [(0, 10, 13, 13)]) rm_L_rowsWith 1 6 G [.ref (ka_a G (22, 0, 0)), .int v1, .int v2, .ref G.2.2.2] σ o Q := by
  refine kl_of rfl (by decide) (Nat.le_of_ble_eq_true rfl) hQ ?_
  intro p e s m below meth c C0 hK hT hN htab H locs hP hO hS hqz ls hl
  obtain ⟨hx, hb, -, hml, hown, hts, -⟩ := id C0
  have hl : lv_has ls 5 [(0, .ref (ka_a G (22, 0, 0))), (1, .int v1), (2, .int v2), (3, .ref G.2.2.2)] := hl
  unfold kw_L_rowsWith at hq
  refine lv_aload_n hx hb dL_rowsWith_0 rfl (lv_at hl 3 rfl) ?_
  refine lv_iconst (v := 0) hx hb dL_rowsWith_1 (by decide) ?_
  refine lv_aload_n hx hb dL_rowsWith_2 rfl (lv_at hl 0 rfl) ?_
  refine lv_iload_n hx hb dL_rowsWith_3 rfl (lv_at hl 1 rfl) ?_
  refine lv_iload_n hx hb dL_rowsWith_4 rfl (lv_at hl 2 rfl) ?_
  refine kl_V (k := (22, 0, 0)) (As := [.int v1, .int v2]) (rest := [.int 0, .ref G.2.2.2]) C0 hK hT hP hO hS hqz hl (km_X8_rowsWith l hl0 hI hq) kd_X8_rowsWith kq_866 (kv_s (by decide) (by decide)) rfl rfl rfl ⟨rfl, rfl, Nat.le_of_ble_eq_true rfl, Nat.le_of_ble_eq_true rfl⟩ rfl (Nat.le_of_ble_eq_true rfl) dL_rowsWith_5 ⟨Nat.le_of_ble_eq_true rfl, Nat.le_of_ble_eq_true rfl⟩ (fun j ce q9 σ1 H locs hj hP hO hS hce hcv hcl => ?_) (fun r σ1 H locs hq hP hO hS => ?_)
  · match j, hj, hcl with
    | 0, hj, hcl =>
      refine vx_catch (own := "GlossRowsLaw") (name := ka_E 0) (E := ka_E 0) hown [] ⟨0, 10, 13, 13⟩ [] (by rw [htab]; rfl) (fun z hz => absurd hz List.not_mem_nil) (by decide) (by decide) (hts _ kq_419) (va_Nw.use rfl (hT.2.2.1 (Cond.castable (ka_E 0) (ka_E 0)) (List.mem_of_getElem? (i := 0) rfl))) hce hcv hcl ?_
      refine lv_astore (lv' := [(4, .ref q9), (0, .ref (ka_a G (22, 0, 0))), (1, .int v1), (2, .int v2), (3, .ref G.2.2.2)]) hx hb dL_rowsWith_13 hl (by decide) rfl (fun ls hl => ?_)
      refine lv_iconst (v := 1) hx hb dL_rowsWith_15 (by decide) ?_
      exact kl_ret C0 hK hP hO hS.more hj dL_rowsWith_16 ⟨Nat.le_of_ble_eq_true rfl, Nat.le_of_ble_eq_true rfl⟩
    | 1, hj, hcl => exact absurd hj (fun h => h)
    | n + 2, hj, hcl => exact absurd hj (fun h => h)
  · refine lv_i2l hx hb dL_rowsWith_8 rfl ?_
    refine kl_last C0 hK hI hP hO hS.more hQ dL_rowsWith_9 (fun H locs hP hO hS => ?_)
    refine lv_goto (tgt := 17) hx hb dL_rowsWith_10 (by decide) ?_
    refine lv_iconst (v := 0) hx hb dL_rowsWith_17 (by decide) ?_
    exact kl_ret C0 hK hP hO hS hq dL_rowsWith_18 ⟨Nat.le_of_ble_eq_true rfl, Nat.le_of_ble_eq_true rfl⟩
def kw_L_runScript (σ : ka_S) (v1 : Int32) (v2 : Int64) (o : Int64) (Q : Int32 → ka_S → Int64 → Prop) : Prop := kw_X8_runScript σ v1 v2 (fun r σ1 => Q 0 σ1 r.toInt64) (fun j σ1 => match j with | 0 => Q 1 σ1 o | 1 => False | _ => False)
def rm_L_runScript : Room := { frames := 8, cells := 1, slots := 6, locals := 184 }
set_option maxHeartbeats 4000000 in
set_option maxRecDepth 100000 in
theorem km_L_runScript (l : Launch) (hl0 : l.stackTraces = false) {G : ka_G} (hI : ka_I G) (hQ : G.2.2.1 ≤ G.2.2.2) {σ : ka_S} {v1 : Int32} {v2 : Int64} {o : Int64} {Q : Int32 → ka_S → Int64 → Prop} (hq : kw_L_runScript σ v1 v2 o Q) : kc_L l yL_runScript (kw_W yL_runScript cL_runScript 6 [(0, 11, 14, 13)]) rm_L_runScript 1 6 G [.ref (ka_a G (22, 0, 0)), .int v1, .long v2, .ref G.2.2.2] σ o Q := by
  refine kl_of rfl (by decide) (Nat.le_of_ble_eq_true rfl) hQ ?_
  intro p e s m below meth c C0 hK hT hN htab H locs hP hO hS hqz ls hl
  obtain ⟨hx, hb, -, hml, hown, hts, -⟩ := id C0
  have hl : lv_has ls 6 [(0, .ref (ka_a G (22, 0, 0))), (1, .int v1), (2, .long v2), (4, .ref G.2.2.2)] := hl
  unfold kw_L_runScript at hq
  refine lv_aload hx hb dL_runScript_0 (lv_at hl 3 rfl) ?_
  refine lv_iconst (v := 0) hx hb dL_runScript_2 (by decide) ?_
  refine lv_aload_n hx hb dL_runScript_3 rfl (lv_at hl 0 rfl) ?_
  refine lv_iload_n hx hb dL_runScript_4 rfl (lv_at hl 1 rfl) ?_
  refine lv_lload_n hx hb dL_runScript_5 rfl (lv_at hl 2 rfl) ?_
  refine kl_V (k := (22, 0, 0)) (As := [.int v1, .long v2]) (rest := [.int 0, .ref G.2.2.2]) C0 hK hT hP hO hS hqz hl (km_X8_runScript l hl0 hI hq) kd_X8_runScript kq_874 (kv_s (by decide) (by decide)) rfl rfl rfl ⟨rfl, rfl, Nat.le_of_ble_eq_true rfl, Nat.le_of_ble_eq_true rfl⟩ rfl (Nat.le_of_ble_eq_true rfl) dL_runScript_6 ⟨Nat.le_of_ble_eq_true rfl, Nat.le_of_ble_eq_true rfl⟩ (fun j ce q9 σ1 H locs hj hP hO hS hce hcv hcl => ?_) (fun r σ1 H locs hq hP hO hS => ?_)
  · match j, hj, hcl with
    | 0, hj, hcl =>
      refine vx_catch (own := "GlossRowsLaw") (name := ka_E 0) (E := ka_E 0) hown [] ⟨0, 11, 14, 13⟩ [] (by rw [htab]; rfl) (fun z hz => absurd hz List.not_mem_nil) (by decide) (by decide) (hts _ kq_419) (va_Nw.use rfl (hT.2.2.1 (Cond.castable (ka_E 0) (ka_E 0)) (List.mem_of_getElem? (i := 0) rfl))) hce hcv hcl ?_
      refine lv_astore (lv' := [(5, .ref q9), (0, .ref (ka_a G (22, 0, 0))), (1, .int v1), (2, .long v2), (4, .ref G.2.2.2)]) hx hb dL_runScript_14 hl (by decide) rfl (fun ls hl => ?_)
      refine lv_iconst (v := 1) hx hb dL_runScript_16 (by decide) ?_
      exact kl_ret C0 hK hP hO hS.more hj dL_runScript_17 ⟨Nat.le_of_ble_eq_true rfl, Nat.le_of_ble_eq_true rfl⟩
    | 1, hj, hcl => exact absurd hj (fun h => h)
    | n + 2, hj, hcl => exact absurd hj (fun h => h)
  · refine lv_i2l hx hb dL_runScript_9 rfl ?_
    refine kl_last C0 hK hI hP hO hS.more hQ dL_runScript_10 (fun H locs hP hO hS => ?_)
    refine lv_goto (tgt := 18) hx hb dL_runScript_11 (by decide) ?_
    refine lv_iconst (v := 0) hx hb dL_runScript_18 (by decide) ?_
    exact kl_ret C0 hK hP hO hS hq dL_runScript_19 ⟨Nat.le_of_ble_eq_true rfl, Nat.le_of_ble_eq_true rfl⟩
def kw_L_simulate (σ : ka_S) (v1 : Int64) (v3 : Int32) (o : Int64) (Q : Int32 → ka_S → Int64 → Prop) : Prop := kw_X8_simulate σ v1 v3 (fun r σ1 => Q 0 σ1 r.toInt64) (fun j σ1 => match j with | 0 => Q 1 σ1 o | 1 => False | _ => False)
def rm_L_simulate : Room := { frames := 7, cells := 1, slots := 6, locals := 163 }
set_option maxHeartbeats 4000000 in
set_option maxRecDepth 100000 in
theorem km_L_simulate (l : Launch) (hl0 : l.stackTraces = false) {G : ka_G} (hI : ka_I G) (hQ : G.2.2.1 ≤ G.2.2.2) {σ : ka_S} {v1 : Int64} {v3 : Int32} {o : Int64} {Q : Int32 → ka_S → Int64 → Prop} (hq : kw_L_simulate σ v1 v3 o Q) : kc_L l yL_simulate (kw_W yL_simulate cL_simulate 6 [(0, 11, 14, 13)]) rm_L_simulate 1 6 G [.ref (ka_a G (22, 0, 0)), .long v1, .int v3, .ref G.2.2.2] σ o Q := by
  refine kl_of rfl (by decide) (Nat.le_of_ble_eq_true rfl) hQ ?_
  intro p e s m below meth c C0 hK hT hN htab H locs hP hO hS hqz ls hl
  obtain ⟨hx, hb, -, hml, hown, hts, -⟩ := id C0
  have hl : lv_has ls 6 [(0, .ref (ka_a G (22, 0, 0))), (1, .long v1), (3, .int v3), (4, .ref G.2.2.2)] := hl
  unfold kw_L_simulate at hq
  refine lv_aload hx hb dL_simulate_0 (lv_at hl 3 rfl) ?_
  refine lv_iconst (v := 0) hx hb dL_simulate_2 (by decide) ?_
  refine lv_aload_n hx hb dL_simulate_3 rfl (lv_at hl 0 rfl) ?_
  refine lv_lload_n hx hb dL_simulate_4 rfl (lv_at hl 1 rfl) ?_
  refine lv_iload_n hx hb dL_simulate_5 rfl (lv_at hl 2 rfl) ?_
  refine kl_V (k := (22, 0, 0)) (As := [.long v1, .int v3]) (rest := [.int 0, .ref G.2.2.2]) C0 hK hT hP hO hS hqz hl (km_X8_simulate l hl0 hI hq) kd_X8_simulate kq_908 (kv_s (by decide) (by decide)) rfl rfl rfl ⟨rfl, rfl, Nat.le_of_ble_eq_true rfl, Nat.le_of_ble_eq_true rfl⟩ rfl (Nat.le_of_ble_eq_true rfl) dL_simulate_6 ⟨Nat.le_of_ble_eq_true rfl, Nat.le_of_ble_eq_true rfl⟩ (fun j ce q9 σ1 H locs hj hP hO hS hce hcv hcl => ?_) (fun r σ1 H locs hq hP hO hS => ?_)
  · match j, hj, hcl with
    | 0, hj, hcl =>
      refine vx_catch (own := "GlossRowsLaw") (name := ka_E 0) (E := ka_E 0) hown [] ⟨0, 11, 14, 13⟩ [] (by rw [htab]; rfl) (fun z hz => absurd hz List.not_mem_nil) (by decide) (by decide) (hts _ kq_419) (va_Nw.use rfl (hT.2.2.1 (Cond.castable (ka_E 0) (ka_E 0)) (List.mem_of_getElem? (i := 0) rfl))) hce hcv hcl ?_
      refine lv_astore (lv' := [(5, .ref q9), (0, .ref (ka_a G (22, 0, 0))), (1, .long v1), (3, .int v3), (4, .ref G.2.2.2)]) hx hb dL_simulate_14 hl (by decide) rfl (fun ls hl => ?_)
      refine lv_iconst (v := 1) hx hb dL_simulate_16 (by decide) ?_
      exact kl_ret C0 hK hP hO hS.more hj dL_simulate_17 ⟨Nat.le_of_ble_eq_true rfl, Nat.le_of_ble_eq_true rfl⟩
    | 1, hj, hcl => exact absurd hj (fun h => h)
    | n + 2, hj, hcl => exact absurd hj (fun h => h)
  · refine lv_i2l hx hb dL_simulate_9 rfl ?_
    refine kl_last C0 hK hI hP hO hS.more hQ dL_simulate_10 (fun H locs hP hO hS => ?_)
    refine lv_goto (tgt := 18) hx hb dL_simulate_11 (by decide) ?_
    refine lv_iconst (v := 0) hx hb dL_simulate_18 (by decide) ?_
    exact kl_ret C0 hK hP hO hS hq dL_simulate_19 ⟨Nat.le_of_ble_eq_true rfl, Nat.le_of_ble_eq_true rfl⟩
def kw_L_save (σ : ka_S) (v1 : Int32) (o : Int64) (Q : Int32 → ka_S → Int64 → Prop) : Prop := kw_X8_save σ v1 (fun r σ1 => Q 0 σ1 r.toInt64) (fun j σ1 => match j with | 0 => False | 1 => False | _ => Q 1 σ1 o)
def rm_L_save : Room := { frames := 8, cells := 1, slots := 6, locals := 124 }
set_option maxHeartbeats 4000000 in
set_option maxRecDepth 100000 in
theorem km_L_save (l : Launch) (hl0 : l.stackTraces = false) {G : ka_G} (hI : ka_I G) (hQ : G.2.2.1 ≤ G.2.2.2) {σ : ka_S} {v1 : Int32} {o : Int64} {Q : Int32 → ka_S → Int64 → Prop} (hq : kw_L_save σ v1 o Q) : kc_L l yL_save (kw_W yL_save cL_save 4 [(0, 9, 12, 28)]) rm_L_save 1 6 G [.ref (ka_a G (22, 0, 0)), .int v1, .ref G.2.2.2] σ o Q := by
  refine kl_of rfl (by decide) (Nat.le_of_ble_eq_true rfl) hQ ?_
  intro p e s m below meth c C0 hK hT hN htab H locs hP hO hS hqz ls hl
  obtain ⟨hx, hb, -, hml, hown, hts, -⟩ := id C0
  have hl : lv_has ls 4 [(0, .ref (ka_a G (22, 0, 0))), (1, .int v1), (2, .ref G.2.2.2)] := hl
  unfold kw_L_save at hq
  refine lv_aload_n hx hb dL_save_0 rfl (lv_at hl 2 rfl) ?_
  refine lv_iconst (v := 0) hx hb dL_save_1 (by decide) ?_
  refine lv_aload_n hx hb dL_save_2 rfl (lv_at hl 0 rfl) ?_
  refine lv_iload_n hx hb dL_save_3 rfl (lv_at hl 1 rfl) ?_
  refine kl_V (k := (22, 0, 0)) (As := [.int v1]) (rest := [.int 0, .ref G.2.2.2]) C0 hK hT hP hO hS hqz hl (km_X8_save l hl0 hI hq) kd_X8_save kq_927 (kv_s (by decide) (by decide)) rfl rfl rfl ⟨rfl, rfl, Nat.le_of_ble_eq_true rfl, Nat.le_of_ble_eq_true rfl⟩ rfl (Nat.le_of_ble_eq_true rfl) dL_save_4 ⟨Nat.le_of_ble_eq_true rfl, Nat.le_of_ble_eq_true rfl⟩ (fun j ce q9 σ1 H locs hj hP hO hS hce hcv hcl => ?_) (fun r σ1 H locs hq hP hO hS => ?_)
  · match j, hj, hcl with
    | 0, hj, hcl => exact absurd hj (fun h => h)
    | 1, hj, hcl => exact absurd hj (fun h => h)
    | n + 2, hj, hcl =>
      refine vx_catch (own := "GlossRowsLaw") (name := ka_E 2) (E := ka_E 2) hown [] ⟨0, 9, 12, 28⟩ [] (by rw [htab]; rfl) (fun z hz => absurd hz List.not_mem_nil) (by decide) (by decide) (hts _ kq_565) (va_Nw.use rfl (hT.2.2.1 (Cond.castable (ka_E 2) (ka_E 2)) (List.mem_of_getElem? (i := 5) rfl))) hce hcv hcl ?_
      refine lv_astore_n (lv' := [(3, .ref q9), (0, .ref (ka_a G (22, 0, 0))), (1, .int v1), (2, .ref G.2.2.2)]) hx hb dL_save_12 rfl hl (by decide) rfl (fun ls hl => ?_)
      refine lv_iconst (v := 1) hx hb dL_save_13 (by decide) ?_
      exact kl_ret C0 hK hP hO hS.more hj dL_save_14 ⟨Nat.le_of_ble_eq_true rfl, Nat.le_of_ble_eq_true rfl⟩
  · refine lv_i2l hx hb dL_save_7 rfl ?_
    refine kl_last C0 hK hI hP hO hS.more hQ dL_save_8 (fun H locs hP hO hS => ?_)
    refine lv_goto (tgt := 15) hx hb dL_save_9 (by decide) ?_
    refine lv_iconst (v := 0) hx hb dL_save_15 (by decide) ?_
    exact kl_ret C0 hK hP hO hS hq dL_save_16 ⟨Nat.le_of_ble_eq_true rfl, Nat.le_of_ble_eq_true rfl⟩
def kw_L_restore (σ : ka_S) (v1 : Int32) (o : Int64) (Q : Int32 → ka_S → Int64 → Prop) : Prop := kw_X8_restore σ v1 (fun r σ1 => Q 0 σ1 r.toInt64) (fun j σ1 => match j with | 0 => False | 1 => Q 2 σ1 o | _ => Q 1 σ1 o)
def rm_L_restore : Room := { frames := 8, cells := 2, slots := 12, locals := 124 }
set_option maxHeartbeats 4000000 in
set_option maxRecDepth 100000 in
theorem km_L_restore (l : Launch) (hl0 : l.stackTraces = false) {G : ka_G} (hI : ka_I G) (hQ : G.2.2.1 ≤ G.2.2.2) {σ : ka_S} {v1 : Int32} {o : Int64} {Q : Int32 → ka_S → Int64 → Prop} (hq : kw_L_restore σ v1 o Q) : kc_L l yL_restore (kw_W yL_restore cL_restore 4 [(0, 9, 12, 28), (0, 9, 15, 15)]) rm_L_restore 2 12 G [.ref (ka_a G (22, 0, 0)), .int v1, .ref G.2.2.2] σ o Q := by
  refine kl_of rfl (by decide) (Nat.le_of_ble_eq_true rfl) hQ ?_
  intro p e s m below meth c C0 hK hT hN htab H locs hP hO hS hqz ls hl
  obtain ⟨hx, hb, -, hml, hown, hts, -⟩ := id C0
  have hl : lv_has ls 4 [(0, .ref (ka_a G (22, 0, 0))), (1, .int v1), (2, .ref G.2.2.2)] := hl
  unfold kw_L_restore at hq
  refine lv_aload_n hx hb dL_restore_0 rfl (lv_at hl 2 rfl) ?_
  refine lv_iconst (v := 0) hx hb dL_restore_1 (by decide) ?_
  refine lv_aload_n hx hb dL_restore_2 rfl (lv_at hl 0 rfl) ?_
  refine lv_iload_n hx hb dL_restore_3 rfl (lv_at hl 1 rfl) ?_
  refine kl_V (k := (22, 0, 0)) (As := [.int v1]) (rest := [.int 0, .ref G.2.2.2]) C0 hK hT hP hO hS hqz hl (km_X8_restore l hl0 hI hq) kd_X8_restore kq_939 (kv_s (by decide) (by decide)) rfl rfl rfl ⟨rfl, rfl, Nat.le_of_ble_eq_true rfl, Nat.le_of_ble_eq_true rfl⟩ rfl (Nat.le_of_ble_eq_true rfl) dL_restore_4 ⟨Nat.le_of_ble_eq_true rfl, Nat.le_of_ble_eq_true rfl⟩ (fun j ce q9 σ1 H locs hj hP hO hS hce hcv hcl => ?_) (fun r σ1 H locs hq hP hO hS => ?_)
  · match j, hj, hcl with
    | 0, hj, hcl => exact absurd hj (fun h => h)
    | 1, hj, hcl =>
      refine vx_catch (own := "GlossRowsLaw") (name := ka_E 1) (E := ka_E 1) hown [⟨0, 9, 12, 28⟩] ⟨0, 9, 15, 15⟩ [] (by rw [htab]; rfl) (fun z hz => Or.inr (by obtain rfl := List.mem_singleton.mp hz; exact ⟨by decide, ka_E 2, hts _ kq_565, hN 1 (by decide) 2 (by decide) (by decide)⟩)) (by decide) (by decide) (hts _ kq_420) (va_Nw.use rfl (hT.2.2.1 (Cond.castable (ka_E 1) (ka_E 1)) (List.mem_of_getElem? (i := 4) rfl))) hce hcv hcl ?_
      refine lv_astore_n (lv' := [(3, .ref q9), (0, .ref (ka_a G (22, 0, 0))), (1, .int v1), (2, .ref G.2.2.2)]) hx hb dL_restore_15 rfl hl (by decide) rfl (fun ls hl => ?_)
      refine lv_iconst (v := 2) hx hb dL_restore_16 (by decide) ?_
      exact kl_ret C0 hK hP hO hS.more hj dL_restore_17 ⟨Nat.le_of_ble_eq_true rfl, Nat.le_of_ble_eq_true rfl⟩
    | n + 2, hj, hcl =>
      refine vx_catch (own := "GlossRowsLaw") (name := ka_E 2) (E := ka_E 2) hown [] ⟨0, 9, 12, 28⟩ [⟨0, 9, 15, 15⟩] (by rw [htab]; rfl) (fun z hz => absurd hz List.not_mem_nil) (by decide) (by decide) (hts _ kq_565) (va_Nw.use rfl (hT.2.2.1 (Cond.castable (ka_E 2) (ka_E 2)) (List.mem_of_getElem? (i := 5) rfl))) hce hcv hcl ?_
      refine lv_astore_n (lv' := [(3, .ref q9), (0, .ref (ka_a G (22, 0, 0))), (1, .int v1), (2, .ref G.2.2.2)]) hx hb dL_restore_12 rfl hl (by decide) rfl (fun ls hl => ?_)
      refine lv_iconst (v := 1) hx hb dL_restore_13 (by decide) ?_
      exact kl_ret C0 hK hP hO hS.more hj dL_restore_14 ⟨Nat.le_of_ble_eq_true rfl, Nat.le_of_ble_eq_true rfl⟩
  · refine lv_i2l hx hb dL_restore_7 rfl ?_
    refine kl_last C0 hK hI hP hO hS.more hQ dL_restore_8 (fun H locs hP hO hS => ?_)
    refine lv_goto (tgt := 18) hx hb dL_restore_9 (by decide) ?_
    refine lv_iconst (v := 0) hx hb dL_restore_18 (by decide) ?_
    exact kl_ret C0 hK hP hO hS hq dL_restore_19 ⟨Nat.le_of_ble_eq_true rfl, Nat.le_of_ble_eq_true rfl⟩
