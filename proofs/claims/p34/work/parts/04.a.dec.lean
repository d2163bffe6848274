theorem dL_draw_0 : decode cL_draw 0 = .ok (.iload_n 1, 1) := by decide +kernel
theorem dL_draw_1 : decode cL_draw 1 = .ok (.aload_n 0, 1) := by decide +kernel
theorem dL_draw_2 : decode cL_draw 2 = .ok (.arraylength, 1) := by decide +kernel
theorem dL_draw_3 : decode cL_draw 3 = .ok (.if_icmp .ge 9, 3) := by decide +kernel
theorem dL_draw_6 : decode cL_draw 6 = .ok (.aload_n 0, 1) := by decide +kernel
theorem dL_draw_7 : decode cL_draw 7 = .ok (.iload_n 1, 1) := by decide +kernel
theorem dL_draw_8 : decode cL_draw 8 = .ok (.iaload, 1) := by decide +kernel
theorem dL_draw_9 : decode cL_draw 9 = .ok (.goto 11, 3) := by decide +kernel
theorem dL_draw_12 : decode cL_draw 12 = .ok (.ldc 7, 2) := by decide +kernel
theorem dL_draw_14 : decode cL_draw 14 = .ok (.iload_n 1, 1) := by decide +kernel
theorem dL_draw_15 : decode cL_draw 15 = .ok (.imul, 1) := by decide +kernel
theorem dL_draw_16 : decode cL_draw 16 = .ok (.sipush 10313, 3) := by decide +kernel
theorem dL_draw_19 : decode cL_draw 19 = .ok (.iadd, 1) := by decide +kernel
theorem dL_draw_20 : decode cL_draw 20 = .ok (.ldc 8, 2) := by decide +kernel
theorem dL_draw_22 : decode cL_draw 22 = .ok (.iand, 1) := by decide +kernel
theorem dL_draw_23 : decode cL_draw 23 = .ok (.ireturn, 1) := by decide +kernel
theorem dL_in_0 : decode cL_in 0 = .ok (.lload_n 0, 1) := by decide +kernel
theorem dL_in_1 : decode cL_in 1 = .ok (.lload_n 2, 1) := by decide +kernel
theorem dL_in_2 : decode cL_in 2 = .ok (.lcmp, 1) := by decide +kernel
theorem dL_in_3 : decode cL_in 3 = .ok (.ifCond .lt 14, 3) := by decide +kernel
theorem dL_in_6 : decode cL_in 6 = .ok (.lload_n 0, 1) := by decide +kernel
theorem dL_in_7 : decode cL_in 7 = .ok (.lload 4, 2) := by decide +kernel
theorem dL_in_9 : decode cL_in 9 = .ok (.lcmp, 1) := by decide +kernel
theorem dL_in_10 : decode cL_in 10 = .ok (.ifCond .gt 7, 3) := by decide +kernel
theorem dL_in_13 : decode cL_in 13 = .ok (.iconst 1, 1) := by decide +kernel
theorem dL_in_14 : decode cL_in 14 = .ok (.goto 4, 3) := by decide +kernel
theorem dL_in_17 : decode cL_in 17 = .ok (.iconst 0, 1) := by decide +kernel
theorem dL_in_18 : decode cL_in 18 = .ok (.ireturn, 1) := by decide +kernel
theorem dL_append_0 : decode cL_append 0 = .ok (.aload_n 0, 1) := by decide +kernel
theorem dL_append_1 : decode cL_append 1 = .ok (.iload_n 1, 1) := by decide +kernel
theorem dL_append_2 : decode cL_append 2 = .ok (.invokevirtual 9, 3) := by decide +kernel
theorem dL_append_5 : decode cL_append 5 = .ok (.i2l, 1) := by decide +kernel
theorem dL_append_6 : decode cL_append 6 = .ok (.lreturn, 1) := by decide +kernel
theorem dL_append_7 : decode cL_append 7 = .ok (.astore_n 2, 1) := by decide +kernel
theorem dL_append_8 : decode cL_append 8 = .ok (.ldc2_w 17, 3) := by decide +kernel
theorem dL_append_11 : decode cL_append 11 = .ok (.lreturn, 1) := by decide +kernel
theorem dL_append_12 : decode cL_append 12 = .ok (.astore_n 2, 1) := by decide +kernel
theorem dL_append_13 : decode cL_append 13 = .ok (.ldc2_w 21, 3) := by decide +kernel
theorem dL_append_16 : decode cL_append 16 = .ok (.lreturn, 1) := by decide +kernel
theorem dL_load_0 : decode cL_load 0 = .ok (.aload_n 0, 1) := by decide +kernel
theorem dL_load_1 : decode cL_load 1 = .ok (.invokevirtual 23, 3) := by decide +kernel
theorem dL_load_4 : decode cL_load 4 = .ok (.i2l, 1) := by decide +kernel
theorem dL_load_5 : decode cL_load 5 = .ok (.lreturn, 1) := by decide +kernel
theorem dL_load_6 : decode cL_load 6 = .ok (.astore_n 1, 1) := by decide +kernel
theorem dL_load_7 : decode cL_load 7 = .ok (.ldc2_w 21, 3) := by decide +kernel
theorem dL_load_10 : decode cL_load 10 = .ok (.lreturn, 1) := by decide +kernel
theorem dL_about_0 : decode cL_about 0 = .ok (.aload_n 0, 1) := by decide +kernel
theorem dL_about_1 : decode cL_about 1 = .ok (.iload_n 1, 1) := by decide +kernel
theorem dL_about_2 : decode cL_about 2 = .ok (.invokevirtual 27, 3) := by decide +kernel
theorem dL_about_5 : decode cL_about 5 = .ok (.i2l, 1) := by decide +kernel
theorem dL_about_6 : decode cL_about 6 = .ok (.lreturn, 1) := by decide +kernel
theorem dL_about_7 : decode cL_about 7 = .ok (.astore_n 2, 1) := by decide +kernel
theorem dL_about_8 : decode cL_about 8 = .ok (.ldc2_w 17, 3) := by decide +kernel
theorem dL_about_11 : decode cL_about 11 = .ok (.lreturn, 1) := by decide +kernel
theorem dL_word_0 : decode cL_word 0 = .ok (.aload_n 0, 1) := by decide +kernel
theorem dL_word_1 : decode cL_word 1 = .ok (.iload_n 1, 1) := by decide +kernel
theorem dL_word_2 : decode cL_word 2 = .ok (.iload_n 2, 1) := by decide +kernel
theorem dL_word_3 : decode cL_word 3 = .ok (.invokevirtual 30, 3) := by decide +kernel
theorem dL_word_6 : decode cL_word 6 = .ok (.i2l, 1) := by decide +kernel
theorem dL_word_7 : decode cL_word 7 = .ok (.lreturn, 1) := by decide +kernel
theorem dL_word_8 : decode cL_word 8 = .ok (.astore_n 3, 1) := by decide +kernel
theorem dL_word_9 : decode cL_word 9 = .ok (.ldc2_w 36, 3) := by decide +kernel
theorem dL_word_12 : decode cL_word 12 = .ok (.lreturn, 1) := by decide +kernel
theorem dL_word_13 : decode cL_word 13 = .ok (.astore_n 3, 1) := by decide +kernel
theorem dL_word_14 : decode cL_word 14 = .ok (.ldc2_w 17, 3) := by decide +kernel
theorem dL_word_17 : decode cL_word 17 = .ok (.lreturn, 1) := by decide +kernel
theorem dL_part_0 : decode cL_part 0 = .ok (.aload_n 0, 1) := by decide +kernel
theorem dL_part_1 : decode cL_part 1 = .ok (.iload_n 1, 1) := by decide +kernel
theorem dL_part_2 : decode cL_part 2 = .ok (.iload_n 2, 1) := by decide +kernel
theorem dL_part_3 : decode cL_part 3 = .ok (.iload_n 3, 1) := by decide +kernel
theorem dL_part_4 : decode cL_part 4 = .ok (.invokevirtual 38, 3) := by decide +kernel
theorem dL_part_7 : decode cL_part 7 = .ok (.i2l, 1) := by decide +kernel
theorem dL_part_8 : decode cL_part 8 = .ok (.lreturn, 1) := by decide +kernel
theorem dL_part_9 : decode cL_part 9 = .ok (.astore 4, 2) := by decide +kernel
theorem dL_part_11 : decode cL_part 11 = .ok (.ldc2_w 36, 3) := by decide +kernel
theorem dL_part_14 : decode cL_part 14 = .ok (.lreturn, 1) := by decide +kernel
theorem dL_part_15 : decode cL_part 15 = .ok (.astore 4, 2) := by decide +kernel
theorem dL_part_17 : decode cL_part 17 = .ok (.ldc2_w 17, 3) := by decide +kernel
theorem dL_part_20 : decode cL_part 20 = .ok (.lreturn, 1) := by decide +kernel
theorem dL_letter_0 : decode cL_letter 0 = .ok (.aload_n 0, 1) := by decide +kernel
theorem dL_letter_1 : decode cL_letter 1 = .ok (.iload_n 1, 1) := by decide +kernel
theorem dL_letter_2 : decode cL_letter 2 = .ok (.iload_n 2, 1) := by decide +kernel
theorem dL_letter_3 : decode cL_letter 3 = .ok (.iload_n 3, 1) := by decide +kernel
theorem dL_letter_4 : decode cL_letter 4 = .ok (.iload 4, 2) := by decide +kernel
theorem dL_letter_6 : decode cL_letter 6 = .ok (.invokevirtual 42, 3) := by decide +kernel
theorem dL_letter_9 : decode cL_letter 9 = .ok (.i2l, 1) := by decide +kernel
theorem dL_letter_10 : decode cL_letter 10 = .ok (.lreturn, 1) := by decide +kernel
theorem dL_letter_11 : decode cL_letter 11 = .ok (.astore 5, 2) := by decide +kernel
theorem dL_letter_13 : decode cL_letter 13 = .ok (.ldc2_w 36, 3) := by decide +kernel
theorem dL_letter_16 : decode cL_letter 16 = .ok (.lreturn, 1) := by decide +kernel
theorem dL_letter_17 : decode cL_letter 17 = .ok (.astore 5, 2) := by decide +kernel
theorem dL_letter_19 : decode cL_letter 19 = .ok (.ldc2_w 17, 3) := by decide +kernel
theorem dL_letter_22 : decode cL_letter 22 = .ok (.lreturn, 1) := by decide +kernel
theorem dL_entry_0 : decode cL_entry 0 = .ok (.aload_n 0, 1) := by decide +kernel
theorem dL_entry_1 : decode cL_entry 1 = .ok (.iload_n 1, 1) := by decide +kernel
theorem dL_entry_2 : decode cL_entry 2 = .ok (.iload_n 2, 1) := by decide +kernel
theorem dL_entry_3 : decode cL_entry 3 = .ok (.iload_n 3, 1) := by decide +kernel
theorem dL_entry_4 : decode cL_entry 4 = .ok (.invokevirtual 46, 3) := by decide +kernel
theorem dL_entry_7 : decode cL_entry 7 = .ok (.i2l, 1) := by decide +kernel
theorem dL_entry_8 : decode cL_entry 8 = .ok (.lreturn, 1) := by decide +kernel
theorem dL_entry_9 : decode cL_entry 9 = .ok (.astore 4, 2) := by decide +kernel
theorem dL_entry_11 : decode cL_entry 11 = .ok (.ldc2_w 36, 3) := by decide +kernel
theorem dL_entry_14 : decode cL_entry 14 = .ok (.lreturn, 1) := by decide +kernel
theorem dL_entry_15 : decode cL_entry 15 = .ok (.astore 4, 2) := by decide +kernel
theorem dL_entry_17 : decode cL_entry 17 = .ok (.ldc2_w 17, 3) := by decide +kernel
theorem dL_entry_20 : decode cL_entry 20 = .ok (.lreturn, 1) := by decide +kernel
theorem dL_row_0 : decode cL_row 0 = .ok (.aload_n 0, 1) := by decide +kernel
theorem dL_row_1 : decode cL_row 1 = .ok (.iload_n 1, 1) := by decide +kernel
theorem dL_row_2 : decode cL_row 2 = .ok (.iload_n 2, 1) := by decide +kernel
theorem dL_row_3 : decode cL_row 3 = .ok (.invokevirtual 50, 3) := by decide +kernel
theorem dL_row_6 : decode cL_row 6 = .ok (.i2l, 1) := by decide +kernel
theorem dL_row_7 : decode cL_row 7 = .ok (.lreturn, 1) := by decide +kernel
theorem dL_row_8 : decode cL_row 8 = .ok (.astore_n 3, 1) := by decide +kernel
theorem dL_row_9 : decode cL_row 9 = .ok (.ldc2_w 36, 3) := by decide +kernel
theorem dL_row_12 : decode cL_row 12 = .ok (.lreturn, 1) := by decide +kernel
theorem dL_row_13 : decode cL_row 13 = .ok (.astore_n 3, 1) := by decide +kernel
theorem dL_row_14 : decode cL_row 14 = .ok (.ldc2_w 17, 3) := by decide +kernel
theorem dL_row_17 : decode cL_row 17 = .ok (.lreturn, 1) := by decide +kernel
theorem dL_at_0 : decode cL_at 0 = .ok (.aload_n 0, 1) := by decide +kernel
theorem dL_at_1 : decode cL_at 1 = .ok (.iload_n 1, 1) := by decide +kernel
theorem dL_at_2 : decode cL_at 2 = .ok (.iload_n 2, 1) := by decide +kernel
theorem dL_at_3 : decode cL_at 3 = .ok (.invokevirtual 53, 3) := by decide +kernel
theorem dL_at_6 : decode cL_at 6 = .ok (.i2l, 1) := by decide +kernel
theorem dL_at_7 : decode cL_at 7 = .ok (.lreturn, 1) := by decide +kernel
theorem dL_at_8 : decode cL_at 8 = .ok (.astore_n 3, 1) := by decide +kernel
theorem dL_at_9 : decode cL_at 9 = .ok (.ldc2_w 36, 3) := by decide +kernel
theorem dL_at_12 : decode cL_at 12 = .ok (.lreturn, 1) := by decide +kernel
theorem dL_at_13 : decode cL_at 13 = .ok (.astore_n 3, 1) := by decide +kernel
theorem dL_at_14 : decode cL_at 14 = .ok (.ldc2_w 17, 3) := by decide +kernel
theorem dL_at_17 : decode cL_at 17 = .ok (.lreturn, 1) := by decide +kernel
theorem dL_insert_0 : decode cL_insert 0 = .ok (.aload_n 0, 1) := by decide +kernel
theorem dL_insert_1 : decode cL_insert 1 = .ok (.iload_n 1, 1) := by decide +kernel
theorem dL_insert_2 : decode cL_insert 2 = .ok (.invokevirtual 56, 3) := by decide +kernel
theorem dL_insert_5 : decode cL_insert 5 = .ok (.i2l, 1) := by decide +kernel
theorem dL_insert_6 : decode cL_insert 6 = .ok (.lreturn, 1) := by decide +kernel
theorem dL_insert_7 : decode cL_insert 7 = .ok (.astore_n 2, 1) := by decide +kernel
theorem dL_insert_8 : decode cL_insert 8 = .ok (.ldc2_w 36, 3) := by decide +kernel
theorem dL_insert_11 : decode cL_insert 11 = .ok (.lreturn, 1) := by decide +kernel
theorem dL_insert_12 : decode cL_insert 12 = .ok (.astore_n 2, 1) := by decide +kernel
theorem dL_insert_13 : decode cL_insert 13 = .ok (.ldc2_w 21, 3) := by decide +kernel
theorem dL_insert_16 : decode cL_insert 16 = .ok (.lreturn, 1) := by decide +kernel
theorem dL_remove_0 : decode cL_remove 0 = .ok (.aload_n 0, 1) := by decide +kernel
theorem dL_remove_1 : decode cL_remove 1 = .ok (.iload_n 1, 1) := by decide +kernel
theorem dL_remove_2 : decode cL_remove 2 = .ok (.invokevirtual 59, 3) := by decide +kernel
theorem dL_remove_5 : decode cL_remove 5 = .ok (.i2l, 1) := by decide +kernel
theorem dL_remove_6 : decode cL_remove 6 = .ok (.lreturn, 1) := by decide +kernel
theorem dL_remove_7 : decode cL_remove 7 = .ok (.astore_n 2, 1) := by decide +kernel
theorem dL_remove_8 : decode cL_remove 8 = .ok (.ldc2_w 36, 3) := by decide +kernel
theorem dL_remove_11 : decode cL_remove 11 = .ok (.lreturn, 1) := by decide +kernel
theorem dL_end_0 : decode cL_end 0 = .ok (.aload_n 0, 1) := by decide +kernel
theorem dL_end_1 : decode cL_end 1 = .ok (.iload_n 1, 1) := by decide +kernel
theorem dL_end_2 : decode cL_end 2 = .ok (.invokevirtual 62, 3) := by decide +kernel
theorem dL_end_5 : decode cL_end 5 = .ok (.i2l, 1) := by decide +kernel
theorem dL_end_6 : decode cL_end 6 = .ok (.lreturn, 1) := by decide +kernel
theorem dL_end_7 : decode cL_end 7 = .ok (.astore_n 2, 1) := by decide +kernel
theorem dL_end_8 : decode cL_end 8 = .ok (.ldc2_w 36, 3) := by decide +kernel
theorem dL_end_11 : decode cL_end 11 = .ok (.lreturn, 1) := by decide +kernel
theorem dL_join_0 : decode cL_join 0 = .ok (.aload_n 0, 1) := by decide +kernel
theorem dL_join_1 : decode cL_join 1 = .ok (.iload_n 1, 1) := by decide +kernel
theorem dL_join_2 : decode cL_join 2 = .ok (.invokevirtual 65, 3) := by decide +kernel
theorem dL_join_5 : decode cL_join 5 = .ok (.i2l, 1) := by decide +kernel
theorem dL_join_6 : decode cL_join 6 = .ok (.lreturn, 1) := by decide +kernel
theorem dL_join_7 : decode cL_join 7 = .ok (.astore_n 2, 1) := by decide +kernel
theorem dL_join_8 : decode cL_join 8 = .ok (.ldc2_w 36, 3) := by decide +kernel
theorem dL_join_11 : decode cL_join 11 = .ok (.lreturn, 1) := by decide +kernel
theorem dL_setFree_0 : decode cL_setFree 0 = .ok (.aload_n 0, 1) := by decide +kernel
theorem dL_setFree_1 : decode cL_setFree 1 = .ok (.iload_n 1, 1) := by decide +kernel
theorem dL_setFree_2 : decode cL_setFree 2 = .ok (.invokevirtual 68, 3) := by decide +kernel
theorem dL_setFree_5 : decode cL_setFree 5 = .ok (.i2l, 1) := by decide +kernel
theorem dL_setFree_6 : decode cL_setFree 6 = .ok (.lreturn, 1) := by decide +kernel
theorem dL_setFree_7 : decode cL_setFree 7 = .ok (.astore_n 2, 1) := by decide +kernel
theorem dL_setFree_8 : decode cL_setFree 8 = .ok (.ldc2_w 36, 3) := by decide +kernel
theorem dL_setFree_11 : decode cL_setFree 11 = .ok (.lreturn, 1) := by decide +kernel
theorem dL_setFree_12 : decode cL_setFree 12 = .ok (.astore_n 2, 1) := by decide +kernel
theorem dL_setFree_13 : decode cL_setFree 13 = .ok (.ldc2_w 21, 3) := by decide +kernel
theorem dL_setFree_16 : decode cL_setFree 16 = .ok (.lreturn, 1) := by decide +kernel
theorem dL_setGloss_0 : decode cL_setGloss 0 = .ok (.aload_n 0, 1) := by decide +kernel
theorem dL_setGloss_1 : decode cL_setGloss 1 = .ok (.iload_n 1, 1) := by decide +kernel
theorem dL_setGloss_2 : decode cL_setGloss 2 = .ok (.iload_n 2, 1) := by decide +kernel
theorem dL_setGloss_3 : decode cL_setGloss 3 = .ok (.invokevirtual 71, 3) := by decide +kernel
theorem dL_setGloss_6 : decode cL_setGloss 6 = .ok (.i2l, 1) := by decide +kernel
theorem dL_setGloss_7 : decode cL_setGloss 7 = .ok (.lreturn, 1) := by decide +kernel
theorem dL_setGloss_8 : decode cL_setGloss 8 = .ok (.astore_n 3, 1) := by decide +kernel
theorem dL_setGloss_9 : decode cL_setGloss 9 = .ok (.ldc2_w 36, 3) := by decide +kernel
theorem dL_setGloss_12 : decode cL_setGloss 12 = .ok (.lreturn, 1) := by decide +kernel
theorem dL_setGloss_13 : decode cL_setGloss 13 = .ok (.astore_n 3, 1) := by decide +kernel
theorem dL_setGloss_14 : decode cL_setGloss 14 = .ok (.ldc2_w 21, 3) := by decide +kernel
theorem dL_setGloss_17 : decode cL_setGloss 17 = .ok (.lreturn, 1) := by decide +kernel
theorem dL_set_0 : decode cL_set 0 = .ok (.aload_n 0, 1) := by decide +kernel
theorem dL_set_1 : decode cL_set 1 = .ok (.iload_n 1, 1) := by decide +kernel
theorem dL_set_2 : decode cL_set 2 = .ok (.iload_n 2, 1) := by decide +kernel
theorem dL_set_3 : decode cL_set 3 = .ok (.invokevirtual 74, 3) := by decide +kernel
theorem dL_set_6 : decode cL_set 6 = .ok (.i2l, 1) := by decide +kernel
theorem dL_set_7 : decode cL_set 7 = .ok (.lreturn, 1) := by decide +kernel
theorem dL_set_8 : decode cL_set 8 = .ok (.astore_n 3, 1) := by decide +kernel
theorem dL_set_9 : decode cL_set 9 = .ok (.ldc2_w 17, 3) := by decide +kernel
theorem dL_set_12 : decode cL_set 12 = .ok (.lreturn, 1) := by decide +kernel
theorem dL_learn_0 : decode cL_learn 0 = .ok (.aload_n 0, 1) := by decide +kernel
theorem dL_learn_1 : decode cL_learn 1 = .ok (.iload_n 1, 1) := by decide +kernel
theorem dL_learn_2 : decode cL_learn 2 = .ok (.iload_n 2, 1) := by decide +kernel
theorem dL_learn_3 : decode cL_learn 3 = .ok (.invokevirtual 77, 3) := by decide +kernel
theorem dL_learn_6 : decode cL_learn 6 = .ok (.i2l, 1) := by decide +kernel
theorem dL_learn_7 : decode cL_learn 7 = .ok (.lreturn, 1) := by decide +kernel
theorem dL_learn_8 : decode cL_learn 8 = .ok (.astore_n 3, 1) := by decide +kernel
theorem dL_learn_9 : decode cL_learn 9 = .ok (.ldc2_w 36, 3) := by decide +kernel
theorem dL_learn_12 : decode cL_learn 12 = .ok (.lreturn, 1) := by decide +kernel
theorem dL_learn_13 : decode cL_learn 13 = .ok (.astore_n 3, 1) := by decide +kernel
theorem dL_learn_14 : decode cL_learn 14 = .ok (.ldc2_w 21, 3) := by decide +kernel
theorem dL_learn_17 : decode cL_learn 17 = .ok (.lreturn, 1) := by decide +kernel
theorem dL_forget_0 : decode cL_forget 0 = .ok (.aload_n 0, 1) := by decide +kernel
theorem dL_forget_1 : decode cL_forget 1 = .ok (.iload_n 1, 1) := by decide +kernel
theorem dL_forget_2 : decode cL_forget 2 = .ok (.invokevirtual 80, 3) := by decide +kernel
theorem dL_forget_5 : decode cL_forget 5 = .ok (.i2l, 1) := by decide +kernel
theorem dL_forget_6 : decode cL_forget 6 = .ok (.lreturn, 1) := by decide +kernel
theorem dL_forget_7 : decode cL_forget 7 = .ok (.astore_n 2, 1) := by decide +kernel
theorem dL_forget_8 : decode cL_forget 8 = .ok (.ldc2_w 36, 3) := by decide +kernel
theorem dL_forget_11 : decode cL_forget 11 = .ok (.lreturn, 1) := by decide +kernel
theorem dL_undo_0 : decode cL_undo 0 = .ok (.aload_n 0, 1) := by decide +kernel
theorem dL_undo_1 : decode cL_undo 1 = .ok (.invokevirtual 83, 3) := by decide +kernel
theorem dL_undo_4 : decode cL_undo 4 = .ok (.i2l, 1) := by decide +kernel
theorem dL_undo_5 : decode cL_undo 5 = .ok (.lreturn, 1) := by decide +kernel
theorem dL_undo_6 : decode cL_undo 6 = .ok (.astore_n 1, 1) := by decide +kernel
theorem dL_undo_7 : decode cL_undo 7 = .ok (.ldc2_w 21, 3) := by decide +kernel
theorem dL_undo_10 : decode cL_undo 10 = .ok (.lreturn, 1) := by decide +kernel
theorem dL_gap_0 : decode cL_gap 0 = .ok (.aload_n 0, 1) := by decide +kernel
theorem dL_gap_1 : decode cL_gap 1 = .ok (.iload_n 1, 1) := by decide +kernel
theorem dL_gap_2 : decode cL_gap 2 = .ok (.invokevirtual 86, 3) := by decide +kernel
theorem dL_gap_5 : decode cL_gap 5 = .ok (.i2l, 1) := by decide +kernel
theorem dL_gap_6 : decode cL_gap 6 = .ok (.lreturn, 1) := by decide +kernel
theorem dL_gap_7 : decode cL_gap 7 = .ok (.astore_n 2, 1) := by decide +kernel
theorem dL_gap_8 : decode cL_gap 8 = .ok (.ldc2_w 17, 3) := by decide +kernel
theorem dL_gap_11 : decode cL_gap 11 = .ok (.lreturn, 1) := by decide +kernel
theorem dL_widthFor_0 : decode cL_widthFor 0 = .ok (.aload_n 0, 1) := by decide +kernel
theorem dL_widthFor_1 : decode cL_widthFor 1 = .ok (.iload_n 1, 1) := by decide +kernel
theorem dL_widthFor_2 : decode cL_widthFor 2 = .ok (.invokevirtual 89, 3) := by decide +kernel
theorem dL_widthFor_5 : decode cL_widthFor 5 = .ok (.i2l, 1) := by decide +kernel
theorem dL_widthFor_6 : decode cL_widthFor 6 = .ok (.lreturn, 1) := by decide +kernel
theorem dL_widthFor_7 : decode cL_widthFor 7 = .ok (.astore_n 2, 1) := by decide +kernel
theorem dL_widthFor_8 : decode cL_widthFor 8 = .ok (.ldc2_w 17, 3) := by decide +kernel
theorem dL_widthFor_11 : decode cL_widthFor 11 = .ok (.lreturn, 1) := by decide +kernel
theorem dL_rowsWith_0 : decode cL_rowsWith 0 = .ok (.aload_n 0, 1) := by decide +kernel
theorem dL_rowsWith_1 : decode cL_rowsWith 1 = .ok (.iload_n 1, 1) := by decide +kernel
theorem dL_rowsWith_2 : decode cL_rowsWith 2 = .ok (.iload_n 2, 1) := by decide +kernel
theorem dL_rowsWith_3 : decode cL_rowsWith 3 = .ok (.invokevirtual 92, 3) := by decide +kernel
theorem dL_rowsWith_6 : decode cL_rowsWith 6 = .ok (.i2l, 1) := by decide +kernel
theorem dL_rowsWith_7 : decode cL_rowsWith 7 = .ok (.lreturn, 1) := by decide +kernel
theorem dL_rowsWith_8 : decode cL_rowsWith 8 = .ok (.astore_n 3, 1) := by decide +kernel
theorem dL_rowsWith_9 : decode cL_rowsWith 9 = .ok (.ldc2_w 17, 3) := by decide +kernel
theorem dL_rowsWith_12 : decode cL_rowsWith 12 = .ok (.lreturn, 1) := by decide +kernel
theorem dL_script_0 : decode cL_script 0 = .ok (.aload_n 0, 1) := by decide +kernel
theorem dL_script_1 : decode cL_script 1 = .ok (.iload_n 1, 1) := by decide +kernel
theorem dL_script_2 : decode cL_script 2 = .ok (.lload_n 2, 1) := by decide +kernel
theorem dL_script_3 : decode cL_script 3 = .ok (.invokevirtual 95, 3) := by decide +kernel
theorem dL_script_6 : decode cL_script 6 = .ok (.i2l, 1) := by decide +kernel
theorem dL_script_7 : decode cL_script 7 = .ok (.lreturn, 1) := by decide +kernel
theorem dL_script_8 : decode cL_script 8 = .ok (.astore 4, 2) := by decide +kernel
theorem dL_script_10 : decode cL_script 10 = .ok (.ldc2_w 17, 3) := by decide +kernel
theorem dL_script_13 : decode cL_script 13 = .ok (.lreturn, 1) := by decide +kernel
theorem dL_simulate_0 : decode cL_simulate 0 = .ok (.aload_n 0, 1) := by decide +kernel
theorem dL_simulate_1 : decode cL_simulate 1 = .ok (.lload_n 1, 1) := by decide +kernel
theorem dL_simulate_2 : decode cL_simulate 2 = .ok (.iload_n 3, 1) := by decide +kernel
theorem dL_simulate_3 : decode cL_simulate 3 = .ok (.invokevirtual 99, 3) := by decide +kernel
theorem dL_simulate_6 : decode cL_simulate 6 = .ok (.i2l, 1) := by decide +kernel
theorem dL_simulate_7 : decode cL_simulate 7 = .ok (.lreturn, 1) := by decide +kernel
theorem dL_simulate_8 : decode cL_simulate 8 = .ok (.astore 4, 2) := by decide +kernel
theorem dL_simulate_10 : decode cL_simulate 10 = .ok (.ldc2_w 17, 3) := by decide +kernel
theorem dL_simulate_13 : decode cL_simulate 13 = .ok (.lreturn, 1) := by decide +kernel
theorem dL_save_0 : decode cL_save 0 = .ok (.aload_n 0, 1) := by decide +kernel
theorem dL_save_1 : decode cL_save 1 = .ok (.iload_n 1, 1) := by decide +kernel
theorem dL_save_2 : decode cL_save 2 = .ok (.invokevirtual 103, 3) := by decide +kernel
theorem dL_save_5 : decode cL_save 5 = .ok (.i2l, 1) := by decide +kernel
theorem dL_save_6 : decode cL_save 6 = .ok (.lreturn, 1) := by decide +kernel
theorem dL_save_7 : decode cL_save 7 = .ok (.astore_n 2, 1) := by decide +kernel
theorem dL_save_8 : decode cL_save 8 = .ok (.ldc2_w 36, 3) := by decide +kernel
theorem dL_save_11 : decode cL_save 11 = .ok (.lreturn, 1) := by decide +kernel
theorem dL_restore_0 : decode cL_restore 0 = .ok (.aload_n 0, 1) := by decide +kernel
theorem dL_restore_1 : decode cL_restore 1 = .ok (.iload_n 1, 1) := by decide +kernel
theorem dL_restore_2 : decode cL_restore 2 = .ok (.invokevirtual 106, 3) := by decide +kernel
theorem dL_restore_5 : decode cL_restore 5 = .ok (.i2l, 1) := by decide +kernel
theorem dL_restore_6 : decode cL_restore 6 = .ok (.lreturn, 1) := by decide +kernel
theorem dL_restore_7 : decode cL_restore 7 = .ok (.astore_n 2, 1) := by decide +kernel
theorem dL_restore_8 : decode cL_restore 8 = .ok (.ldc2_w 36, 3) := by decide +kernel
theorem dL_restore_11 : decode cL_restore 11 = .ok (.lreturn, 1) := by decide +kernel
theorem dL_restore_12 : decode cL_restore 12 = .ok (.astore_n 2, 1) := by decide +kernel
theorem dL_restore_13 : decode cL_restore 13 = .ok (.ldc2_w 21, 3) := by decide +kernel
theorem dL_restore_16 : decode cL_restore 16 = .ok (.lreturn, 1) := by decide +kernel
theorem dL_words_0 : decode cL_words 0 = .ok (.aload_n 0, 1) := by decide +kernel
theorem dL_words_1 : decode cL_words 1 = .ok (.iconst 0, 1) := by decide +kernel
theorem dL_words_2 : decode cL_words 2 = .ok (.invokestatic 109, 3) := by decide +kernel
theorem dL_words_5 : decode cL_words 5 = .ok (.l2i, 1) := by decide +kernel
theorem dL_words_6 : decode cL_words 6 = .ok (.ireturn, 1) := by decide +kernel
