theorem dL_length_0 : decode cL_length 0 = .ok (.aload_n 2, 1) := by decide +kernel
theorem dL_length_1 : decode cL_length 1 = .ok (.iconst 0, 1) := by decide +kernel
theorem dL_length_2 : decode cL_length 2 = .ok (.aload_n 0, 1) := by decide +kernel
theorem dL_length_3 : decode cL_length 3 = .ok (.iload_n 1, 1) := by decide +kernel
theorem dL_length_4 : decode cL_length 4 = .ok (.invokevirtual 7, 3) := by decide +kernel
theorem dL_length_7 : decode cL_length 7 = .ok (.i2l, 1) := by decide +kernel
theorem dL_length_8 : decode cL_length 8 = .ok (.lastore, 1) := by decide +kernel
theorem dL_length_9 : decode cL_length 9 = .ok (.goto 6, 3) := by decide +kernel
theorem dL_length_12 : decode cL_length 12 = .ok (.astore_n 3, 1) := by decide +kernel
theorem dL_length_13 : decode cL_length 13 = .ok (.iconst 1, 1) := by decide +kernel
theorem dL_length_14 : decode cL_length 14 = .ok (.ireturn, 1) := by decide +kernel
theorem dL_length_15 : decode cL_length 15 = .ok (.iconst 0, 1) := by decide +kernel
theorem dL_length_16 : decode cL_length 16 = .ok (.ireturn, 1) := by decide +kernel
theorem dL_sign_0 : decode cL_sign 0 = .ok (.aload_n 3, 1) := by decide +kernel
theorem dL_sign_1 : decode cL_sign 1 = .ok (.iconst 0, 1) := by decide +kernel
theorem dL_sign_2 : decode cL_sign 2 = .ok (.aload_n 0, 1) := by decide +kernel
theorem dL_sign_3 : decode cL_sign 3 = .ok (.iload_n 1, 1) := by decide +kernel
theorem dL_sign_4 : decode cL_sign 4 = .ok (.iload_n 2, 1) := by decide +kernel
theorem dL_sign_5 : decode cL_sign 5 = .ok (.invokevirtual 15, 3) := by decide +kernel
theorem dL_sign_8 : decode cL_sign 8 = .ok (.i2l, 1) := by decide +kernel
theorem dL_sign_9 : decode cL_sign 9 = .ok (.lastore, 1) := by decide +kernel
theorem dL_sign_10 : decode cL_sign 10 = .ok (.goto 11, 3) := by decide +kernel
theorem dL_sign_13 : decode cL_sign 13 = .ok (.astore 4, 2) := by decide +kernel
theorem dL_sign_15 : decode cL_sign 15 = .ok (.iconst 1, 1) := by decide +kernel
theorem dL_sign_16 : decode cL_sign 16 = .ok (.ireturn, 1) := by decide +kernel
theorem dL_sign_17 : decode cL_sign 17 = .ok (.astore 4, 2) := by decide +kernel
theorem dL_sign_19 : decode cL_sign 19 = .ok (.iconst 2, 1) := by decide +kernel
theorem dL_sign_20 : decode cL_sign 20 = .ok (.ireturn, 1) := by decide +kernel
theorem dL_sign_21 : decode cL_sign 21 = .ok (.iconst 0, 1) := by decide +kernel
theorem dL_sign_22 : decode cL_sign 22 = .ok (.ireturn, 1) := by decide +kernel
theorem dL_insert_0 : decode cL_insert 0 = .ok (.aload 4, 2) := by decide +kernel
theorem dL_insert_2 : decode cL_insert 2 = .ok (.iconst 0, 1) := by decide +kernel
theorem dL_insert_3 : decode cL_insert 3 = .ok (.aload_n 0, 1) := by decide +kernel
theorem dL_insert_4 : decode cL_insert 4 = .ok (.iload_n 1, 1) := by decide +kernel
theorem dL_insert_5 : decode cL_insert 5 = .ok (.iload_n 2, 1) := by decide +kernel
theorem dL_insert_6 : decode cL_insert 6 = .ok (.iload_n 3, 1) := by decide +kernel
theorem dL_insert_7 : decode cL_insert 7 = .ok (.invokevirtual 21, 3) := by decide +kernel
theorem dL_insert_10 : decode cL_insert 10 = .ok (.i2l, 1) := by decide +kernel
theorem dL_insert_11 : decode cL_insert 11 = .ok (.lastore, 1) := by decide +kernel
theorem dL_insert_12 : decode cL_insert 12 = .ok (.goto 15, 3) := by decide +kernel
theorem dL_insert_15 : decode cL_insert 15 = .ok (.astore 5, 2) := by decide +kernel
theorem dL_insert_17 : decode cL_insert 17 = .ok (.iconst 1, 1) := by decide +kernel
theorem dL_insert_18 : decode cL_insert 18 = .ok (.ireturn, 1) := by decide +kernel
theorem dL_insert_19 : decode cL_insert 19 = .ok (.astore 5, 2) := by decide +kernel
theorem dL_insert_21 : decode cL_insert 21 = .ok (.iconst 2, 1) := by decide +kernel
theorem dL_insert_22 : decode cL_insert 22 = .ok (.ireturn, 1) := by decide +kernel
theorem dL_insert_23 : decode cL_insert 23 = .ok (.astore 5, 2) := by decide +kernel
theorem dL_insert_25 : decode cL_insert 25 = .ok (.iconst 3, 1) := by decide +kernel
theorem dL_insert_26 : decode cL_insert 26 = .ok (.ireturn, 1) := by decide +kernel
theorem dL_insert_27 : decode cL_insert 27 = .ok (.iconst 0, 1) := by decide +kernel
theorem dL_insert_28 : decode cL_insert 28 = .ok (.ireturn, 1) := by decide +kernel
theorem dL_remove_0 : decode cL_remove 0 = .ok (.aload 4, 2) := by decide +kernel
theorem dL_remove_2 : decode cL_remove 2 = .ok (.iconst 0, 1) := by decide +kernel
theorem dL_remove_3 : decode cL_remove 3 = .ok (.aload_n 0, 1) := by decide +kernel
theorem dL_remove_4 : decode cL_remove 4 = .ok (.iload_n 1, 1) := by decide +kernel
theorem dL_remove_5 : decode cL_remove 5 = .ok (.iload_n 2, 1) := by decide +kernel
theorem dL_remove_6 : decode cL_remove 6 = .ok (.iload_n 3, 1) := by decide +kernel
theorem dL_remove_7 : decode cL_remove 7 = .ok (.invokevirtual 27, 3) := by decide +kernel
theorem dL_remove_10 : decode cL_remove 10 = .ok (.i2l, 1) := by decide +kernel
theorem dL_remove_11 : decode cL_remove 11 = .ok (.lastore, 1) := by decide +kernel
theorem dL_remove_12 : decode cL_remove 12 = .ok (.goto 11, 3) := by decide +kernel
theorem dL_remove_15 : decode cL_remove 15 = .ok (.astore 5, 2) := by decide +kernel
theorem dL_remove_17 : decode cL_remove 17 = .ok (.iconst 1, 1) := by decide +kernel
theorem dL_remove_18 : decode cL_remove 18 = .ok (.ireturn, 1) := by decide +kernel
theorem dL_remove_19 : decode cL_remove 19 = .ok (.astore 5, 2) := by decide +kernel
theorem dL_remove_21 : decode cL_remove 21 = .ok (.iconst 2, 1) := by decide +kernel
theorem dL_remove_22 : decode cL_remove 22 = .ok (.ireturn, 1) := by decide +kernel
theorem dL_remove_23 : decode cL_remove 23 = .ok (.iconst 0, 1) := by decide +kernel
theorem dL_remove_24 : decode cL_remove 24 = .ok (.ireturn, 1) := by decide +kernel
theorem dL_breakLine_0 : decode cL_breakLine 0 = .ok (.aload_n 3, 1) := by decide +kernel
theorem dL_breakLine_1 : decode cL_breakLine 1 = .ok (.iconst 0, 1) := by decide +kernel
theorem dL_breakLine_2 : decode cL_breakLine 2 = .ok (.aload_n 0, 1) := by decide +kernel
theorem dL_breakLine_3 : decode cL_breakLine 3 = .ok (.iload_n 1, 1) := by decide +kernel
theorem dL_breakLine_4 : decode cL_breakLine 4 = .ok (.iload_n 2, 1) := by decide +kernel
theorem dL_breakLine_5 : decode cL_breakLine 5 = .ok (.invokevirtual 30, 3) := by decide +kernel
theorem dL_breakLine_8 : decode cL_breakLine 8 = .ok (.i2l, 1) := by decide +kernel
theorem dL_breakLine_9 : decode cL_breakLine 9 = .ok (.lastore, 1) := by decide +kernel
theorem dL_breakLine_10 : decode cL_breakLine 10 = .ok (.goto 15, 3) := by decide +kernel
theorem dL_breakLine_13 : decode cL_breakLine 13 = .ok (.astore 4, 2) := by decide +kernel
theorem dL_breakLine_15 : decode cL_breakLine 15 = .ok (.iconst 1, 1) := by decide +kernel
theorem dL_breakLine_16 : decode cL_breakLine 16 = .ok (.ireturn, 1) := by decide +kernel
theorem dL_breakLine_17 : decode cL_breakLine 17 = .ok (.astore 4, 2) := by decide +kernel
theorem dL_breakLine_19 : decode cL_breakLine 19 = .ok (.iconst 2, 1) := by decide +kernel
theorem dL_breakLine_20 : decode cL_breakLine 20 = .ok (.ireturn, 1) := by decide +kernel
theorem dL_breakLine_21 : decode cL_breakLine 21 = .ok (.astore 4, 2) := by decide +kernel
theorem dL_breakLine_23 : decode cL_breakLine 23 = .ok (.iconst 3, 1) := by decide +kernel
theorem dL_breakLine_24 : decode cL_breakLine 24 = .ok (.ireturn, 1) := by decide +kernel
theorem dL_breakLine_25 : decode cL_breakLine 25 = .ok (.iconst 0, 1) := by decide +kernel
theorem dL_breakLine_26 : decode cL_breakLine 26 = .ok (.ireturn, 1) := by decide +kernel
theorem dL_join_0 : decode cL_join 0 = .ok (.aload_n 2, 1) := by decide +kernel
theorem dL_join_1 : decode cL_join 1 = .ok (.iconst 0, 1) := by decide +kernel
theorem dL_join_2 : decode cL_join 2 = .ok (.aload_n 0, 1) := by decide +kernel
theorem dL_join_3 : decode cL_join 3 = .ok (.iload_n 1, 1) := by decide +kernel
theorem dL_join_4 : decode cL_join 4 = .ok (.invokevirtual 33, 3) := by decide +kernel
theorem dL_join_7 : decode cL_join 7 = .ok (.i2l, 1) := by decide +kernel
theorem dL_join_8 : decode cL_join 8 = .ok (.lastore, 1) := by decide +kernel
theorem dL_join_9 : decode cL_join 9 = .ok (.goto 9, 3) := by decide +kernel
theorem dL_join_12 : decode cL_join 12 = .ok (.astore_n 3, 1) := by decide +kernel
theorem dL_join_13 : decode cL_join 13 = .ok (.iconst 1, 1) := by decide +kernel
theorem dL_join_14 : decode cL_join 14 = .ok (.ireturn, 1) := by decide +kernel
theorem dL_join_15 : decode cL_join 15 = .ok (.astore_n 3, 1) := by decide +kernel
theorem dL_join_16 : decode cL_join 16 = .ok (.iconst 2, 1) := by decide +kernel
theorem dL_join_17 : decode cL_join 17 = .ok (.ireturn, 1) := by decide +kernel
theorem dL_join_18 : decode cL_join 18 = .ok (.iconst 0, 1) := by decide +kernel
theorem dL_join_19 : decode cL_join 19 = .ok (.ireturn, 1) := by decide +kernel
theorem dL_setMark_0 : decode cL_setMark 0 = .ok (.aload_n 3, 1) := by decide +kernel
theorem dL_setMark_1 : decode cL_setMark 1 = .ok (.iconst 0, 1) := by decide +kernel
theorem dL_setMark_2 : decode cL_setMark 2 = .ok (.aload_n 0, 1) := by decide +kernel
theorem dL_setMark_3 : decode cL_setMark 3 = .ok (.iload_n 1, 1) := by decide +kernel
theorem dL_setMark_4 : decode cL_setMark 4 = .ok (.iload_n 2, 1) := by decide +kernel
theorem dL_setMark_5 : decode cL_setMark 5 = .ok (.invokevirtual 36, 3) := by decide +kernel
theorem dL_setMark_8 : decode cL_setMark 8 = .ok (.ifCond .eq 7, 3) := by decide +kernel
theorem dL_setMark_11 : decode cL_setMark 11 = .ok (.lconst 1, 1) := by decide +kernel
theorem dL_setMark_12 : decode cL_setMark 12 = .ok (.goto 4, 3) := by decide +kernel
theorem dL_setMark_15 : decode cL_setMark 15 = .ok (.lconst 0, 1) := by decide +kernel
theorem dL_setMark_16 : decode cL_setMark 16 = .ok (.lastore, 1) := by decide +kernel
theorem dL_setMark_17 : decode cL_setMark 17 = .ok (.goto 7, 3) := by decide +kernel
theorem dL_setMark_20 : decode cL_setMark 20 = .ok (.astore 4, 2) := by decide +kernel
theorem dL_setMark_22 : decode cL_setMark 22 = .ok (.iconst 1, 1) := by decide +kernel
theorem dL_setMark_23 : decode cL_setMark 23 = .ok (.ireturn, 1) := by decide +kernel
theorem dL_setMark_24 : decode cL_setMark 24 = .ok (.iconst 0, 1) := by decide +kernel
theorem dL_setMark_25 : decode cL_setMark 25 = .ok (.ireturn, 1) := by decide +kernel
theorem dL_shape_0 : decode cL_shape 0 = .ok (.aload_n 0, 1) := by decide +kernel
theorem dL_shape_1 : decode cL_shape 1 = .ok (.iload_n 1, 1) := by decide +kernel
theorem dL_shape_2 : decode cL_shape 2 = .ok (.iload_n 2, 1) := by decide +kernel
theorem dL_shape_3 : decode cL_shape 3 = .ok (.iload_n 3, 1) := by decide +kernel
theorem dL_shape_4 : decode cL_shape 4 = .ok (.iload 4, 2) := by decide +kernel
theorem dL_shape_6 : decode cL_shape 6 = .ok (.invokevirtual 40, 3) := by decide +kernel
theorem dL_shape_9 : decode cL_shape 9 = .ok (.goto 11, 3) := by decide +kernel
theorem dL_shape_12 : decode cL_shape 12 = .ok (.astore 5, 2) := by decide +kernel
theorem dL_shape_14 : decode cL_shape 14 = .ok (.iconst 1, 1) := by decide +kernel
theorem dL_shape_15 : decode cL_shape 15 = .ok (.ireturn, 1) := by decide +kernel
theorem dL_shape_16 : decode cL_shape 16 = .ok (.astore 5, 2) := by decide +kernel
theorem dL_shape_18 : decode cL_shape 18 = .ok (.iconst 2, 1) := by decide +kernel
theorem dL_shape_19 : decode cL_shape 19 = .ok (.ireturn, 1) := by decide +kernel
theorem dL_shape_20 : decode cL_shape 20 = .ok (.iconst 0, 1) := by decide +kernel
theorem dL_shape_21 : decode cL_shape 21 = .ok (.ireturn, 1) := by decide +kernel
theorem dL_hide_0 : decode cL_hide 0 = .ok (.aload 5, 2) := by decide +kernel
theorem dL_hide_2 : decode cL_hide 2 = .ok (.iconst 0, 1) := by decide +kernel
theorem dL_hide_3 : decode cL_hide 3 = .ok (.aload_n 0, 1) := by decide +kernel
theorem dL_hide_4 : decode cL_hide 4 = .ok (.iload_n 1, 1) := by decide +kernel
theorem dL_hide_5 : decode cL_hide 5 = .ok (.iload_n 2, 1) := by decide +kernel
theorem dL_hide_6 : decode cL_hide 6 = .ok (.iload_n 3, 1) := by decide +kernel
theorem dL_hide_7 : decode cL_hide 7 = .ok (.iload 4, 2) := by decide +kernel
theorem dL_hide_9 : decode cL_hide 9 = .ok (.invokevirtual 44, 3) := by decide +kernel
theorem dL_hide_12 : decode cL_hide 12 = .ok (.i2l, 1) := by decide +kernel
theorem dL_hide_13 : decode cL_hide 13 = .ok (.lastore, 1) := by decide +kernel
theorem dL_hide_14 : decode cL_hide 14 = .ok (.goto 15, 3) := by decide +kernel
theorem dL_hide_17 : decode cL_hide 17 = .ok (.astore 6, 2) := by decide +kernel
theorem dL_hide_19 : decode cL_hide 19 = .ok (.iconst 1, 1) := by decide +kernel
theorem dL_hide_20 : decode cL_hide 20 = .ok (.ireturn, 1) := by decide +kernel
theorem dL_hide_21 : decode cL_hide 21 = .ok (.astore 6, 2) := by decide +kernel
theorem dL_hide_23 : decode cL_hide 23 = .ok (.iconst 2, 1) := by decide +kernel
theorem dL_hide_24 : decode cL_hide 24 = .ok (.ireturn, 1) := by decide +kernel
theorem dL_hide_25 : decode cL_hide 25 = .ok (.astore 6, 2) := by decide +kernel
theorem dL_hide_27 : decode cL_hide 27 = .ok (.iconst 3, 1) := by decide +kernel
theorem dL_hide_28 : decode cL_hide 28 = .ok (.ireturn, 1) := by decide +kernel
theorem dL_hide_29 : decode cL_hide 29 = .ok (.iconst 0, 1) := by decide +kernel
theorem dL_hide_30 : decode cL_hide 30 = .ok (.ireturn, 1) := by decide +kernel
theorem dL_show_0 : decode cL_show 0 = .ok (.aload_n 3, 1) := by decide +kernel
theorem dL_show_1 : decode cL_show 1 = .ok (.iconst 0, 1) := by decide +kernel
theorem dL_show_2 : decode cL_show 2 = .ok (.aload_n 0, 1) := by decide +kernel
theorem dL_show_3 : decode cL_show 3 = .ok (.iload_n 1, 1) := by decide +kernel
theorem dL_show_4 : decode cL_show 4 = .ok (.iload_n 2, 1) := by decide +kernel
theorem dL_show_5 : decode cL_show 5 = .ok (.invokevirtual 48, 3) := by decide +kernel
theorem dL_show_8 : decode cL_show 8 = .ok (.i2l, 1) := by decide +kernel
theorem dL_show_9 : decode cL_show 9 = .ok (.lastore, 1) := by decide +kernel
theorem dL_show_10 : decode cL_show 10 = .ok (.goto 7, 3) := by decide +kernel
theorem dL_show_13 : decode cL_show 13 = .ok (.astore 4, 2) := by decide +kernel
theorem dL_show_15 : decode cL_show 15 = .ok (.iconst 1, 1) := by decide +kernel
theorem dL_show_16 : decode cL_show 16 = .ok (.ireturn, 1) := by decide +kernel
theorem dL_show_17 : decode cL_show 17 = .ok (.iconst 0, 1) := by decide +kernel
theorem dL_show_18 : decode cL_show 18 = .ok (.ireturn, 1) := by decide +kernel
theorem dL_addVirtual_0 : decode cL_addVirtual 0 = .ok (.aload 6, 2) := by decide +kernel
theorem dL_addVirtual_2 : decode cL_addVirtual 2 = .ok (.iconst 0, 1) := by decide +kernel
theorem dL_addVirtual_3 : decode cL_addVirtual 3 = .ok (.aload_n 0, 1) := by decide +kernel
theorem dL_addVirtual_4 : decode cL_addVirtual 4 = .ok (.iload_n 1, 1) := by decide +kernel
theorem dL_addVirtual_5 : decode cL_addVirtual 5 = .ok (.iload_n 2, 1) := by decide +kernel
theorem dL_addVirtual_6 : decode cL_addVirtual 6 = .ok (.iload_n 3, 1) := by decide +kernel
theorem dL_addVirtual_7 : decode cL_addVirtual 7 = .ok (.lload 4, 2) := by decide +kernel
theorem dL_addVirtual_9 : decode cL_addVirtual 9 = .ok (.invokevirtual 51, 3) := by decide +kernel
theorem dL_addVirtual_12 : decode cL_addVirtual 12 = .ok (.i2l, 1) := by decide +kernel
theorem dL_addVirtual_13 : decode cL_addVirtual 13 = .ok (.lastore, 1) := by decide +kernel
theorem dL_addVirtual_14 : decode cL_addVirtual 14 = .ok (.goto 15, 3) := by decide +kernel
theorem dL_addVirtual_17 : decode cL_addVirtual 17 = .ok (.astore 7, 2) := by decide +kernel
theorem dL_addVirtual_19 : decode cL_addVirtual 19 = .ok (.iconst 1, 1) := by decide +kernel
theorem dL_addVirtual_20 : decode cL_addVirtual 20 = .ok (.ireturn, 1) := by decide +kernel
theorem dL_addVirtual_21 : decode cL_addVirtual 21 = .ok (.astore 7, 2) := by decide +kernel
theorem dL_addVirtual_23 : decode cL_addVirtual 23 = .ok (.iconst 2, 1) := by decide +kernel
theorem dL_addVirtual_24 : decode cL_addVirtual 24 = .ok (.ireturn, 1) := by decide +kernel
theorem dL_addVirtual_25 : decode cL_addVirtual 25 = .ok (.astore 7, 2) := by decide +kernel
theorem dL_addVirtual_27 : decode cL_addVirtual 27 = .ok (.iconst 3, 1) := by decide +kernel
theorem dL_addVirtual_28 : decode cL_addVirtual 28 = .ok (.ireturn, 1) := by decide +kernel
theorem dL_addVirtual_29 : decode cL_addVirtual 29 = .ok (.iconst 0, 1) := by decide +kernel
theorem dL_addVirtual_30 : decode cL_addVirtual 30 = .ok (.ireturn, 1) := by decide +kernel
theorem dL_dropVirtual_0 : decode cL_dropVirtual 0 = .ok (.aload_n 3, 1) := by decide +kernel
theorem dL_dropVirtual_1 : decode cL_dropVirtual 1 = .ok (.iconst 0, 1) := by decide +kernel
theorem dL_dropVirtual_2 : decode cL_dropVirtual 2 = .ok (.aload_n 0, 1) := by decide +kernel
theorem dL_dropVirtual_3 : decode cL_dropVirtual 3 = .ok (.iload_n 1, 1) := by decide +kernel
theorem dL_dropVirtual_4 : decode cL_dropVirtual 4 = .ok (.iload_n 2, 1) := by decide +kernel
theorem dL_dropVirtual_5 : decode cL_dropVirtual 5 = .ok (.invokevirtual 55, 3) := by decide +kernel
theorem dL_dropVirtual_8 : decode cL_dropVirtual 8 = .ok (.i2l, 1) := by decide +kernel
theorem dL_dropVirtual_9 : decode cL_dropVirtual 9 = .ok (.lastore, 1) := by decide +kernel
theorem dL_dropVirtual_10 : decode cL_dropVirtual 10 = .ok (.goto 11, 3) := by decide +kernel
theorem dL_dropVirtual_13 : decode cL_dropVirtual 13 = .ok (.astore 4, 2) := by decide +kernel
theorem dL_dropVirtual_15 : decode cL_dropVirtual 15 = .ok (.iconst 1, 1) := by decide +kernel
theorem dL_dropVirtual_16 : decode cL_dropVirtual 16 = .ok (.ireturn, 1) := by decide +kernel
theorem dL_dropVirtual_17 : decode cL_dropVirtual 17 = .ok (.astore 4, 2) := by decide +kernel
theorem dL_dropVirtual_19 : decode cL_dropVirtual 19 = .ok (.iconst 2, 1) := by decide +kernel
theorem dL_dropVirtual_20 : decode cL_dropVirtual 20 = .ok (.ireturn, 1) := by decide +kernel
theorem dL_dropVirtual_21 : decode cL_dropVirtual 21 = .ok (.iconst 0, 1) := by decide +kernel
theorem dL_dropVirtual_22 : decode cL_dropVirtual 22 = .ok (.ireturn, 1) := by decide +kernel
theorem dL_addFold_0 : decode cL_addFold 0 = .ok (.aload 4, 2) := by decide +kernel
theorem dL_addFold_2 : decode cL_addFold 2 = .ok (.iconst 0, 1) := by decide +kernel
theorem dL_addFold_3 : decode cL_addFold 3 = .ok (.aload_n 0, 1) := by decide +kernel
theorem dL_addFold_4 : decode cL_addFold 4 = .ok (.iload_n 1, 1) := by decide +kernel
theorem dL_addFold_5 : decode cL_addFold 5 = .ok (.iload_n 2, 1) := by decide +kernel
theorem dL_addFold_6 : decode cL_addFold 6 = .ok (.iload_n 3, 1) := by decide +kernel
theorem dL_addFold_7 : decode cL_addFold 7 = .ok (.invokevirtual 58, 3) := by decide +kernel
theorem dL_addFold_10 : decode cL_addFold 10 = .ok (.i2l, 1) := by decide +kernel
theorem dL_addFold_11 : decode cL_addFold 11 = .ok (.lastore, 1) := by decide +kernel
theorem dL_addFold_12 : decode cL_addFold 12 = .ok (.goto 15, 3) := by decide +kernel
theorem dL_addFold_15 : decode cL_addFold 15 = .ok (.astore 5, 2) := by decide +kernel
theorem dL_addFold_17 : decode cL_addFold 17 = .ok (.iconst 1, 1) := by decide +kernel
theorem dL_addFold_18 : decode cL_addFold 18 = .ok (.ireturn, 1) := by decide +kernel
theorem dL_addFold_19 : decode cL_addFold 19 = .ok (.astore 5, 2) := by decide +kernel
theorem dL_addFold_21 : decode cL_addFold 21 = .ok (.iconst 2, 1) := by decide +kernel
theorem dL_addFold_22 : decode cL_addFold 22 = .ok (.ireturn, 1) := by decide +kernel
theorem dL_addFold_23 : decode cL_addFold 23 = .ok (.astore 5, 2) := by decide +kernel
theorem dL_addFold_25 : decode cL_addFold 25 = .ok (.iconst 3, 1) := by decide +kernel
theorem dL_addFold_26 : decode cL_addFold 26 = .ok (.ireturn, 1) := by decide +kernel
theorem dL_addFold_27 : decode cL_addFold 27 = .ok (.iconst 0, 1) := by decide +kernel
theorem dL_addFold_28 : decode cL_addFold 28 = .ok (.ireturn, 1) := by decide +kernel
theorem dL_setClosed_0 : decode cL_setClosed 0 = .ok (.aload 4, 2) := by decide +kernel
theorem dL_setClosed_2 : decode cL_setClosed 2 = .ok (.iconst 0, 1) := by decide +kernel
theorem dL_setClosed_3 : decode cL_setClosed 3 = .ok (.aload_n 0, 1) := by decide +kernel
theorem dL_setClosed_4 : decode cL_setClosed 4 = .ok (.iload_n 1, 1) := by decide +kernel
theorem dL_setClosed_5 : decode cL_setClosed 5 = .ok (.iload_n 2, 1) := by decide +kernel
theorem dL_setClosed_6 : decode cL_setClosed 6 = .ok (.iload_n 3, 1) := by decide +kernel
theorem dL_setClosed_7 : decode cL_setClosed 7 = .ok (.invokevirtual 61, 3) := by decide +kernel
theorem dL_setClosed_10 : decode cL_setClosed 10 = .ok (.ifCond .eq 7, 3) := by decide +kernel
theorem dL_setClosed_13 : decode cL_setClosed 13 = .ok (.lconst 1, 1) := by decide +kernel
theorem dL_setClosed_14 : decode cL_setClosed 14 = .ok (.goto 4, 3) := by decide +kernel
theorem dL_setClosed_17 : decode cL_setClosed 17 = .ok (.lconst 0, 1) := by decide +kernel
theorem dL_setClosed_18 : decode cL_setClosed 18 = .ok (.lastore, 1) := by decide +kernel
theorem dL_setClosed_19 : decode cL_setClosed 19 = .ok (.goto 11, 3) := by decide +kernel
theorem dL_setClosed_22 : decode cL_setClosed 22 = .ok (.astore 5, 2) := by decide +kernel
theorem dL_setClosed_24 : decode cL_setClosed 24 = .ok (.iconst 1, 1) := by decide +kernel
theorem dL_setClosed_25 : decode cL_setClosed 25 = .ok (.ireturn, 1) := by decide +kernel
theorem dL_setClosed_26 : decode cL_setClosed 26 = .ok (.astore 5, 2) := by decide +kernel
theorem dL_setClosed_28 : decode cL_setClosed 28 = .ok (.iconst 2, 1) := by decide +kernel
theorem dL_setClosed_29 : decode cL_setClosed 29 = .ok (.ireturn, 1) := by decide +kernel
theorem dL_setClosed_30 : decode cL_setClosed 30 = .ok (.iconst 0, 1) := by decide +kernel
theorem dL_setClosed_31 : decode cL_setClosed 31 = .ok (.ireturn, 1) := by decide +kernel
theorem dL_rows_0 : decode cL_rows 0 = .ok (.aload_n 2, 1) := by decide +kernel
theorem dL_rows_1 : decode cL_rows 1 = .ok (.iconst 0, 1) := by decide +kernel
theorem dL_rows_2 : decode cL_rows 2 = .ok (.aload_n 0, 1) := by decide +kernel
theorem dL_rows_3 : decode cL_rows 3 = .ok (.iload_n 1, 1) := by decide +kernel
theorem dL_rows_4 : decode cL_rows 4 = .ok (.invokevirtual 65, 3) := by decide +kernel
theorem dL_rows_7 : decode cL_rows 7 = .ok (.i2l, 1) := by decide +kernel
theorem dL_rows_8 : decode cL_rows 8 = .ok (.lastore, 1) := by decide +kernel
theorem dL_rows_9 : decode cL_rows 9 = .ok (.goto 6, 3) := by decide +kernel
theorem dL_rows_12 : decode cL_rows 12 = .ok (.astore_n 3, 1) := by decide +kernel
theorem dL_rows_13 : decode cL_rows 13 = .ok (.iconst 1, 1) := by decide +kernel
theorem dL_rows_14 : decode cL_rows 14 = .ok (.ireturn, 1) := by decide +kernel
theorem dL_rows_15 : decode cL_rows 15 = .ok (.iconst 0, 1) := by decide +kernel
theorem dL_rows_16 : decode cL_rows 16 = .ok (.ireturn, 1) := by decide +kernel
theorem dL_rowsOf_0 : decode cL_rowsOf 0 = .ok (.aload_n 3, 1) := by decide +kernel
theorem dL_rowsOf_1 : decode cL_rowsOf 1 = .ok (.iconst 0, 1) := by decide +kernel
theorem dL_rowsOf_2 : decode cL_rowsOf 2 = .ok (.aload_n 0, 1) := by decide +kernel
theorem dL_rowsOf_3 : decode cL_rowsOf 3 = .ok (.iload_n 1, 1) := by decide +kernel
theorem dL_rowsOf_4 : decode cL_rowsOf 4 = .ok (.iload_n 2, 1) := by decide +kernel
theorem dL_rowsOf_5 : decode cL_rowsOf 5 = .ok (.invokevirtual 68, 3) := by decide +kernel
theorem dL_rowsOf_8 : decode cL_rowsOf 8 = .ok (.i2l, 1) := by decide +kernel
theorem dL_rowsOf_9 : decode cL_rowsOf 9 = .ok (.lastore, 1) := by decide +kernel
theorem dL_rowsOf_10 : decode cL_rowsOf 10 = .ok (.goto 7, 3) := by decide +kernel
theorem dL_rowsOf_13 : decode cL_rowsOf 13 = .ok (.astore 4, 2) := by decide +kernel
theorem dL_rowsOf_15 : decode cL_rowsOf 15 = .ok (.iconst 1, 1) := by decide +kernel
theorem dL_rowsOf_16 : decode cL_rowsOf 16 = .ok (.ireturn, 1) := by decide +kernel
theorem dL_rowsOf_17 : decode cL_rowsOf 17 = .ok (.iconst 0, 1) := by decide +kernel
theorem dL_rowsOf_18 : decode cL_rowsOf 18 = .ok (.ireturn, 1) := by decide +kernel
theorem dL_clusters_0 : decode cL_clusters 0 = .ok (.aload_n 3, 1) := by decide +kernel
theorem dL_clusters_1 : decode cL_clusters 1 = .ok (.iconst 0, 1) := by decide +kernel
theorem dL_clusters_2 : decode cL_clusters 2 = .ok (.aload_n 0, 1) := by decide +kernel
theorem dL_clusters_3 : decode cL_clusters 3 = .ok (.iload_n 1, 1) := by decide +kernel
theorem dL_clusters_4 : decode cL_clusters 4 = .ok (.iload_n 2, 1) := by decide +kernel
theorem dL_clusters_5 : decode cL_clusters 5 = .ok (.invokevirtual 71, 3) := by decide +kernel
theorem dL_clusters_8 : decode cL_clusters 8 = .ok (.i2l, 1) := by decide +kernel
theorem dL_clusters_9 : decode cL_clusters 9 = .ok (.lastore, 1) := by decide +kernel
theorem dL_clusters_10 : decode cL_clusters 10 = .ok (.goto 7, 3) := by decide +kernel
theorem dL_clusters_13 : decode cL_clusters 13 = .ok (.astore 4, 2) := by decide +kernel
theorem dL_clusters_15 : decode cL_clusters 15 = .ok (.iconst 1, 1) := by decide +kernel
theorem dL_clusters_16 : decode cL_clusters 16 = .ok (.ireturn, 1) := by decide +kernel
theorem dL_clusters_17 : decode cL_clusters 17 = .ok (.iconst 0, 1) := by decide +kernel
theorem dL_clusters_18 : decode cL_clusters 18 = .ok (.ireturn, 1) := by decide +kernel
theorem dL_cell_0 : decode cL_cell 0 = .ok (.aload 5, 2) := by decide +kernel
theorem dL_cell_2 : decode cL_cell 2 = .ok (.iconst 0, 1) := by decide +kernel
theorem dL_cell_3 : decode cL_cell 3 = .ok (.aload_n 0, 1) := by decide +kernel
theorem dL_cell_4 : decode cL_cell 4 = .ok (.iload_n 1, 1) := by decide +kernel
theorem dL_cell_5 : decode cL_cell 5 = .ok (.iload_n 2, 1) := by decide +kernel
theorem dL_cell_6 : decode cL_cell 6 = .ok (.iload_n 3, 1) := by decide +kernel
theorem dL_cell_7 : decode cL_cell 7 = .ok (.iload 4, 2) := by decide +kernel
theorem dL_cell_9 : decode cL_cell 9 = .ok (.invokevirtual 74, 3) := by decide +kernel
theorem dL_cell_12 : decode cL_cell 12 = .ok (.i2l, 1) := by decide +kernel
theorem dL_cell_13 : decode cL_cell 13 = .ok (.lastore, 1) := by decide +kernel
theorem dL_cell_14 : decode cL_cell 14 = .ok (.goto 11, 3) := by decide +kernel
theorem dL_cell_17 : decode cL_cell 17 = .ok (.astore 6, 2) := by decide +kernel
theorem dL_cell_19 : decode cL_cell 19 = .ok (.iconst 1, 1) := by decide +kernel
theorem dL_cell_20 : decode cL_cell 20 = .ok (.ireturn, 1) := by decide +kernel
theorem dL_cell_21 : decode cL_cell 21 = .ok (.astore 6, 2) := by decide +kernel
theorem dL_cell_23 : decode cL_cell 23 = .ok (.iconst 2, 1) := by decide +kernel
theorem dL_cell_24 : decode cL_cell 24 = .ok (.ireturn, 1) := by decide +kernel
theorem dL_cell_25 : decode cL_cell 25 = .ok (.iconst 0, 1) := by decide +kernel
theorem dL_cell_26 : decode cL_cell 26 = .ok (.ireturn, 1) := by decide +kernel
theorem dL_rowAt_0 : decode cL_rowAt 0 = .ok (.aload 5, 2) := by decide +kernel
theorem dL_rowAt_2 : decode cL_rowAt 2 = .ok (.iconst 0, 1) := by decide +kernel
theorem dL_rowAt_3 : decode cL_rowAt 3 = .ok (.aload_n 0, 1) := by decide +kernel
theorem dL_rowAt_4 : decode cL_rowAt 4 = .ok (.iload_n 1, 1) := by decide +kernel
theorem dL_rowAt_5 : decode cL_rowAt 5 = .ok (.iload_n 2, 1) := by decide +kernel
theorem dL_rowAt_6 : decode cL_rowAt 6 = .ok (.iload_n 3, 1) := by decide +kernel
theorem dL_rowAt_7 : decode cL_rowAt 7 = .ok (.iload 4, 2) := by decide +kernel
theorem dL_rowAt_9 : decode cL_rowAt 9 = .ok (.invokevirtual 77, 3) := by decide +kernel
theorem dL_rowAt_12 : decode cL_rowAt 12 = .ok (.i2l, 1) := by decide +kernel
theorem dL_rowAt_13 : decode cL_rowAt 13 = .ok (.lastore, 1) := by decide +kernel
theorem dL_rowAt_14 : decode cL_rowAt 14 = .ok (.goto 11, 3) := by decide +kernel
theorem dL_rowAt_17 : decode cL_rowAt 17 = .ok (.astore 6, 2) := by decide +kernel
theorem dL_rowAt_19 : decode cL_rowAt 19 = .ok (.iconst 1, 1) := by decide +kernel
theorem dL_rowAt_20 : decode cL_rowAt 20 = .ok (.ireturn, 1) := by decide +kernel
theorem dL_rowAt_21 : decode cL_rowAt 21 = .ok (.astore 6, 2) := by decide +kernel
theorem dL_rowAt_23 : decode cL_rowAt 23 = .ok (.iconst 2, 1) := by decide +kernel
theorem dL_rowAt_24 : decode cL_rowAt 24 = .ok (.ireturn, 1) := by decide +kernel
theorem dL_rowAt_25 : decode cL_rowAt 25 = .ok (.iconst 0, 1) := by decide +kernel
theorem dL_rowAt_26 : decode cL_rowAt 26 = .ok (.ireturn, 1) := by decide +kernel
theorem dL_columnAt_0 : decode cL_columnAt 0 = .ok (.aload 5, 2) := by decide +kernel
theorem dL_columnAt_2 : decode cL_columnAt 2 = .ok (.iconst 0, 1) := by decide +kernel
theorem dL_columnAt_3 : decode cL_columnAt 3 = .ok (.aload_n 0, 1) := by decide +kernel
theorem dL_columnAt_4 : decode cL_columnAt 4 = .ok (.iload_n 1, 1) := by decide +kernel
theorem dL_columnAt_5 : decode cL_columnAt 5 = .ok (.iload_n 2, 1) := by decide +kernel
theorem dL_columnAt_6 : decode cL_columnAt 6 = .ok (.iload_n 3, 1) := by decide +kernel
theorem dL_columnAt_7 : decode cL_columnAt 7 = .ok (.iload 4, 2) := by decide +kernel
theorem dL_columnAt_9 : decode cL_columnAt 9 = .ok (.invokevirtual 80, 3) := by decide +kernel
theorem dL_columnAt_12 : decode cL_columnAt 12 = .ok (.i2l, 1) := by decide +kernel
theorem dL_columnAt_13 : decode cL_columnAt 13 = .ok (.lastore, 1) := by decide +kernel
theorem dL_columnAt_14 : decode cL_columnAt 14 = .ok (.goto 11, 3) := by decide +kernel
theorem dL_columnAt_17 : decode cL_columnAt 17 = .ok (.astore 6, 2) := by decide +kernel
theorem dL_columnAt_19 : decode cL_columnAt 19 = .ok (.iconst 1, 1) := by decide +kernel
theorem dL_columnAt_20 : decode cL_columnAt 20 = .ok (.ireturn, 1) := by decide +kernel
theorem dL_columnAt_21 : decode cL_columnAt 21 = .ok (.astore 6, 2) := by decide +kernel
theorem dL_columnAt_23 : decode cL_columnAt 23 = .ok (.iconst 2, 1) := by decide +kernel
theorem dL_columnAt_24 : decode cL_columnAt 24 = .ok (.ireturn, 1) := by decide +kernel
theorem dL_columnAt_25 : decode cL_columnAt 25 = .ok (.iconst 0, 1) := by decide +kernel
theorem dL_columnAt_26 : decode cL_columnAt 26 = .ok (.ireturn, 1) := by decide +kernel
theorem dL_lineAt_0 : decode cL_lineAt 0 = .ok (.aload_n 3, 1) := by decide +kernel
theorem dL_lineAt_1 : decode cL_lineAt 1 = .ok (.iconst 0, 1) := by decide +kernel
theorem dL_lineAt_2 : decode cL_lineAt 2 = .ok (.aload_n 0, 1) := by decide +kernel
theorem dL_lineAt_3 : decode cL_lineAt 3 = .ok (.iload_n 1, 1) := by decide +kernel
theorem dL_lineAt_4 : decode cL_lineAt 4 = .ok (.iload_n 2, 1) := by decide +kernel
theorem dL_lineAt_5 : decode cL_lineAt 5 = .ok (.invokevirtual 83, 3) := by decide +kernel
theorem dL_lineAt_8 : decode cL_lineAt 8 = .ok (.i2l, 1) := by decide +kernel
theorem dL_lineAt_9 : decode cL_lineAt 9 = .ok (.lastore, 1) := by decide +kernel
theorem dL_lineAt_10 : decode cL_lineAt 10 = .ok (.goto 7, 3) := by decide +kernel
theorem dL_lineAt_13 : decode cL_lineAt 13 = .ok (.astore 4, 2) := by decide +kernel
theorem dL_lineAt_15 : decode cL_lineAt 15 = .ok (.iconst 1, 1) := by decide +kernel
theorem dL_lineAt_16 : decode cL_lineAt 16 = .ok (.ireturn, 1) := by decide +kernel
theorem dL_lineAt_17 : decode cL_lineAt 17 = .ok (.iconst 0, 1) := by decide +kernel
theorem dL_lineAt_18 : decode cL_lineAt 18 = .ok (.ireturn, 1) := by decide +kernel
theorem dL_placeAt_0 : decode cL_placeAt 0 = .ok (.aload 4, 2) := by decide +kernel
theorem dL_placeAt_2 : decode cL_placeAt 2 = .ok (.iconst 0, 1) := by decide +kernel
theorem dL_placeAt_3 : decode cL_placeAt 3 = .ok (.aload_n 0, 1) := by decide +kernel
theorem dL_placeAt_4 : decode cL_placeAt 4 = .ok (.iload_n 1, 1) := by decide +kernel
theorem dL_placeAt_5 : decode cL_placeAt 5 = .ok (.iload_n 2, 1) := by decide +kernel
theorem dL_placeAt_6 : decode cL_placeAt 6 = .ok (.iload_n 3, 1) := by decide +kernel
theorem dL_placeAt_7 : decode cL_placeAt 7 = .ok (.invokevirtual 86, 3) := by decide +kernel
theorem dL_placeAt_10 : decode cL_placeAt 10 = .ok (.i2l, 1) := by decide +kernel
theorem dL_placeAt_11 : decode cL_placeAt 11 = .ok (.lastore, 1) := by decide +kernel
theorem dL_placeAt_12 : decode cL_placeAt 12 = .ok (.goto 11, 3) := by decide +kernel
theorem dL_placeAt_15 : decode cL_placeAt 15 = .ok (.astore 5, 2) := by decide +kernel
theorem dL_placeAt_17 : decode cL_placeAt 17 = .ok (.iconst 1, 1) := by decide +kernel
theorem dL_placeAt_18 : decode cL_placeAt 18 = .ok (.ireturn, 1) := by decide +kernel
theorem dL_placeAt_19 : decode cL_placeAt 19 = .ok (.astore 5, 2) := by decide +kernel
theorem dL_placeAt_21 : decode cL_placeAt 21 = .ok (.iconst 2, 1) := by decide +kernel
theorem dL_placeAt_22 : decode cL_placeAt 22 = .ok (.ireturn, 1) := by decide +kernel
theorem dL_placeAt_23 : decode cL_placeAt 23 = .ok (.iconst 0, 1) := by decide +kernel
theorem dL_placeAt_24 : decode cL_placeAt 24 = .ok (.ireturn, 1) := by decide +kernel
theorem dL_marksAt_0 : decode cL_marksAt 0 = .ok (.aload_n 3, 1) := by decide +kernel
theorem dL_marksAt_1 : decode cL_marksAt 1 = .ok (.iconst 0, 1) := by decide +kernel
theorem dL_marksAt_2 : decode cL_marksAt 2 = .ok (.aload_n 0, 1) := by decide +kernel
theorem dL_marksAt_3 : decode cL_marksAt 3 = .ok (.iload_n 1, 1) := by decide +kernel
theorem dL_marksAt_4 : decode cL_marksAt 4 = .ok (.iload_n 2, 1) := by decide +kernel
theorem dL_marksAt_5 : decode cL_marksAt 5 = .ok (.invokevirtual 89, 3) := by decide +kernel
theorem dL_marksAt_8 : decode cL_marksAt 8 = .ok (.i2l, 1) := by decide +kernel
theorem dL_marksAt_9 : decode cL_marksAt 9 = .ok (.lastore, 1) := by decide +kernel
theorem dL_marksAt_10 : decode cL_marksAt 10 = .ok (.goto 7, 3) := by decide +kernel
theorem dL_marksAt_13 : decode cL_marksAt 13 = .ok (.astore 4, 2) := by decide +kernel
theorem dL_marksAt_15 : decode cL_marksAt 15 = .ok (.iconst 1, 1) := by decide +kernel
theorem dL_marksAt_16 : decode cL_marksAt 16 = .ok (.ireturn, 1) := by decide +kernel
theorem dL_marksAt_17 : decode cL_marksAt 17 = .ok (.iconst 0, 1) := by decide +kernel
theorem dL_marksAt_18 : decode cL_marksAt 18 = .ok (.ireturn, 1) := by decide +kernel
theorem dL_minimap_0 : decode cL_minimap 0 = .ok (.aload_n 3, 1) := by decide +kernel
theorem dL_minimap_1 : decode cL_minimap 1 = .ok (.iconst 0, 1) := by decide +kernel
theorem dL_minimap_2 : decode cL_minimap 2 = .ok (.aload_n 0, 1) := by decide +kernel
theorem dL_minimap_3 : decode cL_minimap 3 = .ok (.iload_n 1, 1) := by decide +kernel
theorem dL_minimap_4 : decode cL_minimap 4 = .ok (.iload_n 2, 1) := by decide +kernel
theorem dL_minimap_5 : decode cL_minimap 5 = .ok (.invokevirtual 92, 3) := by decide +kernel
theorem dL_minimap_8 : decode cL_minimap 8 = .ok (.i2l, 1) := by decide +kernel
theorem dL_minimap_9 : decode cL_minimap 9 = .ok (.lastore, 1) := by decide +kernel
theorem dL_minimap_10 : decode cL_minimap 10 = .ok (.goto 11, 3) := by decide +kernel
theorem dL_minimap_13 : decode cL_minimap 13 = .ok (.astore 4, 2) := by decide +kernel
theorem dL_minimap_15 : decode cL_minimap 15 = .ok (.iconst 1, 1) := by decide +kernel
theorem dL_minimap_16 : decode cL_minimap 16 = .ok (.ireturn, 1) := by decide +kernel
theorem dL_minimap_17 : decode cL_minimap 17 = .ok (.astore 4, 2) := by decide +kernel
theorem dL_minimap_19 : decode cL_minimap 19 = .ok (.iconst 2, 1) := by decide +kernel
theorem dL_minimap_20 : decode cL_minimap 20 = .ok (.ireturn, 1) := by decide +kernel
theorem dL_minimap_21 : decode cL_minimap 21 = .ok (.iconst 0, 1) := by decide +kernel
theorem dL_minimap_22 : decode cL_minimap 22 = .ok (.ireturn, 1) := by decide +kernel
theorem dL_open_0 : decode cL_open 0 = .ok (.aload_n 2, 1) := by decide +kernel
theorem dL_open_1 : decode cL_open 1 = .ok (.iconst 0, 1) := by decide +kernel
theorem dL_open_2 : decode cL_open 2 = .ok (.aload_n 0, 1) := by decide +kernel
theorem dL_open_3 : decode cL_open 3 = .ok (.iload_n 1, 1) := by decide +kernel
theorem dL_open_4 : decode cL_open 4 = .ok (.invokevirtual 95, 3) := by decide +kernel
theorem dL_open_7 : decode cL_open 7 = .ok (.i2l, 1) := by decide +kernel
theorem dL_open_8 : decode cL_open 8 = .ok (.lastore, 1) := by decide +kernel
theorem dL_open_9 : decode cL_open 9 = .ok (.goto 9, 3) := by decide +kernel
theorem dL_open_12 : decode cL_open 12 = .ok (.astore_n 3, 1) := by decide +kernel
theorem dL_open_13 : decode cL_open 13 = .ok (.iconst 1, 1) := by decide +kernel
theorem dL_open_14 : decode cL_open 14 = .ok (.ireturn, 1) := by decide +kernel
theorem dL_open_15 : decode cL_open 15 = .ok (.astore_n 3, 1) := by decide +kernel
theorem dL_open_16 : decode cL_open 16 = .ok (.iconst 2, 1) := by decide +kernel
theorem dL_open_17 : decode cL_open 17 = .ok (.ireturn, 1) := by decide +kernel
theorem dL_open_18 : decode cL_open 18 = .ok (.iconst 0, 1) := by decide +kernel
theorem dL_open_19 : decode cL_open 19 = .ok (.ireturn, 1) := by decide +kernel
theorem dL_close_0 : decode cL_close 0 = .ok (.aload_n 2, 1) := by decide +kernel
theorem dL_close_1 : decode cL_close 1 = .ok (.iconst 0, 1) := by decide +kernel
theorem dL_close_2 : decode cL_close 2 = .ok (.aload_n 0, 1) := by decide +kernel
theorem dL_close_3 : decode cL_close 3 = .ok (.iload_n 1, 1) := by decide +kernel
theorem dL_close_4 : decode cL_close 4 = .ok (.invokevirtual 98, 3) := by decide +kernel
theorem dL_close_7 : decode cL_close 7 = .ok (.i2l, 1) := by decide +kernel
theorem dL_close_8 : decode cL_close 8 = .ok (.lastore, 1) := by decide +kernel
theorem dL_close_9 : decode cL_close 9 = .ok (.goto 9, 3) := by decide +kernel
theorem dL_close_12 : decode cL_close 12 = .ok (.astore_n 3, 1) := by decide +kernel
theorem dL_close_13 : decode cL_close 13 = .ok (.iconst 1, 1) := by decide +kernel
theorem dL_close_14 : decode cL_close 14 = .ok (.ireturn, 1) := by decide +kernel
theorem dL_close_15 : decode cL_close 15 = .ok (.astore_n 3, 1) := by decide +kernel
theorem dL_close_16 : decode cL_close 16 = .ok (.iconst 2, 1) := by decide +kernel
theorem dL_close_17 : decode cL_close 17 = .ok (.ireturn, 1) := by decide +kernel
theorem dL_close_18 : decode cL_close 18 = .ok (.iconst 0, 1) := by decide +kernel
theorem dL_close_19 : decode cL_close 19 = .ok (.ireturn, 1) := by decide +kernel
theorem dL_share_0 : decode cL_share 0 = .ok (.aload 5, 2) := by decide +kernel
theorem dL_share_2 : decode cL_share 2 = .ok (.iconst 0, 1) := by decide +kernel
theorem dL_share_3 : decode cL_share 3 = .ok (.aload_n 0, 1) := by decide +kernel
theorem dL_share_4 : decode cL_share 4 = .ok (.iload_n 1, 1) := by decide +kernel
theorem dL_share_5 : decode cL_share 5 = .ok (.iload_n 2, 1) := by decide +kernel
theorem dL_share_6 : decode cL_share 6 = .ok (.iload_n 3, 1) := by decide +kernel
theorem dL_share_7 : decode cL_share 7 = .ok (.iload 4, 2) := by decide +kernel
theorem dL_share_9 : decode cL_share 9 = .ok (.invokevirtual 101, 3) := by decide +kernel
theorem dL_share_12 : decode cL_share 12 = .ok (.i2l, 1) := by decide +kernel
theorem dL_share_13 : decode cL_share 13 = .ok (.lastore, 1) := by decide +kernel
theorem dL_share_14 : decode cL_share 14 = .ok (.goto 15, 3) := by decide +kernel
theorem dL_share_17 : decode cL_share 17 = .ok (.astore 6, 2) := by decide +kernel
theorem dL_share_19 : decode cL_share 19 = .ok (.iconst 1, 1) := by decide +kernel
theorem dL_share_20 : decode cL_share 20 = .ok (.ireturn, 1) := by decide +kernel
theorem dL_share_21 : decode cL_share 21 = .ok (.astore 6, 2) := by decide +kernel
theorem dL_share_23 : decode cL_share 23 = .ok (.iconst 2, 1) := by decide +kernel
theorem dL_share_24 : decode cL_share 24 = .ok (.ireturn, 1) := by decide +kernel
theorem dL_share_25 : decode cL_share 25 = .ok (.astore 6, 2) := by decide +kernel
theorem dL_share_27 : decode cL_share 27 = .ok (.iconst 3, 1) := by decide +kernel
theorem dL_share_28 : decode cL_share 28 = .ok (.ireturn, 1) := by decide +kernel
theorem dL_share_29 : decode cL_share 29 = .ok (.iconst 0, 1) := by decide +kernel
theorem dL_share_30 : decode cL_share 30 = .ok (.ireturn, 1) := by decide +kernel
theorem dL_height_0 : decode cL_height 0 = .ok (.aload_n 2, 1) := by decide +kernel
theorem dL_height_1 : decode cL_height 1 = .ok (.iconst 0, 1) := by decide +kernel
theorem dL_height_2 : decode cL_height 2 = .ok (.aload_n 0, 1) := by decide +kernel
theorem dL_height_3 : decode cL_height 3 = .ok (.iload_n 1, 1) := by decide +kernel
theorem dL_height_4 : decode cL_height 4 = .ok (.invokevirtual 104, 3) := by decide +kernel
theorem dL_height_7 : decode cL_height 7 = .ok (.i2l, 1) := by decide +kernel
theorem dL_height_8 : decode cL_height 8 = .ok (.lastore, 1) := by decide +kernel
theorem dL_height_9 : decode cL_height 9 = .ok (.goto 6, 3) := by decide +kernel
theorem dL_height_12 : decode cL_height 12 = .ok (.astore_n 3, 1) := by decide +kernel
theorem dL_height_13 : decode cL_height 13 = .ok (.iconst 1, 1) := by decide +kernel
theorem dL_height_14 : decode cL_height 14 = .ok (.ireturn, 1) := by decide +kernel
theorem dL_height_15 : decode cL_height 15 = .ok (.iconst 0, 1) := by decide +kernel
theorem dL_height_16 : decode cL_height 16 = .ok (.ireturn, 1) := by decide +kernel
theorem dL_put_0 : decode cL_put 0 = .ok (.aload 4, 2) := by decide +kernel
theorem dL_put_2 : decode cL_put 2 = .ok (.iconst 0, 1) := by decide +kernel
theorem dL_put_3 : decode cL_put 3 = .ok (.aload_n 0, 1) := by decide +kernel
theorem dL_put_4 : decode cL_put 4 = .ok (.iload_n 1, 1) := by decide +kernel
theorem dL_put_5 : decode cL_put 5 = .ok (.iload_n 2, 1) := by decide +kernel
theorem dL_put_6 : decode cL_put 6 = .ok (.iload_n 3, 1) := by decide +kernel
theorem dL_put_7 : decode cL_put 7 = .ok (.invokevirtual 107, 3) := by decide +kernel
theorem dL_put_10 : decode cL_put 10 = .ok (.i2l, 1) := by decide +kernel
theorem dL_put_11 : decode cL_put 11 = .ok (.lastore, 1) := by decide +kernel
theorem dL_put_12 : decode cL_put 12 = .ok (.goto 15, 3) := by decide +kernel
theorem dL_put_15 : decode cL_put 15 = .ok (.astore 5, 2) := by decide +kernel
theorem dL_put_17 : decode cL_put 17 = .ok (.iconst 1, 1) := by decide +kernel
theorem dL_put_18 : decode cL_put 18 = .ok (.ireturn, 1) := by decide +kernel
theorem dL_put_19 : decode cL_put 19 = .ok (.astore 5, 2) := by decide +kernel
theorem dL_put_21 : decode cL_put 21 = .ok (.iconst 2, 1) := by decide +kernel
theorem dL_put_22 : decode cL_put 22 = .ok (.ireturn, 1) := by decide +kernel
theorem dL_put_23 : decode cL_put 23 = .ok (.astore 5, 2) := by decide +kernel
theorem dL_put_25 : decode cL_put 25 = .ok (.iconst 3, 1) := by decide +kernel
theorem dL_put_26 : decode cL_put 26 = .ok (.ireturn, 1) := by decide +kernel
theorem dL_put_27 : decode cL_put 27 = .ok (.iconst 0, 1) := by decide +kernel
theorem dL_put_28 : decode cL_put 28 = .ok (.ireturn, 1) := by decide +kernel
theorem dL_move_0 : decode cL_move 0 = .ok (.aload_n 3, 1) := by decide +kernel
theorem dL_move_1 : decode cL_move 1 = .ok (.iconst 0, 1) := by decide +kernel
theorem dL_move_2 : decode cL_move 2 = .ok (.aload_n 0, 1) := by decide +kernel
theorem dL_move_3 : decode cL_move 3 = .ok (.iload_n 1, 1) := by decide +kernel
theorem dL_move_4 : decode cL_move 4 = .ok (.iload_n 2, 1) := by decide +kernel
