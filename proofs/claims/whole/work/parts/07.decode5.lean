theorem dX7_row_1 : decode cX7_row 1 = .ok (.iload_n 1, 1) := by decide +kernel
theorem dX7_row_2 : decode cX7_row 2 = .ok (.invokevirtual 180, 3) := by decide +kernel
theorem dX7_row_5 : decode cX7_row 5 = .ok (.ifCond .eq 15, 3) := by decide +kernel
theorem dX7_row_8 : decode cX7_row 8 = .ok (.iload_n 2, 1) := by decide +kernel
theorem dX7_row_9 : decode cX7_row 9 = .ok (.i2l, 1) := by decide +kernel
theorem dX7_row_10 : decode cX7_row 10 = .ok (.lconst 0, 1) := by decide +kernel
theorem dX7_row_11 : decode cX7_row 11 = .ok (.ldc2_w 166, 3) := by decide +kernel
theorem dX7_row_14 : decode cX7_row 14 = .ok (.invokestatic 54, 3) := by decide +kernel
theorem dX7_row_17 : decode cX7_row 17 = .ok (.ifCond .ne 5, 3) := by decide +kernel
theorem dX7_row_20 : decode cX7_row 20 = .ok (.iconst (-1), 1) := by decide +kernel
theorem dX7_row_21 : decode cX7_row 21 = .ok (.ireturn, 1) := by decide +kernel
theorem dX7_row_22 : decode cX7_row 22 = .ok (.aload_n 0, 1) := by decide +kernel
theorem dX7_row_23 : decode cX7_row 23 = .ok (.iload_n 1, 1) := by decide +kernel
theorem dX7_row_24 : decode cX7_row 24 = .ok (.invokevirtual 168, 3) := by decide +kernel
theorem dX7_row_27 : decode cX7_row 27 = .ok (.istore_n 3, 1) := by decide +kernel
theorem dX7_row_28 : decode cX7_row 28 = .ok (.iload_n 2, 1) := by decide +kernel
theorem dX7_row_29 : decode cX7_row 29 = .ok (.ifCond .ne 10, 3) := by decide +kernel
theorem dX7_row_32 : decode cX7_row 32 = .ok (.aload_n 0, 1) := by decide +kernel
theorem dX7_row_33 : decode cX7_row 33 = .ok (.getfield 144, 3) := by decide +kernel
theorem dX7_row_36 : decode cX7_row 36 = .ok (.goto 28, 3) := by decide +kernel
theorem dX7_row_39 : decode cX7_row 39 = .ok (.iload_n 3, 1) := by decide +kernel
theorem dX7_row_40 : decode cX7_row 40 = .ok (.ifCond .ne 8, 3) := by decide +kernel
theorem dX7_row_43 : decode cX7_row 43 = .ok (.bipush (-4), 2) := by decide +kernel
theorem dX7_row_45 : decode cX7_row 45 = .ok (.goto 19, 3) := by decide +kernel
theorem dX7_row_48 : decode cX7_row 48 = .ok (.iload_n 2, 1) := by decide +kernel
theorem dX7_row_49 : decode cX7_row 49 = .ok (.iconst 1, 1) := by decide +kernel
theorem dX7_row_50 : decode cX7_row 50 = .ok (.if_icmp .ne 10, 3) := by decide +kernel
theorem dX7_row_53 : decode cX7_row 53 = .ok (.aload_n 0, 1) := by decide +kernel
theorem dX7_row_54 : decode cX7_row 54 = .ok (.getfield 154, 3) := by decide +kernel
theorem dX7_row_57 : decode cX7_row 57 = .ok (.goto 7, 3) := by decide +kernel
theorem dX7_row_60 : decode cX7_row 60 = .ok (.aload_n 0, 1) := by decide +kernel
theorem dX7_row_61 : decode cX7_row 61 = .ok (.getfield 157, 3) := by decide +kernel
theorem dX7_row_64 : decode cX7_row 64 = .ok (.ireturn, 1) := by decide +kernel
theorem dX7_item_0 : decode cX7_item 0 = .ok (.aload_n 0, 1) := by decide +kernel
theorem dX7_item_1 : decode cX7_item 1 = .ok (.iload_n 1, 1) := by decide +kernel
theorem dX7_item_2 : decode cX7_item 2 = .ok (.invokevirtual 180, 3) := by decide +kernel
theorem dX7_item_5 : decode cX7_item 5 = .ok (.ifCond .ne 6, 3) := by decide +kernel
theorem dX7_item_8 : decode cX7_item 8 = .ok (.ldc 106, 2) := by decide +kernel
theorem dX7_item_10 : decode cX7_item 10 = .ok (.ireturn, 1) := by decide +kernel
theorem dX7_item_11 : decode cX7_item 11 = .ok (.aload_n 0, 1) := by decide +kernel
theorem dX7_item_12 : decode cX7_item 12 = .ok (.iload_n 1, 1) := by decide +kernel
theorem dX7_item_13 : decode cX7_item 13 = .ok (.invokevirtual 151, 3) := by decide +kernel
theorem dX7_item_16 : decode cX7_item 16 = .ok (.iload_n 2, 1) := by decide +kernel
theorem dX7_item_17 : decode cX7_item 17 = .ok (.i2l, 1) := by decide +kernel
theorem dX7_item_18 : decode cX7_item 18 = .ok (.lconst 0, 1) := by decide +kernel
theorem dX7_item_19 : decode cX7_item 19 = .ok (.aload_n 0, 1) := by decide +kernel
theorem dX7_item_20 : decode cX7_item 20 = .ok (.getfield 144, 3) := by decide +kernel
theorem dX7_item_23 : decode cX7_item 23 = .ok (.iconst 1, 1) := by decide +kernel
theorem dX7_item_24 : decode cX7_item 24 = .ok (.isub, 1) := by decide +kernel
theorem dX7_item_25 : decode cX7_item 25 = .ok (.i2l, 1) := by decide +kernel
theorem dX7_item_26 : decode cX7_item 26 = .ok (.invokestatic 54, 3) := by decide +kernel
theorem dX7_item_29 : decode cX7_item 29 = .ok (.ifCond .eq 12, 3) := by decide +kernel
theorem dX7_item_32 : decode cX7_item 32 = .ok (.aload_n 0, 1) := by decide +kernel
theorem dX7_item_33 : decode cX7_item 33 = .ok (.getfield 22, 3) := by decide +kernel
theorem dX7_item_36 : decode cX7_item 36 = .ok (.iload_n 2, 1) := by decide +kernel
theorem dX7_item_37 : decode cX7_item 37 = .ok (.iaload, 1) := by decide +kernel
theorem dX7_item_38 : decode cX7_item 38 = .ok (.goto 5, 3) := by decide +kernel
theorem dX7_item_41 : decode cX7_item 41 = .ok (.ldc 106, 2) := by decide +kernel
theorem dX7_item_43 : decode cX7_item 43 = .ok (.ireturn, 1) := by decide +kernel
theorem dX7_result_0 : decode cX7_result 0 = .ok (.aload_n 0, 1) := by decide +kernel
theorem dX7_result_1 : decode cX7_result 1 = .ok (.iload_n 1, 1) := by decide +kernel
theorem dX7_result_2 : decode cX7_result 2 = .ok (.invokevirtual 180, 3) := by decide +kernel
theorem dX7_result_5 : decode cX7_result 5 = .ok (.ifCond .eq 23, 3) := by decide +kernel
theorem dX7_result_8 : decode cX7_result 8 = .ok (.iload_n 2, 1) := by decide +kernel
theorem dX7_result_9 : decode cX7_result 9 = .ok (.i2l, 1) := by decide +kernel
theorem dX7_result_10 : decode cX7_result 10 = .ok (.lconst 0, 1) := by decide +kernel
theorem dX7_result_11 : decode cX7_result 11 = .ok (.ldc2_w 166, 3) := by decide +kernel
theorem dX7_result_14 : decode cX7_result 14 = .ok (.invokestatic 54, 3) := by decide +kernel
theorem dX7_result_17 : decode cX7_result 17 = .ok (.ifCond .eq 11, 3) := by decide +kernel
theorem dX7_result_20 : decode cX7_result 20 = .ok (.aload_n 0, 1) := by decide +kernel
theorem dX7_result_21 : decode cX7_result 21 = .ok (.iload_n 1, 1) := by decide +kernel
theorem dX7_result_22 : decode cX7_result 22 = .ok (.invokevirtual 168, 3) := by decide +kernel
theorem dX7_result_25 : decode cX7_result 25 = .ok (.ifCond .ne 6, 3) := by decide +kernel
theorem dX7_result_28 : decode cX7_result 28 = .ok (.ldc 106, 2) := by decide +kernel
theorem dX7_result_30 : decode cX7_result 30 = .ok (.ireturn, 1) := by decide +kernel
theorem dX7_result_31 : decode cX7_result 31 = .ok (.iload_n 2, 1) := by decide +kernel
theorem dX7_result_32 : decode cX7_result 32 = .ok (.ifCond .ne 10, 3) := by decide +kernel
theorem dX7_result_35 : decode cX7_result 35 = .ok (.aload_n 0, 1) := by decide +kernel
theorem dX7_result_36 : decode cX7_result 36 = .ok (.getfield 163, 3) := by decide +kernel
theorem dX7_result_39 : decode cX7_result 39 = .ok (.goto 19, 3) := by decide +kernel
theorem dX7_result_42 : decode cX7_result 42 = .ok (.iload_n 2, 1) := by decide +kernel
theorem dX7_result_43 : decode cX7_result 43 = .ok (.iconst 1, 1) := by decide +kernel
theorem dX7_result_44 : decode cX7_result 44 = .ok (.if_icmp .ne 10, 3) := by decide +kernel
theorem dX7_result_47 : decode cX7_result 47 = .ok (.aload_n 0, 1) := by decide +kernel
theorem dX7_result_48 : decode cX7_result 48 = .ok (.getfield 160, 3) := by decide +kernel
theorem dX7_result_51 : decode cX7_result 51 = .ok (.goto 7, 3) := by decide +kernel
theorem dX7_result_54 : decode cX7_result 54 = .ok (.aload_n 0, 1) := by decide +kernel
theorem dX7_result_55 : decode cX7_result 55 = .ok (.invokevirtual 183, 3) := by decide +kernel
theorem dX7_result_58 : decode cX7_result 58 = .ok (.ireturn, 1) := by decide +kernel
theorem dX7_rank_0 : decode cX7_rank 0 = .ok (.aload_n 0, 1) := by decide +kernel
theorem dX7_rank_1 : decode cX7_rank 1 = .ok (.iload_n 1, 1) := by decide +kernel
theorem dX7_rank_2 : decode cX7_rank 2 = .ok (.invokevirtual 180, 3) := by decide +kernel
theorem dX7_rank_5 : decode cX7_rank 5 = .ok (.ifCond .eq 13, 3) := by decide +kernel
theorem dX7_rank_8 : decode cX7_rank 8 = .ok (.iload_n 3, 1) := by decide +kernel
theorem dX7_rank_9 : decode cX7_rank 9 = .ok (.i2l, 1) := by decide +kernel
theorem dX7_rank_10 : decode cX7_rank 10 = .ok (.lconst 0, 1) := by decide +kernel
theorem dX7_rank_11 : decode cX7_rank 11 = .ok (.lconst 1, 1) := by decide +kernel
theorem dX7_rank_12 : decode cX7_rank 12 = .ok (.invokestatic 54, 3) := by decide +kernel
theorem dX7_rank_15 : decode cX7_rank 15 = .ok (.ifCond .ne 5, 3) := by decide +kernel
theorem dX7_rank_18 : decode cX7_rank 18 = .ok (.iconst (-1), 1) := by decide +kernel
theorem dX7_rank_19 : decode cX7_rank 19 = .ok (.ireturn, 1) := by decide +kernel
theorem dX7_rank_20 : decode cX7_rank 20 = .ok (.aload_n 0, 1) := by decide +kernel
theorem dX7_rank_21 : decode cX7_rank 21 = .ok (.iload_n 1, 1) := by decide +kernel
theorem dX7_rank_22 : decode cX7_rank 22 = .ok (.invokevirtual 151, 3) := by decide +kernel
theorem dX7_rank_25 : decode cX7_rank 25 = .ok (.iconst 0, 1) := by decide +kernel
theorem dX7_rank_26 : decode cX7_rank 26 = .ok (.istore 4, 2) := by decide +kernel
theorem dX7_rank_28 : decode cX7_rank 28 = .ok (.iconst 0, 1) := by decide +kernel
theorem dX7_rank_29 : decode cX7_rank 29 = .ok (.istore 5, 2) := by decide +kernel
theorem dX7_rank_31 : decode cX7_rank 31 = .ok (.iload 5, 2) := by decide +kernel
theorem dX7_rank_33 : decode cX7_rank 33 = .ok (.aload_n 0, 1) := by decide +kernel
theorem dX7_rank_34 : decode cX7_rank 34 = .ok (.getfield 144, 3) := by decide +kernel
theorem dX7_rank_37 : decode cX7_rank 37 = .ok (.if_icmp .ge 48, 3) := by decide +kernel
theorem dX7_rank_40 : decode cX7_rank 40 = .ok (.iload 4, 2) := by decide +kernel
theorem dX7_rank_42 : decode cX7_rank 42 = .ok (.iload_n 3, 1) := by decide +kernel
theorem dX7_rank_43 : decode cX7_rank 43 = .ok (.ifCond .ne 17, 3) := by decide +kernel
theorem dX7_rank_46 : decode cX7_rank 46 = .ok (.aload_n 0, 1) := by decide +kernel
theorem dX7_rank_47 : decode cX7_rank 47 = .ok (.getfield 22, 3) := by decide +kernel
theorem dX7_rank_50 : decode cX7_rank 50 = .ok (.iload 5, 2) := by decide +kernel
theorem dX7_rank_52 : decode cX7_rank 52 = .ok (.iaload, 1) := by decide +kernel
theorem dX7_rank_53 : decode cX7_rank 53 = .ok (.iload_n 2, 1) := by decide +kernel
theorem dX7_rank_54 : decode cX7_rank 54 = .ok (.if_icmp .ge 21, 3) := by decide +kernel
theorem dX7_rank_57 : decode cX7_rank 57 = .ok (.goto 14, 3) := by decide +kernel
theorem dX7_rank_60 : decode cX7_rank 60 = .ok (.aload_n 0, 1) := by decide +kernel
theorem dX7_rank_61 : decode cX7_rank 61 = .ok (.getfield 22, 3) := by decide +kernel
theorem dX7_rank_64 : decode cX7_rank 64 = .ok (.iload 5, 2) := by decide +kernel
theorem dX7_rank_66 : decode cX7_rank 66 = .ok (.iaload, 1) := by decide +kernel
theorem dX7_rank_67 : decode cX7_rank 67 = .ok (.iload_n 2, 1) := by decide +kernel
theorem dX7_rank_68 : decode cX7_rank 68 = .ok (.if_icmp .ne 7, 3) := by decide +kernel
theorem dX7_rank_71 : decode cX7_rank 71 = .ok (.iconst 1, 1) := by decide +kernel
theorem dX7_rank_72 : decode cX7_rank 72 = .ok (.goto 4, 3) := by decide +kernel
theorem dX7_rank_75 : decode cX7_rank 75 = .ok (.iconst 0, 1) := by decide +kernel
theorem dX7_rank_76 : decode cX7_rank 76 = .ok (.iadd, 1) := by decide +kernel
theorem dX7_rank_77 : decode cX7_rank 77 = .ok (.istore 4, 2) := by decide +kernel
theorem dX7_rank_79 : decode cX7_rank 79 = .ok (.iinc 5 1, 3) := by decide +kernel
theorem dX7_rank_82 : decode cX7_rank 82 = .ok (.goto (-51), 3) := by decide +kernel
theorem dX7_rank_85 : decode cX7_rank 85 = .ok (.iload 4, 2) := by decide +kernel
theorem dX7_rank_87 : decode cX7_rank 87 = .ok (.ireturn, 1) := by decide +kernel
theorem dX7_shows_0 : decode cX7_shows 0 = .ok (.aload_n 0, 1) := by decide +kernel
theorem dX7_shows_1 : decode cX7_shows 1 = .ok (.getfield 28, 3) := by decide +kernel
theorem dX7_shows_4 : decode cX7_shows 4 = .ok (.aload_n 0, 1) := by decide +kernel
theorem dX7_shows_5 : decode cX7_shows 5 = .ok (.getfield 186, 3) := by decide +kernel
theorem dX7_shows_8 : decode cX7_shows 8 = .ok (.iload_n 1, 1) := by decide +kernel
theorem dX7_shows_9 : decode cX7_shows 9 = .ok (.iastore, 1) := by decide +kernel
theorem dX7_shows_10 : decode cX7_shows 10 = .ok (.aload_n 0, 1) := by decide +kernel
theorem dX7_shows_11 : decode cX7_shows 11 = .ok (.dup, 1) := by decide +kernel
theorem dX7_shows_12 : decode cX7_shows 12 = .ok (.getfield 186, 3) := by decide +kernel
theorem dX7_shows_15 : decode cX7_shows 15 = .ok (.iconst 1, 1) := by decide +kernel
theorem dX7_shows_16 : decode cX7_shows 16 = .ok (.iadd, 1) := by decide +kernel
theorem dX7_shows_17 : decode cX7_shows 17 = .ok (.putfield 186, 3) := by decide +kernel
theorem dX7_shows_20 : decode cX7_shows 20 = .ok (.return_, 1) := by decide +kernel
theorem dX7_showsNumber_0 : decode cX7_showsNumber 0 = .ok (.iconst 1, 1) := by decide +kernel
theorem dX7_showsNumber_1 : decode cX7_showsNumber 1 = .ok (.istore_n 2, 1) := by decide +kernel
theorem dX7_showsNumber_2 : decode cX7_showsNumber 2 = .ok (.iload_n 1, 1) := by decide +kernel
theorem dX7_showsNumber_3 : decode cX7_showsNumber 3 = .ok (.iload_n 2, 1) := by decide +kernel
theorem dX7_showsNumber_4 : decode cX7_showsNumber 4 = .ok (.idiv, 1) := by decide +kernel
theorem dX7_showsNumber_5 : decode cX7_showsNumber 5 = .ok (.bipush 9, 2) := by decide +kernel
theorem dX7_showsNumber_7 : decode cX7_showsNumber 7 = .ok (.if_icmp .le 11, 3) := by decide +kernel
theorem dX7_showsNumber_10 : decode cX7_showsNumber 10 = .ok (.iload_n 2, 1) := by decide +kernel
theorem dX7_showsNumber_11 : decode cX7_showsNumber 11 = .ok (.bipush 10, 2) := by decide +kernel
theorem dX7_showsNumber_13 : decode cX7_showsNumber 13 = .ok (.imul, 1) := by decide +kernel
theorem dX7_showsNumber_14 : decode cX7_showsNumber 14 = .ok (.istore_n 2, 1) := by decide +kernel
theorem dX7_showsNumber_15 : decode cX7_showsNumber 15 = .ok (.goto (-13), 3) := by decide +kernel
theorem dX7_showsNumber_18 : decode cX7_showsNumber 18 = .ok (.iload_n 2, 1) := by decide +kernel
theorem dX7_showsNumber_19 : decode cX7_showsNumber 19 = .ok (.ifCond .le 24, 3) := by decide +kernel
theorem dX7_showsNumber_22 : decode cX7_showsNumber 22 = .ok (.aload_n 0, 1) := by decide +kernel
theorem dX7_showsNumber_23 : decode cX7_showsNumber 23 = .ok (.bipush 48, 2) := by decide +kernel
theorem dX7_showsNumber_25 : decode cX7_showsNumber 25 = .ok (.iload_n 1, 1) := by decide +kernel
theorem dX7_showsNumber_26 : decode cX7_showsNumber 26 = .ok (.iload_n 2, 1) := by decide +kernel
theorem dX7_showsNumber_27 : decode cX7_showsNumber 27 = .ok (.idiv, 1) := by decide +kernel
theorem dX7_showsNumber_28 : decode cX7_showsNumber 28 = .ok (.bipush 10, 2) := by decide +kernel
theorem dX7_showsNumber_30 : decode cX7_showsNumber 30 = .ok (.irem, 1) := by decide +kernel
theorem dX7_showsNumber_31 : decode cX7_showsNumber 31 = .ok (.iadd, 1) := by decide +kernel
theorem dX7_showsNumber_32 : decode cX7_showsNumber 32 = .ok (.invokevirtual 189, 3) := by decide +kernel
theorem dX7_showsNumber_35 : decode cX7_showsNumber 35 = .ok (.iload_n 2, 1) := by decide +kernel
theorem dX7_showsNumber_36 : decode cX7_showsNumber 36 = .ok (.bipush 10, 2) := by decide +kernel
theorem dX7_showsNumber_38 : decode cX7_showsNumber 38 = .ok (.idiv, 1) := by decide +kernel
theorem dX7_showsNumber_39 : decode cX7_showsNumber 39 = .ok (.istore_n 2, 1) := by decide +kernel
theorem dX7_showsNumber_40 : decode cX7_showsNumber 40 = .ok (.goto (-22), 3) := by decide +kernel
theorem dX7_showsNumber_43 : decode cX7_showsNumber 43 = .ok (.return_, 1) := by decide +kernel
theorem dX7_shownOf_0 : decode cX7_shownOf 0 = .ok (.aload_n 0, 1) := by decide +kernel
theorem dX7_shownOf_1 : decode cX7_shownOf 1 = .ok (.iconst 0, 1) := by decide +kernel
theorem dX7_shownOf_2 : decode cX7_shownOf 2 = .ok (.putfield 186, 3) := by decide +kernel
theorem dX7_shownOf_5 : decode cX7_shownOf 5 = .ok (.aload_n 0, 1) := by decide +kernel
theorem dX7_shownOf_6 : decode cX7_shownOf 6 = .ok (.iload_n 1, 1) := by decide +kernel
theorem dX7_shownOf_7 : decode cX7_shownOf 7 = .ok (.invokevirtual 168, 3) := by decide +kernel
theorem dX7_shownOf_10 : decode cX7_shownOf 10 = .ok (.ifCond .ne 32, 3) := by decide +kernel
theorem dX7_shownOf_13 : decode cX7_shownOf 13 = .ok (.aload_n 0, 1) := by decide +kernel
theorem dX7_shownOf_14 : decode cX7_shownOf 14 = .ok (.bipush 110, 2) := by decide +kernel
theorem dX7_shownOf_16 : decode cX7_shownOf 16 = .ok (.invokevirtual 189, 3) := by decide +kernel
theorem dX7_shownOf_19 : decode cX7_shownOf 19 = .ok (.aload_n 0, 1) := by decide +kernel
theorem dX7_shownOf_20 : decode cX7_shownOf 20 = .ok (.bipush 111, 2) := by decide +kernel
theorem dX7_shownOf_22 : decode cX7_shownOf 22 = .ok (.invokevirtual 189, 3) := by decide +kernel
theorem dX7_shownOf_25 : decode cX7_shownOf 25 = .ok (.aload_n 0, 1) := by decide +kernel
theorem dX7_shownOf_26 : decode cX7_shownOf 26 = .ok (.bipush 110, 2) := by decide +kernel
theorem dX7_shownOf_28 : decode cX7_shownOf 28 = .ok (.invokevirtual 189, 3) := by decide +kernel
theorem dX7_shownOf_31 : decode cX7_shownOf 31 = .ok (.aload_n 0, 1) := by decide +kernel
theorem dX7_shownOf_32 : decode cX7_shownOf 32 = .ok (.bipush 101, 2) := by decide +kernel
theorem dX7_shownOf_34 : decode cX7_shownOf 34 = .ok (.invokevirtual 189, 3) := by decide +kernel
theorem dX7_shownOf_37 : decode cX7_shownOf 37 = .ok (.aload_n 0, 1) := by decide +kernel
theorem dX7_shownOf_38 : decode cX7_shownOf 38 = .ok (.getfield 186, 3) := by decide +kernel
theorem dX7_shownOf_41 : decode cX7_shownOf 41 = .ok (.ireturn, 1) := by decide +kernel
theorem dX7_shownOf_42 : decode cX7_shownOf 42 = .ok (.aload_n 0, 1) := by decide +kernel
theorem dX7_shownOf_43 : decode cX7_shownOf 43 = .ok (.invokevirtual 183, 3) := by decide +kernel
theorem dX7_shownOf_46 : decode cX7_shownOf 46 = .ok (.istore_n 2, 1) := by decide +kernel
theorem dX7_shownOf_47 : decode cX7_shownOf 47 = .ok (.aload_n 0, 1) := by decide +kernel
theorem dX7_shownOf_48 : decode cX7_shownOf 48 = .ok (.getfield 7, 3) := by decide +kernel
theorem dX7_shownOf_51 : decode cX7_shownOf 51 = .ok (.bipush 101, 2) := by decide +kernel
theorem dX7_shownOf_53 : decode cX7_shownOf 53 = .ok (.iaload, 1) := by decide +kernel
theorem dX7_shownOf_54 : decode cX7_shownOf 54 = .ok (.istore_n 3, 1) := by decide +kernel
theorem dX7_shownOf_55 : decode cX7_shownOf 55 = .ok (.iload_n 2, 1) := by decide +kernel
theorem dX7_shownOf_56 : decode cX7_shownOf 56 = .ok (.ifCond .ge 12, 3) := by decide +kernel
theorem dX7_shownOf_59 : decode cX7_shownOf 59 = .ok (.aload_n 0, 1) := by decide +kernel
theorem dX7_shownOf_60 : decode cX7_shownOf 60 = .ok (.bipush 45, 2) := by decide +kernel
theorem dX7_shownOf_62 : decode cX7_shownOf 62 = .ok (.invokevirtual 189, 3) := by decide +kernel
theorem dX7_shownOf_65 : decode cX7_shownOf 65 = .ok (.goto 18, 3) := by decide +kernel
theorem dX7_shownOf_68 : decode cX7_shownOf 68 = .ok (.iload_n 2, 1) := by decide +kernel
theorem dX7_shownOf_69 : decode cX7_shownOf 69 = .ok (.ifCond .le 14, 3) := by decide +kernel
theorem dX7_shownOf_72 : decode cX7_shownOf 72 = .ok (.iload_n 3, 1) := by decide +kernel
theorem dX7_shownOf_73 : decode cX7_shownOf 73 = .ok (.iconst 2, 1) := by decide +kernel
theorem dX7_shownOf_74 : decode cX7_shownOf 74 = .ok (.if_icmp .ne 9, 3) := by decide +kernel
theorem dX7_shownOf_77 : decode cX7_shownOf 77 = .ok (.aload_n 0, 1) := by decide +kernel
theorem dX7_shownOf_78 : decode cX7_shownOf 78 = .ok (.bipush 43, 2) := by decide +kernel
theorem dX7_shownOf_80 : decode cX7_shownOf 80 = .ok (.invokevirtual 189, 3) := by decide +kernel
theorem dX7_shownOf_83 : decode cX7_shownOf 83 = .ok (.iload_n 2, 1) := by decide +kernel
theorem dX7_shownOf_84 : decode cX7_shownOf 84 = .ok (.ifCond .ge 8, 3) := by decide +kernel
theorem dX7_shownOf_87 : decode cX7_shownOf 87 = .ok (.iload_n 2, 1) := by decide +kernel
theorem dX7_shownOf_88 : decode cX7_shownOf 88 = .ok (.ineg, 1) := by decide +kernel
theorem dX7_shownOf_89 : decode cX7_shownOf 89 = .ok (.goto 4, 3) := by decide +kernel
theorem dX7_shownOf_92 : decode cX7_shownOf 92 = .ok (.iload_n 2, 1) := by decide +kernel
theorem dX7_shownOf_93 : decode cX7_shownOf 93 = .ok (.istore 4, 2) := by decide +kernel
theorem dX7_shownOf_95 : decode cX7_shownOf 95 = .ok (.aload_n 0, 1) := by decide +kernel
theorem dX7_shownOf_96 : decode cX7_shownOf 96 = .ok (.iload 4, 2) := by decide +kernel
theorem dX7_shownOf_98 : decode cX7_shownOf 98 = .ok (.bipush 100, 2) := by decide +kernel
theorem dX7_shownOf_100 : decode cX7_shownOf 100 = .ok (.idiv, 1) := by decide +kernel
theorem dX7_shownOf_101 : decode cX7_shownOf 101 = .ok (.invokevirtual 192, 3) := by decide +kernel
theorem dX7_shownOf_104 : decode cX7_shownOf 104 = .ok (.iload 4, 2) := by decide +kernel
theorem dX7_shownOf_106 : decode cX7_shownOf 106 = .ok (.bipush 100, 2) := by decide +kernel
theorem dX7_shownOf_108 : decode cX7_shownOf 108 = .ok (.irem, 1) := by decide +kernel
theorem dX7_shownOf_109 : decode cX7_shownOf 109 = .ok (.istore 5, 2) := by decide +kernel
theorem dX7_shownOf_111 : decode cX7_shownOf 111 = .ok (.iload_n 3, 1) := by decide +kernel
theorem dX7_shownOf_112 : decode cX7_shownOf 112 = .ok (.iconst 1, 1) := by decide +kernel
theorem dX7_shownOf_113 : decode cX7_shownOf 113 = .ok (.if_icmp .eq 8, 3) := by decide +kernel
theorem dX7_shownOf_116 : decode cX7_shownOf 116 = .ok (.iload 5, 2) := by decide +kernel
theorem dX7_shownOf_118 : decode cX7_shownOf 118 = .ok (.ifCond .le 21, 3) := by decide +kernel
theorem dX7_shownOf_121 : decode cX7_shownOf 121 = .ok (.aload_n 0, 1) := by decide +kernel
theorem dX7_shownOf_122 : decode cX7_shownOf 122 = .ok (.bipush 46, 2) := by decide +kernel
theorem dX7_shownOf_124 : decode cX7_shownOf 124 = .ok (.invokevirtual 189, 3) := by decide +kernel
theorem dX7_shownOf_127 : decode cX7_shownOf 127 = .ok (.aload_n 0, 1) := by decide +kernel
theorem dX7_shownOf_128 : decode cX7_shownOf 128 = .ok (.bipush 48, 2) := by decide +kernel
theorem dX7_shownOf_130 : decode cX7_shownOf 130 = .ok (.iload 5, 2) := by decide +kernel
theorem dX7_shownOf_132 : decode cX7_shownOf 132 = .ok (.bipush 10, 2) := by decide +kernel
theorem dX7_shownOf_134 : decode cX7_shownOf 134 = .ok (.idiv, 1) := by decide +kernel
theorem dX7_shownOf_135 : decode cX7_shownOf 135 = .ok (.iadd, 1) := by decide +kernel
theorem dX7_shownOf_136 : decode cX7_shownOf 136 = .ok (.invokevirtual 189, 3) := by decide +kernel
theorem dX7_shownOf_139 : decode cX7_shownOf 139 = .ok (.iload_n 3, 1) := by decide +kernel
theorem dX7_shownOf_140 : decode cX7_shownOf 140 = .ok (.iconst 1, 1) := by decide +kernel
theorem dX7_shownOf_141 : decode cX7_shownOf 141 = .ok (.if_icmp .eq 11, 3) := by decide +kernel
theorem dX7_shownOf_144 : decode cX7_shownOf 144 = .ok (.iload 5, 2) := by decide +kernel
theorem dX7_shownOf_146 : decode cX7_shownOf 146 = .ok (.bipush 10, 2) := by decide +kernel
theorem dX7_shownOf_148 : decode cX7_shownOf 148 = .ok (.irem, 1) := by decide +kernel
theorem dX7_shownOf_149 : decode cX7_shownOf 149 = .ok (.ifCond .le 15, 3) := by decide +kernel
theorem dX7_shownOf_152 : decode cX7_shownOf 152 = .ok (.aload_n 0, 1) := by decide +kernel
theorem dX7_shownOf_153 : decode cX7_shownOf 153 = .ok (.bipush 48, 2) := by decide +kernel
theorem dX7_shownOf_155 : decode cX7_shownOf 155 = .ok (.iload 5, 2) := by decide +kernel
theorem dX7_shownOf_157 : decode cX7_shownOf 157 = .ok (.bipush 10, 2) := by decide +kernel
theorem dX7_shownOf_159 : decode cX7_shownOf 159 = .ok (.irem, 1) := by decide +kernel
theorem dX7_shownOf_160 : decode cX7_shownOf 160 = .ok (.iadd, 1) := by decide +kernel
theorem dX7_shownOf_161 : decode cX7_shownOf 161 = .ok (.invokevirtual 189, 3) := by decide +kernel
theorem dX7_shownOf_164 : decode cX7_shownOf 164 = .ok (.aload_n 0, 1) := by decide +kernel
theorem dX7_shownOf_165 : decode cX7_shownOf 165 = .ok (.getfield 186, 3) := by decide +kernel
theorem dX7_shownOf_168 : decode cX7_shownOf 168 = .ok (.ireturn, 1) := by decide +kernel
theorem dX7_shown_0 : decode cX7_shown 0 = .ok (.aload_n 0, 1) := by decide +kernel
theorem dX7_shown_1 : decode cX7_shown 1 = .ok (.iload_n 1, 1) := by decide +kernel
theorem dX7_shown_2 : decode cX7_shown 2 = .ok (.invokevirtual 180, 3) := by decide +kernel
theorem dX7_shown_5 : decode cX7_shown 5 = .ok (.ifCond .eq 7, 3) := by decide +kernel
theorem dX7_shown_8 : decode cX7_shown 8 = .ok (.iload_n 2, 1) := by decide +kernel
theorem dX7_shown_9 : decode cX7_shown 9 = .ok (.ifCond .ge 5, 3) := by decide +kernel
theorem dX7_shown_12 : decode cX7_shown 12 = .ok (.iconst (-1), 1) := by decide +kernel
theorem dX7_shown_13 : decode cX7_shown 13 = .ok (.ireturn, 1) := by decide +kernel
theorem dX7_shown_14 : decode cX7_shown 14 = .ok (.iload_n 2, 1) := by decide +kernel
theorem dX7_shown_15 : decode cX7_shown 15 = .ok (.aload_n 0, 1) := by decide +kernel
theorem dX7_shown_16 : decode cX7_shown 16 = .ok (.iload_n 1, 1) := by decide +kernel
theorem dX7_shown_17 : decode cX7_shown 17 = .ok (.invokevirtual 195, 3) := by decide +kernel
theorem dX7_shown_20 : decode cX7_shown 20 = .ok (.if_icmp .ge 12, 3) := by decide +kernel
theorem dX7_shown_23 : decode cX7_shown 23 = .ok (.aload_n 0, 1) := by decide +kernel
theorem dX7_shown_24 : decode cX7_shown 24 = .ok (.getfield 28, 3) := by decide +kernel
theorem dX7_shown_27 : decode cX7_shown 27 = .ok (.iload_n 2, 1) := by decide +kernel
theorem dX7_shown_28 : decode cX7_shown 28 = .ok (.iaload, 1) := by decide +kernel
theorem dX7_shown_29 : decode cX7_shown 29 = .ok (.goto 5, 3) := by decide +kernel
theorem dX7_shown_32 : decode cX7_shown 32 = .ok (.bipush (-4), 2) := by decide +kernel
theorem dX7_shown_34 : decode cX7_shown 34 = .ok (.ireturn, 1) := by decide +kernel
theorem dX7_off_0 : decode cX7_off 0 = .ok (.iload_n 0, 1) := by decide +kernel
theorem dX7_off_1 : decode cX7_off 1 = .ok (.iload_n 1, 1) := by decide +kernel
theorem dX7_off_2 : decode cX7_off 2 = .ok (.if_icmp .ge 9, 3) := by decide +kernel
theorem dX7_off_5 : decode cX7_off 5 = .ok (.iload_n 1, 1) := by decide +kernel
theorem dX7_off_6 : decode cX7_off 6 = .ok (.iload_n 0, 1) := by decide +kernel
theorem dX7_off_7 : decode cX7_off 7 = .ok (.isub, 1) := by decide +kernel
theorem dX7_off_8 : decode cX7_off 8 = .ok (.goto 6, 3) := by decide +kernel
theorem dX7_off_11 : decode cX7_off 11 = .ok (.iload_n 0, 1) := by decide +kernel
theorem dX7_off_12 : decode cX7_off 12 = .ok (.iload_n 1, 1) := by decide +kernel
theorem dX7_off_13 : decode cX7_off 13 = .ok (.isub, 1) := by decide +kernel
theorem dX7_off_14 : decode cX7_off 14 = .ok (.ireturn, 1) := by decide +kernel
theorem dX7_spreadOf_0 : decode cX7_spreadOf 0 = .ok (.aload_n 0, 1) := by decide +kernel
theorem dX7_spreadOf_1 : decode cX7_spreadOf 1 = .ok (.getfield 22, 3) := by decide +kernel
theorem dX7_spreadOf_4 : decode cX7_spreadOf 4 = .ok (.aload_n 0, 1) := by decide +kernel
theorem dX7_spreadOf_5 : decode cX7_spreadOf 5 = .ok (.getfield 144, 3) := by decide +kernel
theorem dX7_spreadOf_8 : decode cX7_spreadOf 8 = .ok (.iconst 1, 1) := by decide +kernel
theorem dX7_spreadOf_9 : decode cX7_spreadOf 9 = .ok (.isub, 1) := by decide +kernel
theorem dX7_spreadOf_10 : decode cX7_spreadOf 10 = .ok (.iconst 2, 1) := by decide +kernel
theorem dX7_spreadOf_11 : decode cX7_spreadOf 11 = .ok (.idiv, 1) := by decide +kernel
theorem dX7_spreadOf_12 : decode cX7_spreadOf 12 = .ok (.iaload, 1) := by decide +kernel
theorem dX7_spreadOf_13 : decode cX7_spreadOf 13 = .ok (.istore_n 1, 1) := by decide +kernel
theorem dX7_spreadOf_14 : decode cX7_spreadOf 14 = .ok (.iconst 0, 1) := by decide +kernel
theorem dX7_spreadOf_15 : decode cX7_spreadOf 15 = .ok (.istore_n 2, 1) := by decide +kernel
theorem dX7_spreadOf_16 : decode cX7_spreadOf 16 = .ok (.iload_n 2, 1) := by decide +kernel
theorem dX7_spreadOf_17 : decode cX7_spreadOf 17 = .ok (.aload_n 0, 1) := by decide +kernel
theorem dX7_spreadOf_18 : decode cX7_spreadOf 18 = .ok (.getfield 144, 3) := by decide +kernel
theorem dX7_spreadOf_21 : decode cX7_spreadOf 21 = .ok (.if_icmp .ge 27, 3) := by decide +kernel
theorem dX7_spreadOf_24 : decode cX7_spreadOf 24 = .ok (.aload_n 0, 1) := by decide +kernel
theorem dX7_spreadOf_25 : decode cX7_spreadOf 25 = .ok (.getfield 25, 3) := by decide +kernel
theorem dX7_spreadOf_28 : decode cX7_spreadOf 28 = .ok (.iload_n 2, 1) := by decide +kernel
theorem dX7_spreadOf_29 : decode cX7_spreadOf 29 = .ok (.aload_n 0, 1) := by decide +kernel
theorem dX7_spreadOf_30 : decode cX7_spreadOf 30 = .ok (.getfield 22, 3) := by decide +kernel
theorem dX7_spreadOf_33 : decode cX7_spreadOf 33 = .ok (.iload_n 2, 1) := by decide +kernel
theorem dX7_spreadOf_34 : decode cX7_spreadOf 34 = .ok (.iaload, 1) := by decide +kernel
theorem dX7_spreadOf_35 : decode cX7_spreadOf 35 = .ok (.iload_n 1, 1) := by decide +kernel
theorem dX7_spreadOf_36 : decode cX7_spreadOf 36 = .ok (.invokestatic 198, 3) := by decide +kernel
theorem dX7_spreadOf_39 : decode cX7_spreadOf 39 = .ok (.invokestatic 147, 3) := by decide +kernel
theorem dX7_spreadOf_42 : decode cX7_spreadOf 42 = .ok (.iinc 2 1, 3) := by decide +kernel
theorem dX7_spreadOf_45 : decode cX7_spreadOf 45 = .ok (.goto (-29), 3) := by decide +kernel
theorem dX7_spreadOf_48 : decode cX7_spreadOf 48 = .ok (.aload_n 0, 1) := by decide +kernel
theorem dX7_spreadOf_49 : decode cX7_spreadOf 49 = .ok (.getfield 25, 3) := by decide +kernel
theorem dX7_spreadOf_52 : decode cX7_spreadOf 52 = .ok (.aload_n 0, 1) := by decide +kernel
theorem dX7_spreadOf_53 : decode cX7_spreadOf 53 = .ok (.getfield 144, 3) := by decide +kernel
theorem dX7_spreadOf_56 : decode cX7_spreadOf 56 = .ok (.iconst 1, 1) := by decide +kernel
theorem dX7_spreadOf_57 : decode cX7_spreadOf 57 = .ok (.isub, 1) := by decide +kernel
theorem dX7_spreadOf_58 : decode cX7_spreadOf 58 = .ok (.iconst 2, 1) := by decide +kernel
theorem dX7_spreadOf_59 : decode cX7_spreadOf 59 = .ok (.idiv, 1) := by decide +kernel
theorem dX7_spreadOf_60 : decode cX7_spreadOf 60 = .ok (.iaload, 1) := by decide +kernel
theorem dX7_spreadOf_61 : decode cX7_spreadOf 61 = .ok (.ireturn, 1) := by decide +kernel
theorem dX7_middle_0 : decode cX7_middle 0 = .ok (.aload_n 0, 1) := by decide +kernel
theorem dX7_middle_1 : decode cX7_middle 1 = .ok (.iload_n 1, 1) := by decide +kernel
theorem dX7_middle_2 : decode cX7_middle 2 = .ok (.invokevirtual 180, 3) := by decide +kernel
theorem dX7_middle_5 : decode cX7_middle 5 = .ok (.ifCond .eq 13, 3) := by decide +kernel
theorem dX7_middle_8 : decode cX7_middle 8 = .ok (.iload_n 2, 1) := by decide +kernel
theorem dX7_middle_9 : decode cX7_middle 9 = .ok (.i2l, 1) := by decide +kernel
theorem dX7_middle_10 : decode cX7_middle 10 = .ok (.lconst 0, 1) := by decide +kernel
theorem dX7_middle_11 : decode cX7_middle 11 = .ok (.lconst 1, 1) := by decide +kernel
theorem dX7_middle_12 : decode cX7_middle 12 = .ok (.invokestatic 54, 3) := by decide +kernel
theorem dX7_middle_15 : decode cX7_middle 15 = .ok (.ifCond .ne 6, 3) := by decide +kernel
theorem dX7_middle_18 : decode cX7_middle 18 = .ok (.ldc 106, 2) := by decide +kernel
theorem dX7_middle_20 : decode cX7_middle 20 = .ok (.ireturn, 1) := by decide +kernel
theorem dX7_middle_21 : decode cX7_middle 21 = .ok (.aload_n 0, 1) := by decide +kernel
theorem dX7_middle_22 : decode cX7_middle 22 = .ok (.iload_n 1, 1) := by decide +kernel
theorem dX7_middle_23 : decode cX7_middle 23 = .ok (.invokevirtual 151, 3) := by decide +kernel
theorem dX7_middle_26 : decode cX7_middle 26 = .ok (.aload_n 0, 1) := by decide +kernel
theorem dX7_middle_27 : decode cX7_middle 27 = .ok (.getfield 144, 3) := by decide +kernel
theorem dX7_middle_30 : decode cX7_middle 30 = .ok (.ifCond .ne 8, 3) := by decide +kernel
theorem dX7_middle_33 : decode cX7_middle 33 = .ok (.ldc 106, 2) := by decide +kernel
theorem dX7_middle_35 : decode cX7_middle 35 = .ok (.goto 27, 3) := by decide +kernel
theorem dX7_middle_38 : decode cX7_middle 38 = .ok (.iload_n 2, 1) := by decide +kernel
theorem dX7_middle_39 : decode cX7_middle 39 = .ok (.ifCond .ne 19, 3) := by decide +kernel
theorem dX7_middle_42 : decode cX7_middle 42 = .ok (.aload_n 0, 1) := by decide +kernel
theorem dX7_middle_43 : decode cX7_middle 43 = .ok (.getfield 22, 3) := by decide +kernel
theorem dX7_middle_46 : decode cX7_middle 46 = .ok (.aload_n 0, 1) := by decide +kernel
theorem dX7_middle_47 : decode cX7_middle 47 = .ok (.getfield 144, 3) := by decide +kernel
theorem dX7_middle_50 : decode cX7_middle 50 = .ok (.iconst 1, 1) := by decide +kernel
theorem dX7_middle_51 : decode cX7_middle 51 = .ok (.isub, 1) := by decide +kernel
theorem dX7_middle_52 : decode cX7_middle 52 = .ok (.iconst 2, 1) := by decide +kernel
theorem dX7_middle_53 : decode cX7_middle 53 = .ok (.idiv, 1) := by decide +kernel
theorem dX7_middle_54 : decode cX7_middle 54 = .ok (.iaload, 1) := by decide +kernel
theorem dX7_middle_55 : decode cX7_middle 55 = .ok (.goto 7, 3) := by decide +kernel
theorem dX7_middle_58 : decode cX7_middle 58 = .ok (.aload_n 0, 1) := by decide +kernel
theorem dX7_middle_59 : decode cX7_middle 59 = .ok (.invokevirtual 201, 3) := by decide +kernel
theorem dX7_middle_62 : decode cX7_middle 62 = .ok (.ireturn, 1) := by decide +kernel
theorem dX7_isFar_0 : decode cX7_isFar 0 = .ok (.aload_n 0, 1) := by decide +kernel
theorem dX7_isFar_1 : decode cX7_isFar 1 = .ok (.getfield 7, 3) := by decide +kernel
theorem dX7_isFar_4 : decode cX7_isFar 4 = .ok (.iload_n 1, 1) := by decide +kernel
theorem dX7_isFar_5 : decode cX7_isFar 5 = .ok (.iaload, 1) := by decide +kernel
theorem dX7_isFar_6 : decode cX7_isFar 6 = .ok (.ldc 106, 2) := by decide +kernel
theorem dX7_isFar_8 : decode cX7_isFar 8 = .ok (.if_icmp .ne 5, 3) := by decide +kernel
theorem dX7_isFar_11 : decode cX7_isFar 11 = .ok (.iconst 0, 1) := by decide +kernel
theorem dX7_isFar_12 : decode cX7_isFar 12 = .ok (.ireturn, 1) := by decide +kernel
theorem dX7_isFar_13 : decode cX7_isFar 13 = .ok (.aload_n 0, 1) := by decide +kernel
theorem dX7_isFar_14 : decode cX7_isFar 14 = .ok (.iload_n 1, 1) := by decide +kernel
theorem dX7_isFar_15 : decode cX7_isFar 15 = .ok (.invokevirtual 151, 3) := by decide +kernel
theorem dX7_isFar_18 : decode cX7_isFar 18 = .ok (.aload_n 0, 1) := by decide +kernel
theorem dX7_isFar_19 : decode cX7_isFar 19 = .ok (.getfield 22, 3) := by decide +kernel
theorem dX7_isFar_22 : decode cX7_isFar 22 = .ok (.aload_n 0, 1) := by decide +kernel
theorem dX7_isFar_23 : decode cX7_isFar 23 = .ok (.getfield 144, 3) := by decide +kernel
theorem dX7_isFar_26 : decode cX7_isFar 26 = .ok (.iconst 1, 1) := by decide +kernel
theorem dX7_isFar_27 : decode cX7_isFar 27 = .ok (.isub, 1) := by decide +kernel
theorem dX7_isFar_28 : decode cX7_isFar 28 = .ok (.iconst 2, 1) := by decide +kernel
theorem dX7_isFar_29 : decode cX7_isFar 29 = .ok (.idiv, 1) := by decide +kernel
theorem dX7_isFar_30 : decode cX7_isFar 30 = .ok (.iaload, 1) := by decide +kernel
theorem dX7_isFar_31 : decode cX7_isFar 31 = .ok (.istore_n 3, 1) := by decide +kernel
theorem dX7_isFar_32 : decode cX7_isFar 32 = .ok (.aload_n 0, 1) := by decide +kernel
theorem dX7_isFar_33 : decode cX7_isFar 33 = .ok (.getfield 7, 3) := by decide +kernel
theorem dX7_isFar_36 : decode cX7_isFar 36 = .ok (.iload_n 1, 1) := by decide +kernel
theorem dX7_isFar_37 : decode cX7_isFar 37 = .ok (.iaload, 1) := by decide +kernel
theorem dX7_isFar_38 : decode cX7_isFar 38 = .ok (.iload_n 3, 1) := by decide +kernel
theorem dX7_isFar_39 : decode cX7_isFar 39 = .ok (.invokestatic 198, 3) := by decide +kernel
theorem dX7_isFar_42 : decode cX7_isFar 42 = .ok (.i2l, 1) := by decide +kernel
theorem dX7_isFar_43 : decode cX7_isFar 43 = .ok (.iload_n 2, 1) := by decide +kernel
theorem dX7_isFar_44 : decode cX7_isFar 44 = .ok (.i2l, 1) := by decide +kernel
theorem dX7_isFar_45 : decode cX7_isFar 45 = .ok (.aload_n 0, 1) := by decide +kernel
theorem dX7_isFar_46 : decode cX7_isFar 46 = .ok (.invokevirtual 201, 3) := by decide +kernel
theorem dX7_isFar_49 : decode cX7_isFar 49 = .ok (.i2l, 1) := by decide +kernel
theorem dX7_isFar_50 : decode cX7_isFar 50 = .ok (.lmul, 1) := by decide +kernel
theorem dX7_isFar_51 : decode cX7_isFar 51 = .ok (.lcmp, 1) := by decide +kernel
theorem dX7_isFar_52 : decode cX7_isFar 52 = .ok (.ifCond .le 7, 3) := by decide +kernel
theorem dX7_isFar_55 : decode cX7_isFar 55 = .ok (.iconst 1, 1) := by decide +kernel
theorem dX7_isFar_56 : decode cX7_isFar 56 = .ok (.goto 4, 3) := by decide +kernel
theorem dX7_isFar_59 : decode cX7_isFar 59 = .ok (.iconst 0, 1) := by decide +kernel
theorem dX7_isFar_60 : decode cX7_isFar 60 = .ok (.ireturn, 1) := by decide +kernel
theorem dX7_far_0 : decode cX7_far 0 = .ok (.aload_n 0, 1) := by decide +kernel
theorem dX7_far_1 : decode cX7_far 1 = .ok (.iload_n 1, 1) := by decide +kernel
theorem dX7_far_2 : decode cX7_far 2 = .ok (.invokevirtual 180, 3) := by decide +kernel
theorem dX7_far_5 : decode cX7_far 5 = .ok (.ifCond .eq 15, 3) := by decide +kernel
theorem dX7_far_8 : decode cX7_far 8 = .ok (.iload_n 2, 1) := by decide +kernel
theorem dX7_far_9 : decode cX7_far 9 = .ok (.i2l, 1) := by decide +kernel
theorem dX7_far_10 : decode cX7_far 10 = .ok (.lconst 1, 1) := by decide +kernel
theorem dX7_far_11 : decode cX7_far 11 = .ok (.ldc2_w 204, 3) := by decide +kernel
theorem dX7_far_14 : decode cX7_far 14 = .ok (.invokestatic 54, 3) := by decide +kernel
theorem dX7_far_17 : decode cX7_far 17 = .ok (.ifCond .ne 5, 3) := by decide +kernel
theorem dX7_far_20 : decode cX7_far 20 = .ok (.iconst (-1), 1) := by decide +kernel
theorem dX7_far_21 : decode cX7_far 21 = .ok (.ireturn, 1) := by decide +kernel
theorem dX7_far_22 : decode cX7_far 22 = .ok (.aload_n 0, 1) := by decide +kernel
theorem dX7_far_23 : decode cX7_far 23 = .ok (.iload_n 1, 1) := by decide +kernel
theorem dX7_far_24 : decode cX7_far 24 = .ok (.iload_n 2, 1) := by decide +kernel
theorem dX7_far_25 : decode cX7_far 25 = .ok (.invokevirtual 206, 3) := by decide +kernel
theorem dX7_far_28 : decode cX7_far 28 = .ok (.ifCond .eq 7, 3) := by decide +kernel
theorem dX7_far_31 : decode cX7_far 31 = .ok (.iconst 1, 1) := by decide +kernel
theorem dX7_far_32 : decode cX7_far 32 = .ok (.goto 4, 3) := by decide +kernel
theorem dX7_far_35 : decode cX7_far 35 = .ok (.iconst 0, 1) := by decide +kernel
theorem dX7_far_36 : decode cX7_far 36 = .ok (.ireturn, 1) := by decide +kernel
theorem dX7_fars_0 : decode cX7_fars 0 = .ok (.aload_n 0, 1) := by decide +kernel
theorem dX7_fars_1 : decode cX7_fars 1 = .ok (.invokevirtual 128, 3) := by decide +kernel
theorem dX7_fars_4 : decode cX7_fars 4 = .ok (.iload_n 1, 1) := by decide +kernel
theorem dX7_fars_5 : decode cX7_fars 5 = .ok (.i2l, 1) := by decide +kernel
theorem dX7_fars_6 : decode cX7_fars 6 = .ok (.lconst 1, 1) := by decide +kernel
theorem dX7_fars_7 : decode cX7_fars 7 = .ok (.ldc2_w 204, 3) := by decide +kernel
theorem dX7_fars_10 : decode cX7_fars 10 = .ok (.invokestatic 54, 3) := by decide +kernel
theorem dX7_fars_13 : decode cX7_fars 13 = .ok (.ifCond .ne 5, 3) := by decide +kernel
theorem dX7_fars_16 : decode cX7_fars 16 = .ok (.iconst (-1), 1) := by decide +kernel
theorem dX7_fars_17 : decode cX7_fars 17 = .ok (.ireturn, 1) := by decide +kernel
theorem dX7_fars_18 : decode cX7_fars 18 = .ok (.iconst 0, 1) := by decide +kernel
theorem dX7_fars_19 : decode cX7_fars 19 = .ok (.istore_n 2, 1) := by decide +kernel
theorem dX7_fars_20 : decode cX7_fars 20 = .ok (.iconst 0, 1) := by decide +kernel
theorem dX7_fars_21 : decode cX7_fars 21 = .ok (.istore_n 3, 1) := by decide +kernel
theorem dX7_fars_22 : decode cX7_fars 22 = .ok (.iload_n 3, 1) := by decide +kernel
theorem dX7_fars_23 : decode cX7_fars 23 = .ok (.aload_n 0, 1) := by decide +kernel
theorem dX7_fars_24 : decode cX7_fars 24 = .ok (.invokevirtual 141, 3) := by decide +kernel
theorem dX7_fars_27 : decode cX7_fars 27 = .ok (.if_icmp .ge 26, 3) := by decide +kernel
theorem dX7_fars_30 : decode cX7_fars 30 = .ok (.iload_n 2, 1) := by decide +kernel
theorem dX7_fars_31 : decode cX7_fars 31 = .ok (.aload_n 0, 1) := by decide +kernel
theorem dX7_fars_32 : decode cX7_fars 32 = .ok (.iload_n 3, 1) := by decide +kernel
theorem dX7_fars_33 : decode cX7_fars 33 = .ok (.iload_n 1, 1) := by decide +kernel
theorem dX7_fars_34 : decode cX7_fars 34 = .ok (.invokevirtual 206, 3) := by decide +kernel
theorem dX7_fars_37 : decode cX7_fars 37 = .ok (.ifCond .eq 7, 3) := by decide +kernel
theorem dX7_fars_40 : decode cX7_fars 40 = .ok (.iconst 1, 1) := by decide +kernel
theorem dX7_fars_41 : decode cX7_fars 41 = .ok (.goto 4, 3) := by decide +kernel
theorem dX7_fars_44 : decode cX7_fars 44 = .ok (.iconst 0, 1) := by decide +kernel
theorem dX7_fars_45 : decode cX7_fars 45 = .ok (.iadd, 1) := by decide +kernel
theorem dX7_fars_46 : decode cX7_fars 46 = .ok (.istore_n 2, 1) := by decide +kernel
theorem dX7_fars_47 : decode cX7_fars 47 = .ok (.iinc 3 1, 3) := by decide +kernel
theorem dX7_fars_50 : decode cX7_fars 50 = .ok (.goto (-28), 3) := by decide +kernel
theorem dX7_fars_53 : decode cX7_fars 53 = .ok (.iload_n 2, 1) := by decide +kernel
theorem dX7_fars_54 : decode cX7_fars 54 = .ok (.ireturn, 1) := by decide +kernel
theorem dX7_above_0 : decode cX7_above 0 = .ok (.aload_n 0, 1) := by decide +kernel
theorem dX7_above_1 : decode cX7_above 1 = .ok (.invokevirtual 128, 3) := by decide +kernel
theorem dX7_above_4 : decode cX7_above 4 = .ok (.iload_n 2, 1) := by decide +kernel
theorem dX7_above_5 : decode cX7_above 5 = .ok (.i2l, 1) := by decide +kernel
theorem dX7_above_6 : decode cX7_above 6 = .ok (.lconst 0, 1) := by decide +kernel
theorem dX7_above_7 : decode cX7_above 7 = .ok (.ldc2_w 210, 3) := by decide +kernel
theorem dX7_above_10 : decode cX7_above 10 = .ok (.invokestatic 54, 3) := by decide +kernel
theorem dX7_above_13 : decode cX7_above 13 = .ok (.ifCond .ne 5, 3) := by decide +kernel
theorem dX7_above_16 : decode cX7_above 16 = .ok (.iconst (-1), 1) := by decide +kernel
theorem dX7_above_17 : decode cX7_above 17 = .ok (.ireturn, 1) := by decide +kernel
theorem dX7_above_18 : decode cX7_above 18 = .ok (.iconst 0, 1) := by decide +kernel
theorem dX7_above_19 : decode cX7_above 19 = .ok (.istore_n 3, 1) := by decide +kernel
theorem dX7_above_20 : decode cX7_above 20 = .ok (.bipush (-4), 2) := by decide +kernel
theorem dX7_above_22 : decode cX7_above 22 = .ok (.istore 4, 2) := by decide +kernel
theorem dX7_above_24 : decode cX7_above 24 = .ok (.bipush (-4), 2) := by decide +kernel
theorem dX7_above_26 : decode cX7_above 26 = .ok (.istore 5, 2) := by decide +kernel
theorem dX7_above_28 : decode cX7_above 28 = .ok (.iconst 0, 1) := by decide +kernel
theorem dX7_above_29 : decode cX7_above 29 = .ok (.istore 6, 2) := by decide +kernel
theorem dX7_above_31 : decode cX7_above 31 = .ok (.iconst 0, 1) := by decide +kernel
theorem dX7_above_32 : decode cX7_above 32 = .ok (.istore 7, 2) := by decide +kernel
theorem dX7_above_34 : decode cX7_above 34 = .ok (.iconst 0, 1) := by decide +kernel
theorem dX7_above_35 : decode cX7_above 35 = .ok (.istore 8, 2) := by decide +kernel
theorem dX7_above_37 : decode cX7_above 37 = .ok (.iload 8, 2) := by decide +kernel
theorem dX7_above_39 : decode cX7_above 39 = .ok (.aload_n 0, 1) := by decide +kernel
theorem dX7_above_40 : decode cX7_above 40 = .ok (.invokevirtual 141, 3) := by decide +kernel
theorem dX7_above_43 : decode cX7_above 43 = .ok (.if_icmp .ge 121, 3) := by decide +kernel
theorem dX7_above_46 : decode cX7_above 46 = .ok (.aload_n 0, 1) := by decide +kernel
theorem dX7_above_47 : decode cX7_above 47 = .ok (.iload 8, 2) := by decide +kernel
theorem dX7_above_49 : decode cX7_above 49 = .ok (.invokevirtual 168, 3) := by decide +kernel
theorem dX7_above_52 : decode cX7_above 52 = .ok (.ifCond .eq 24, 3) := by decide +kernel
theorem dX7_above_55 : decode cX7_above 55 = .ok (.aload_n 0, 1) := by decide +kernel
theorem dX7_above_56 : decode cX7_above 56 = .ok (.getfield 163, 3) := by decide +kernel
theorem dX7_above_59 : decode cX7_above 59 = .ok (.i2l, 1) := by decide +kernel
theorem dX7_above_60 : decode cX7_above 60 = .ok (.iload_n 1, 1) := by decide +kernel
theorem dX7_above_61 : decode cX7_above 61 = .ok (.i2l, 1) := by decide +kernel
theorem dX7_above_62 : decode cX7_above 62 = .ok (.aload_n 0, 1) := by decide +kernel
theorem dX7_above_63 : decode cX7_above 63 = .ok (.getfield 160, 3) := by decide +kernel
theorem dX7_above_66 : decode cX7_above 66 = .ok (.i2l, 1) := by decide +kernel
theorem dX7_above_67 : decode cX7_above 67 = .ok (.lmul, 1) := by decide +kernel
theorem dX7_above_68 : decode cX7_above 68 = .ok (.lcmp, 1) := by decide +kernel
theorem dX7_above_69 : decode cX7_above 69 = .ok (.ifCond .le 7, 3) := by decide +kernel
theorem dX7_above_72 : decode cX7_above 72 = .ok (.iconst 1, 1) := by decide +kernel
theorem dX7_above_73 : decode cX7_above 73 = .ok (.goto 4, 3) := by decide +kernel
theorem dX7_above_76 : decode cX7_above 76 = .ok (.iconst 0, 1) := by decide +kernel
theorem dX7_above_77 : decode cX7_above 77 = .ok (.istore 9, 2) := by decide +kernel
theorem dX7_above_79 : decode cX7_above 79 = .ok (.iload 9, 2) := by decide +kernel
theorem dX7_above_81 : decode cX7_above 81 = .ok (.ifCond .eq 10, 3) := by decide +kernel
theorem dX7_above_84 : decode cX7_above 84 = .ok (.iload 6, 2) := by decide +kernel
theorem dX7_above_86 : decode cX7_above 86 = .ok (.iconst 1, 1) := by decide +kernel
theorem dX7_above_87 : decode cX7_above 87 = .ok (.iadd, 1) := by decide +kernel
theorem dX7_above_88 : decode cX7_above 88 = .ok (.goto 4, 3) := by decide +kernel
theorem dX7_above_91 : decode cX7_above 91 = .ok (.iconst 0, 1) := by decide +kernel
theorem dX7_above_92 : decode cX7_above 92 = .ok (.istore 6, 2) := by decide +kernel
theorem dX7_above_94 : decode cX7_above 94 = .ok (.iload 6, 2) := by decide +kernel
theorem dX7_above_96 : decode cX7_above 96 = .ok (.iload 7, 2) := by decide +kernel
theorem dX7_above_98 : decode cX7_above 98 = .ok (.if_icmp .le 8, 3) := by decide +kernel
theorem dX7_above_101 : decode cX7_above 101 = .ok (.iload 6, 2) := by decide +kernel
theorem dX7_above_103 : decode cX7_above 103 = .ok (.goto 5, 3) := by decide +kernel
theorem dX7_above_106 : decode cX7_above 106 = .ok (.iload 7, 2) := by decide +kernel
theorem dX7_above_108 : decode cX7_above 108 = .ok (.istore 7, 2) := by decide +kernel
theorem dX7_above_110 : decode cX7_above 110 = .ok (.iload_n 3, 1) := by decide +kernel
theorem dX7_above_111 : decode cX7_above 111 = .ok (.iload 9, 2) := by decide +kernel
theorem dX7_above_113 : decode cX7_above 113 = .ok (.ifCond .eq 7, 3) := by decide +kernel
theorem dX7_above_116 : decode cX7_above 116 = .ok (.iconst 1, 1) := by decide +kernel
theorem dX7_above_117 : decode cX7_above 117 = .ok (.goto 4, 3) := by decide +kernel
theorem dX7_above_120 : decode cX7_above 120 = .ok (.iconst 0, 1) := by decide +kernel
theorem dX7_above_121 : decode cX7_above 121 = .ok (.iadd, 1) := by decide +kernel
theorem dX7_above_122 : decode cX7_above 122 = .ok (.istore_n 3, 1) := by decide +kernel
theorem dX7_above_123 : decode cX7_above 123 = .ok (.iload 9, 2) := by decide +kernel
theorem dX7_above_125 : decode cX7_above 125 = .ok (.ifCond .eq 15, 3) := by decide +kernel
theorem dX7_above_128 : decode cX7_above 128 = .ok (.iload 4, 2) := by decide +kernel
theorem dX7_above_130 : decode cX7_above 130 = .ok (.bipush (-4), 2) := by decide +kernel
theorem dX7_above_132 : decode cX7_above 132 = .ok (.if_icmp .ne 8, 3) := by decide +kernel
theorem dX7_above_135 : decode cX7_above 135 = .ok (.iload 8, 2) := by decide +kernel
theorem dX7_above_137 : decode cX7_above 137 = .ok (.goto 5, 3) := by decide +kernel
theorem dX7_above_140 : decode cX7_above 140 = .ok (.iload 4, 2) := by decide +kernel
theorem dX7_above_142 : decode cX7_above 142 = .ok (.istore 4, 2) := by decide +kernel
theorem dX7_above_144 : decode cX7_above 144 = .ok (.iload 9, 2) := by decide +kernel
theorem dX7_above_146 : decode cX7_above 146 = .ok (.ifCond .eq 8, 3) := by decide +kernel
theorem dX7_above_149 : decode cX7_above 149 = .ok (.iload 8, 2) := by decide +kernel
theorem dX7_above_151 : decode cX7_above 151 = .ok (.goto 5, 3) := by decide +kernel
theorem dX7_above_154 : decode cX7_above 154 = .ok (.iload 5, 2) := by decide +kernel
theorem dX7_above_156 : decode cX7_above 156 = .ok (.istore 5, 2) := by decide +kernel
theorem dX7_above_158 : decode cX7_above 158 = .ok (.iinc 8 1, 3) := by decide +kernel
theorem dX7_above_161 : decode cX7_above 161 = .ok (.goto (-124), 3) := by decide +kernel
theorem dX7_above_164 : decode cX7_above 164 = .ok (.iload_n 2, 1) := by decide +kernel
theorem dX7_above_165 : decode cX7_above 165 = .ok (.ifCond .ne 7, 3) := by decide +kernel
theorem dX7_above_168 : decode cX7_above 168 = .ok (.iload_n 3, 1) := by decide +kernel
theorem dX7_above_169 : decode cX7_above 169 = .ok (.goto 25, 3) := by decide +kernel
theorem dX7_above_172 : decode cX7_above 172 = .ok (.iload_n 2, 1) := by decide +kernel
theorem dX7_above_173 : decode cX7_above 173 = .ok (.iconst 1, 1) := by decide +kernel
theorem dX7_above_174 : decode cX7_above 174 = .ok (.if_icmp .ne 8, 3) := by decide +kernel
theorem dX7_above_177 : decode cX7_above 177 = .ok (.iload 4, 2) := by decide +kernel
theorem dX7_above_179 : decode cX7_above 179 = .ok (.goto 15, 3) := by decide +kernel
theorem dX7_above_182 : decode cX7_above 182 = .ok (.iload_n 2, 1) := by decide +kernel
theorem dX7_above_183 : decode cX7_above 183 = .ok (.iconst 2, 1) := by decide +kernel
theorem dX7_above_184 : decode cX7_above 184 = .ok (.if_icmp .ne 8, 3) := by decide +kernel
theorem dX7_above_187 : decode cX7_above 187 = .ok (.iload 5, 2) := by decide +kernel
theorem dX7_above_189 : decode cX7_above 189 = .ok (.goto 5, 3) := by decide +kernel
theorem dX7_above_192 : decode cX7_above 192 = .ok (.iload 7, 2) := by decide +kernel
theorem dX7_above_194 : decode cX7_above 194 = .ok (.ireturn, 1) := by decide +kernel
theorem dX7_most_0 : decode cX7_most 0 = .ok (.aload_n 0, 1) := by decide +kernel
theorem dX7_most_1 : decode cX7_most 1 = .ok (.invokevirtual 128, 3) := by decide +kernel
theorem dX7_most_4 : decode cX7_most 4 = .ok (.iload_n 1, 1) := by decide +kernel
theorem dX7_most_5 : decode cX7_most 5 = .ok (.i2l, 1) := by decide +kernel
theorem dX7_most_6 : decode cX7_most 6 = .ok (.lconst 0, 1) := by decide +kernel
theorem dX7_most_7 : decode cX7_most 7 = .ok (.lconst 1, 1) := by decide +kernel
theorem dX7_most_8 : decode cX7_most 8 = .ok (.invokestatic 54, 3) := by decide +kernel
theorem dX7_most_11 : decode cX7_most 11 = .ok (.ifCond .ne 5, 3) := by decide +kernel
theorem dX7_most_14 : decode cX7_most 14 = .ok (.iconst (-1), 1) := by decide +kernel
theorem dX7_most_15 : decode cX7_most 15 = .ok (.ireturn, 1) := by decide +kernel
theorem dX7_most_16 : decode cX7_most 16 = .ok (.bipush (-4), 2) := by decide +kernel
theorem dX7_most_18 : decode cX7_most 18 = .ok (.istore_n 2, 1) := by decide +kernel
theorem dX7_most_19 : decode cX7_most 19 = .ok (.iconst 0, 1) := by decide +kernel
theorem dX7_most_20 : decode cX7_most 20 = .ok (.istore_n 3, 1) := by decide +kernel
theorem dX7_most_21 : decode cX7_most 21 = .ok (.iconst 0, 1) := by decide +kernel
theorem dX7_most_22 : decode cX7_most 22 = .ok (.istore 4, 2) := by decide +kernel
theorem dX7_most_24 : decode cX7_most 24 = .ok (.iload 4, 2) := by decide +kernel
theorem dX7_most_26 : decode cX7_most 26 = .ok (.aload_n 0, 1) := by decide +kernel
theorem dX7_most_27 : decode cX7_most 27 = .ok (.invokevirtual 141, 3) := by decide +kernel
theorem dX7_most_30 : decode cX7_most 30 = .ok (.if_icmp .ge 80, 3) := by decide +kernel
theorem dX7_most_33 : decode cX7_most 33 = .ok (.aload_n 0, 1) := by decide +kernel
theorem dX7_most_34 : decode cX7_most 34 = .ok (.iload 4, 2) := by decide +kernel
theorem dX7_most_36 : decode cX7_most 36 = .ok (.invokevirtual 168, 3) := by decide +kernel
theorem dX7_most_39 : decode cX7_most 39 = .ok (.ifCond .eq 65, 3) := by decide +kernel
theorem dX7_most_42 : decode cX7_most 42 = .ok (.iload_n 2, 1) := by decide +kernel
theorem dX7_most_43 : decode cX7_most 43 = .ok (.bipush (-4), 2) := by decide +kernel
theorem dX7_most_45 : decode cX7_most 45 = .ok (.if_icmp .eq 26, 3) := by decide +kernel
theorem dX7_most_48 : decode cX7_most 48 = .ok (.iload_n 1, 1) := by decide +kernel
theorem dX7_most_49 : decode cX7_most 49 = .ok (.ifCond .ne 14, 3) := by decide +kernel
theorem dX7_most_52 : decode cX7_most 52 = .ok (.aload_n 0, 1) := by decide +kernel
theorem dX7_most_53 : decode cX7_most 53 = .ok (.getfield 163, 3) := by decide +kernel
theorem dX7_most_56 : decode cX7_most 56 = .ok (.iload_n 3, 1) := by decide +kernel
theorem dX7_most_57 : decode cX7_most 57 = .ok (.if_icmp .ge 18, 3) := by decide +kernel
theorem dX7_most_60 : decode cX7_most 60 = .ok (.goto 11, 3) := by decide +kernel
theorem dX7_most_63 : decode cX7_most 63 = .ok (.aload_n 0, 1) := by decide +kernel
theorem dX7_most_64 : decode cX7_most 64 = .ok (.getfield 163, 3) := by decide +kernel
theorem dX7_most_67 : decode cX7_most 67 = .ok (.iload_n 3, 1) := by decide +kernel
theorem dX7_most_68 : decode cX7_most 68 = .ok (.if_icmp .le 7, 3) := by decide +kernel
theorem dX7_most_71 : decode cX7_most 71 = .ok (.iconst 1, 1) := by decide +kernel
theorem dX7_most_72 : decode cX7_most 72 = .ok (.goto 4, 3) := by decide +kernel
theorem dX7_most_75 : decode cX7_most 75 = .ok (.iconst 0, 1) := by decide +kernel
theorem dX7_most_76 : decode cX7_most 76 = .ok (.istore 5, 2) := by decide +kernel
theorem dX7_most_78 : decode cX7_most 78 = .ok (.iload 5, 2) := by decide +kernel
theorem dX7_most_80 : decode cX7_most 80 = .ok (.ifCond .eq 8, 3) := by decide +kernel
theorem dX7_most_83 : decode cX7_most 83 = .ok (.iload 4, 2) := by decide +kernel
theorem dX7_most_85 : decode cX7_most 85 = .ok (.goto 4, 3) := by decide +kernel
theorem dX7_most_88 : decode cX7_most 88 = .ok (.iload_n 2, 1) := by decide +kernel
theorem dX7_most_89 : decode cX7_most 89 = .ok (.istore_n 2, 1) := by decide +kernel
theorem dX7_most_90 : decode cX7_most 90 = .ok (.iload 5, 2) := by decide +kernel
theorem dX7_most_92 : decode cX7_most 92 = .ok (.ifCond .eq 10, 3) := by decide +kernel
theorem dX7_most_95 : decode cX7_most 95 = .ok (.aload_n 0, 1) := by decide +kernel
theorem dX7_most_96 : decode cX7_most 96 = .ok (.getfield 163, 3) := by decide +kernel
theorem dX7_most_99 : decode cX7_most 99 = .ok (.goto 4, 3) := by decide +kernel
theorem dX7_most_102 : decode cX7_most 102 = .ok (.iload_n 3, 1) := by decide +kernel
theorem dX7_most_103 : decode cX7_most 103 = .ok (.istore_n 3, 1) := by decide +kernel
theorem dX7_most_104 : decode cX7_most 104 = .ok (.iinc 4 1, 3) := by decide +kernel
theorem dX7_most_107 : decode cX7_most 107 = .ok (.goto (-83), 3) := by decide +kernel
theorem dX7_most_110 : decode cX7_most 110 = .ok (.iload_n 2, 1) := by decide +kernel
theorem dX7_most_111 : decode cX7_most 111 = .ok (.ireturn, 1) := by decide +kernel
theorem dX7_comes_0 : decode cX7_comes 0 = .ok (.aload_n 0, 1) := by decide +kernel
theorem dX7_comes_1 : decode cX7_comes 1 = .ok (.invokevirtual 141, 3) := by decide +kernel
theorem dX7_comes_4 : decode cX7_comes 4 = .ok (.bipush 96, 2) := by decide +kernel
theorem dX7_comes_6 : decode cX7_comes 6 = .ok (.if_icmp .ne 6, 3) := by decide +kernel
theorem dX7_comes_9 : decode cX7_comes 9 = .ok (.bipush (-3), 2) := by decide +kernel
theorem dX7_comes_11 : decode cX7_comes 11 = .ok (.ireturn, 1) := by decide +kernel
theorem dX7_comes_12 : decode cX7_comes 12 = .ok (.aload_n 0, 1) := by decide +kernel
theorem dX7_comes_13 : decode cX7_comes 13 = .ok (.getfield 7, 3) := by decide +kernel
theorem dX7_comes_16 : decode cX7_comes 16 = .ok (.aload_n 0, 1) := by decide +kernel
theorem dX7_comes_17 : decode cX7_comes 17 = .ok (.invokevirtual 141, 3) := by decide +kernel
theorem dX7_comes_20 : decode cX7_comes 20 = .ok (.iload_n 1, 1) := by decide +kernel
theorem dX7_comes_21 : decode cX7_comes 21 = .ok (.iastore, 1) := by decide +kernel
theorem dX7_comes_22 : decode cX7_comes 22 = .ok (.aload_n 0, 1) := by decide +kernel
theorem dX7_comes_23 : decode cX7_comes 23 = .ok (.getfield 7, 3) := by decide +kernel
theorem dX7_comes_26 : decode cX7_comes 26 = .ok (.bipush 102, 2) := by decide +kernel
theorem dX7_comes_28 : decode cX7_comes 28 = .ok (.dup2, 1) := by decide +kernel
theorem dX7_comes_29 : decode cX7_comes 29 = .ok (.iaload, 1) := by decide +kernel
theorem dX7_comes_30 : decode cX7_comes 30 = .ok (.iconst 1, 1) := by decide +kernel
theorem dX7_comes_31 : decode cX7_comes 31 = .ok (.iadd, 1) := by decide +kernel
theorem dX7_comes_32 : decode cX7_comes 32 = .ok (.iastore, 1) := by decide +kernel
theorem dX7_comes_33 : decode cX7_comes 33 = .ok (.aload_n 0, 1) := by decide +kernel
theorem dX7_comes_34 : decode cX7_comes 34 = .ok (.invokevirtual 141, 3) := by decide +kernel
theorem dX7_comes_37 : decode cX7_comes 37 = .ok (.ireturn, 1) := by decide +kernel
theorem dX7_isReading_0 : decode cX7_isReading 0 = .ok (.iload_n 0, 1) := by decide +kernel
theorem dX7_isReading_1 : decode cX7_isReading 1 = .ok (.i2l, 1) := by decide +kernel
theorem dX7_isReading_2 : decode cX7_isReading 2 = .ok (.ldc2_w 212, 3) := by decide +kernel
theorem dX7_isReading_5 : decode cX7_isReading 5 = .ok (.ldc2_w 214, 3) := by decide +kernel
theorem dX7_isReading_8 : decode cX7_isReading 8 = .ok (.invokestatic 54, 3) := by decide +kernel
theorem dX7_isReading_11 : decode cX7_isReading 11 = .ok (.ireturn, 1) := by decide +kernel
theorem dX7_add_0 : decode cX7_add 0 = .ok (.aload_n 0, 1) := by decide +kernel
theorem dX7_add_1 : decode cX7_add 1 = .ok (.invokevirtual 128, 3) := by decide +kernel
theorem dX7_add_4 : decode cX7_add 4 = .ok (.iload_n 1, 1) := by decide +kernel
theorem dX7_add_5 : decode cX7_add 5 = .ok (.invokestatic 216, 3) := by decide +kernel
theorem dX7_add_8 : decode cX7_add 8 = .ok (.ifCond .eq 11, 3) := by decide +kernel
theorem dX7_add_11 : decode cX7_add 11 = .ok (.aload_n 0, 1) := by decide +kernel
theorem dX7_add_12 : decode cX7_add 12 = .ok (.iload_n 1, 1) := by decide +kernel
theorem dX7_add_13 : decode cX7_add 13 = .ok (.invokevirtual 219, 3) := by decide +kernel
theorem dX7_add_16 : decode cX7_add 16 = .ok (.goto 4, 3) := by decide +kernel
theorem dX7_add_19 : decode cX7_add 19 = .ok (.iconst (-1), 1) := by decide +kernel
theorem dX7_add_20 : decode cX7_add 20 = .ok (.ireturn, 1) := by decide +kernel
theorem dX7_miss_0 : decode cX7_miss 0 = .ok (.aload_n 0, 1) := by decide +kernel
theorem dX7_miss_1 : decode cX7_miss 1 = .ok (.invokevirtual 128, 3) := by decide +kernel
theorem dX7_miss_4 : decode cX7_miss 4 = .ok (.aload_n 0, 1) := by decide +kernel
theorem dX7_miss_5 : decode cX7_miss 5 = .ok (.ldc 106, 2) := by decide +kernel
theorem dX7_miss_7 : decode cX7_miss 7 = .ok (.invokevirtual 219, 3) := by decide +kernel
theorem dX7_miss_10 : decode cX7_miss 10 = .ok (.ireturn, 1) := by decide +kernel
theorem dX7_set_0 : decode cX7_set 0 = .ok (.aload_n 0, 1) := by decide +kernel
theorem dX7_set_1 : decode cX7_set 1 = .ok (.iload_n 1, 1) := by decide +kernel
theorem dX7_set_2 : decode cX7_set 2 = .ok (.invokevirtual 180, 3) := by decide +kernel
theorem dX7_set_5 : decode cX7_set 5 = .ok (.ifCond .eq 10, 3) := by decide +kernel
theorem dX7_set_8 : decode cX7_set 8 = .ok (.iload_n 2, 1) := by decide +kernel
theorem dX7_set_9 : decode cX7_set 9 = .ok (.invokestatic 216, 3) := by decide +kernel
theorem dX7_set_12 : decode cX7_set 12 = .ok (.ifCond .ne 5, 3) := by decide +kernel
theorem dX7_set_15 : decode cX7_set 15 = .ok (.iconst (-1), 1) := by decide +kernel
theorem dX7_set_16 : decode cX7_set 16 = .ok (.ireturn, 1) := by decide +kernel
theorem dX7_set_17 : decode cX7_set 17 = .ok (.aload_n 0, 1) := by decide +kernel
theorem dX7_set_18 : decode cX7_set 18 = .ok (.getfield 7, 3) := by decide +kernel
theorem dX7_set_21 : decode cX7_set 21 = .ok (.iload_n 1, 1) := by decide +kernel
theorem dX7_set_22 : decode cX7_set 22 = .ok (.iaload, 1) := by decide +kernel
theorem dX7_set_23 : decode cX7_set 23 = .ok (.ldc 106, 2) := by decide +kernel
theorem dX7_set_25 : decode cX7_set 25 = .ok (.if_icmp .ne 7, 3) := by decide +kernel
theorem dX7_set_28 : decode cX7_set 28 = .ok (.iconst 1, 1) := by decide +kernel
theorem dX7_set_29 : decode cX7_set 29 = .ok (.goto 4, 3) := by decide +kernel
theorem dX7_set_32 : decode cX7_set 32 = .ok (.iconst 0, 1) := by decide +kernel
theorem dX7_set_33 : decode cX7_set 33 = .ok (.istore_n 3, 1) := by decide +kernel
theorem dX7_set_34 : decode cX7_set 34 = .ok (.aload_n 0, 1) := by decide +kernel
theorem dX7_set_35 : decode cX7_set 35 = .ok (.getfield 7, 3) := by decide +kernel
theorem dX7_set_38 : decode cX7_set 38 = .ok (.iload_n 1, 1) := by decide +kernel
theorem dX7_set_39 : decode cX7_set 39 = .ok (.iload_n 2, 1) := by decide +kernel
theorem dX7_set_40 : decode cX7_set 40 = .ok (.iastore, 1) := by decide +kernel
theorem dX7_set_41 : decode cX7_set 41 = .ok (.iload_n 3, 1) := by decide +kernel
theorem dX7_set_42 : decode cX7_set 42 = .ok (.ireturn, 1) := by decide +kernel
theorem dX7_lose_0 : decode cX7_lose 0 = .ok (.aload_n 0, 1) := by decide +kernel
theorem dX7_lose_1 : decode cX7_lose 1 = .ok (.iload_n 1, 1) := by decide +kernel
theorem dX7_lose_2 : decode cX7_lose 2 = .ok (.invokevirtual 180, 3) := by decide +kernel
theorem dX7_lose_5 : decode cX7_lose 5 = .ok (.ifCond .ne 5, 3) := by decide +kernel
theorem dX7_lose_8 : decode cX7_lose 8 = .ok (.iconst (-1), 1) := by decide +kernel
theorem dX7_lose_9 : decode cX7_lose 9 = .ok (.ireturn, 1) := by decide +kernel
theorem dX7_lose_10 : decode cX7_lose 10 = .ok (.aload_n 0, 1) := by decide +kernel
theorem dX7_lose_11 : decode cX7_lose 11 = .ok (.getfield 7, 3) := by decide +kernel
theorem dX7_lose_14 : decode cX7_lose 14 = .ok (.iload_n 1, 1) := by decide +kernel
theorem dX7_lose_15 : decode cX7_lose 15 = .ok (.iaload, 1) := by decide +kernel
theorem dX7_lose_16 : decode cX7_lose 16 = .ok (.ldc 106, 2) := by decide +kernel
theorem dX7_lose_18 : decode cX7_lose 18 = .ok (.if_icmp .ne 7, 3) := by decide +kernel
theorem dX7_lose_21 : decode cX7_lose 21 = .ok (.iconst 1, 1) := by decide +kernel
theorem dX7_lose_22 : decode cX7_lose 22 = .ok (.goto 4, 3) := by decide +kernel
theorem dX7_lose_25 : decode cX7_lose 25 = .ok (.iconst 0, 1) := by decide +kernel
theorem dX7_lose_26 : decode cX7_lose 26 = .ok (.istore_n 2, 1) := by decide +kernel
theorem dX7_lose_27 : decode cX7_lose 27 = .ok (.aload_n 0, 1) := by decide +kernel
theorem dX7_lose_28 : decode cX7_lose 28 = .ok (.getfield 7, 3) := by decide +kernel
theorem dX7_lose_31 : decode cX7_lose 31 = .ok (.iload_n 1, 1) := by decide +kernel
theorem dX7_lose_32 : decode cX7_lose 32 = .ok (.ldc 106, 2) := by decide +kernel
theorem dX7_lose_34 : decode cX7_lose 34 = .ok (.iastore, 1) := by decide +kernel
theorem dX7_lose_35 : decode cX7_lose 35 = .ok (.iload_n 2, 1) := by decide +kernel
theorem dX7_lose_36 : decode cX7_lose 36 = .ok (.ireturn, 1) := by decide +kernel
theorem dX7_drop_0 : decode cX7_drop 0 = .ok (.aload_n 0, 1) := by decide +kernel
theorem dX7_drop_1 : decode cX7_drop 1 = .ok (.invokevirtual 128, 3) := by decide +kernel
theorem dX7_drop_4 : decode cX7_drop 4 = .ok (.iload_n 1, 1) := by decide +kernel
theorem dX7_drop_5 : decode cX7_drop 5 = .ok (.i2l, 1) := by decide +kernel
theorem dX7_drop_6 : decode cX7_drop 6 = .ok (.lconst 0, 1) := by decide +kernel
theorem dX7_drop_7 : decode cX7_drop 7 = .ok (.aload_n 0, 1) := by decide +kernel
theorem dX7_drop_8 : decode cX7_drop 8 = .ok (.invokevirtual 141, 3) := by decide +kernel
theorem dX7_drop_11 : decode cX7_drop 11 = .ok (.i2l, 1) := by decide +kernel
theorem dX7_drop_12 : decode cX7_drop 12 = .ok (.invokestatic 54, 3) := by decide +kernel
theorem dX7_drop_15 : decode cX7_drop 15 = .ok (.ifCond .ne 5, 3) := by decide +kernel
theorem dX7_drop_18 : decode cX7_drop 18 = .ok (.iconst (-1), 1) := by decide +kernel
theorem dX7_drop_19 : decode cX7_drop 19 = .ok (.ireturn, 1) := by decide +kernel
theorem dX7_drop_20 : decode cX7_drop 20 = .ok (.aload_n 0, 1) := by decide +kernel
theorem dX7_drop_21 : decode cX7_drop 21 = .ok (.getfield 7, 3) := by decide +kernel
theorem dX7_drop_24 : decode cX7_drop 24 = .ok (.bipush 102, 2) := by decide +kernel
theorem dX7_drop_26 : decode cX7_drop 26 = .ok (.dup2, 1) := by decide +kernel
theorem dX7_drop_27 : decode cX7_drop 27 = .ok (.iaload, 1) := by decide +kernel
theorem dX7_drop_28 : decode cX7_drop 28 = .ok (.iload_n 1, 1) := by decide +kernel
theorem dX7_drop_29 : decode cX7_drop 29 = .ok (.isub, 1) := by decide +kernel
theorem dX7_drop_30 : decode cX7_drop 30 = .ok (.iastore, 1) := by decide +kernel
theorem dX7_drop_31 : decode cX7_drop 31 = .ok (.iconst 0, 1) := by decide +kernel
theorem dX7_drop_32 : decode cX7_drop 32 = .ok (.istore_n 2, 1) := by decide +kernel
theorem dX7_drop_33 : decode cX7_drop 33 = .ok (.iload_n 2, 1) := by decide +kernel
theorem dX7_drop_34 : decode cX7_drop 34 = .ok (.aload_n 0, 1) := by decide +kernel
theorem dX7_drop_35 : decode cX7_drop 35 = .ok (.invokevirtual 141, 3) := by decide +kernel
theorem dX7_drop_38 : decode cX7_drop 38 = .ok (.if_icmp .ge 23, 3) := by decide +kernel
theorem dX7_drop_41 : decode cX7_drop 41 = .ok (.aload_n 0, 1) := by decide +kernel
theorem dX7_drop_42 : decode cX7_drop 42 = .ok (.getfield 7, 3) := by decide +kernel
theorem dX7_drop_45 : decode cX7_drop 45 = .ok (.iload_n 2, 1) := by decide +kernel
theorem dX7_drop_46 : decode cX7_drop 46 = .ok (.aload_n 0, 1) := by decide +kernel
theorem dX7_drop_47 : decode cX7_drop 47 = .ok (.getfield 7, 3) := by decide +kernel
theorem dX7_drop_50 : decode cX7_drop 50 = .ok (.iload_n 2, 1) := by decide +kernel
theorem dX7_drop_51 : decode cX7_drop 51 = .ok (.iload_n 1, 1) := by decide +kernel
theorem dX7_drop_52 : decode cX7_drop 52 = .ok (.iadd, 1) := by decide +kernel
theorem dX7_drop_53 : decode cX7_drop 53 = .ok (.iaload, 1) := by decide +kernel
theorem dX7_drop_54 : decode cX7_drop 54 = .ok (.iastore, 1) := by decide +kernel
theorem dX7_drop_55 : decode cX7_drop 55 = .ok (.iinc 2 1, 3) := by decide +kernel
theorem dX7_drop_58 : decode cX7_drop 58 = .ok (.goto (-25), 3) := by decide +kernel
theorem dX7_drop_61 : decode cX7_drop 61 = .ok (.aload_n 0, 1) := by decide +kernel
theorem dX7_drop_62 : decode cX7_drop 62 = .ok (.invokevirtual 141, 3) := by decide +kernel
theorem dX7_drop_65 : decode cX7_drop 65 = .ok (.ireturn, 1) := by decide +kernel
theorem dX7_becomes_0 : decode cX7_becomes 0 = .ok (.aload_n 0, 1) := by decide +kernel
theorem dX7_becomes_1 : decode cX7_becomes 1 = .ok (.invokevirtual 128, 3) := by decide +kernel
theorem dX7_becomes_4 : decode cX7_becomes 4 = .ok (.iload_n 1, 1) := by decide +kernel
theorem dX7_becomes_5 : decode cX7_becomes 5 = .ok (.ifCond .ne 5, 3) := by decide +kernel
theorem dX7_becomes_8 : decode cX7_becomes 8 = .ok (.iconst (-1), 1) := by decide +kernel
theorem dX7_becomes_9 : decode cX7_becomes 9 = .ok (.ireturn, 1) := by decide +kernel
theorem dX7_becomes_10 : decode cX7_becomes 10 = .ok (.aload_n 0, 1) := by decide +kernel
theorem dX7_becomes_11 : decode cX7_becomes 11 = .ok (.getfield 7, 3) := by decide +kernel
theorem dX7_becomes_14 : decode cX7_becomes 14 = .ok (.iload_n 2, 1) := by decide +kernel
theorem dX7_becomes_15 : decode cX7_becomes 15 = .ok (.iaload, 1) := by decide +kernel
theorem dX7_becomes_16 : decode cX7_becomes 16 = .ok (.istore 4, 2) := by decide +kernel
theorem dX7_becomes_18 : decode cX7_becomes 18 = .ok (.aload_n 0, 1) := by decide +kernel
theorem dX7_becomes_19 : decode cX7_becomes 19 = .ok (.getfield 7, 3) := by decide +kernel
theorem dX7_becomes_22 : decode cX7_becomes 22 = .ok (.iload_n 2, 1) := by decide +kernel
theorem dX7_becomes_23 : decode cX7_becomes 23 = .ok (.iload_n 3, 1) := by decide +kernel
theorem dX7_becomes_24 : decode cX7_becomes 24 = .ok (.iastore, 1) := by decide +kernel
theorem dX7_becomes_25 : decode cX7_becomes 25 = .ok (.iload 4, 2) := by decide +kernel
theorem dX7_becomes_27 : decode cX7_becomes 27 = .ok (.ireturn, 1) := by decide +kernel
theorem dX7_width_0 : decode cX7_width 0 = .ok (.aload_n 0, 1) := by decide +kernel
theorem dX7_width_1 : decode cX7_width 1 = .ok (.iload_n 1, 1) := by decide +kernel
theorem dX7_width_2 : decode cX7_width 2 = .ok (.i2l, 1) := by decide +kernel
theorem dX7_width_3 : decode cX7_width 3 = .ok (.lconst 1, 1) := by decide +kernel
theorem dX7_width_4 : decode cX7_width 4 = .ok (.ldc2_w 222, 3) := by decide +kernel
theorem dX7_width_7 : decode cX7_width 7 = .ok (.invokestatic 54, 3) := by decide +kernel
theorem dX7_width_10 : decode cX7_width 10 = .ok (.bipush 96, 2) := by decide +kernel
theorem dX7_width_12 : decode cX7_width 12 = .ok (.iload_n 1, 1) := by decide +kernel
theorem dX7_width_13 : decode cX7_width 13 = .ok (.invokevirtual 224, 3) := by decide +kernel
theorem dX7_width_16 : decode cX7_width 16 = .ok (.ireturn, 1) := by decide +kernel
theorem dX7_need_0 : decode cX7_need 0 = .ok (.aload_n 0, 1) := by decide +kernel
theorem dX7_need_1 : decode cX7_need 1 = .ok (.iload_n 1, 1) := by decide +kernel
theorem dX7_need_2 : decode cX7_need 2 = .ok (.i2l, 1) := by decide +kernel
theorem dX7_need_3 : decode cX7_need 3 = .ok (.lconst 1, 1) := by decide +kernel
theorem dX7_need_4 : decode cX7_need 4 = .ok (.ldc2_w 222, 3) := by decide +kernel
theorem dX7_need_7 : decode cX7_need 7 = .ok (.invokestatic 54, 3) := by decide +kernel
theorem dX7_need_10 : decode cX7_need 10 = .ok (.bipush 97, 2) := by decide +kernel
theorem dX7_need_12 : decode cX7_need 12 = .ok (.iload_n 1, 1) := by decide +kernel
theorem dX7_need_13 : decode cX7_need 13 = .ok (.invokevirtual 224, 3) := by decide +kernel
theorem dX7_need_16 : decode cX7_need 16 = .ok (.ireturn, 1) := by decide +kernel
theorem dX7_part_0 : decode cX7_part 0 = .ok (.iload_n 2, 1) := by decide +kernel
theorem dX7_part_1 : decode cX7_part 1 = .ok (.i2l, 1) := by decide +kernel
theorem dX7_part_2 : decode cX7_part 2 = .ok (.lconst 1, 1) := by decide +kernel
theorem dX7_part_3 : decode cX7_part 3 = .ok (.ldc2_w 228, 3) := by decide +kernel
theorem dX7_part_6 : decode cX7_part 6 = .ok (.invokestatic 54, 3) := by decide +kernel
theorem dX7_part_9 : decode cX7_part 9 = .ok (.ifCond .eq 14, 3) := by decide +kernel
theorem dX7_part_12 : decode cX7_part 12 = .ok (.iload_n 1, 1) := by decide +kernel
theorem dX7_part_13 : decode cX7_part 13 = .ok (.i2l, 1) := by decide +kernel
theorem dX7_part_14 : decode cX7_part 14 = .ok (.lconst 0, 1) := by decide +kernel
theorem dX7_part_15 : decode cX7_part 15 = .ok (.iload_n 2, 1) := by decide +kernel
theorem dX7_part_16 : decode cX7_part 16 = .ok (.i2l, 1) := by decide +kernel
theorem dX7_part_17 : decode cX7_part 17 = .ok (.invokestatic 54, 3) := by decide +kernel
theorem dX7_part_20 : decode cX7_part 20 = .ok (.ifCond .ne 5, 3) := by decide +kernel
theorem dX7_part_23 : decode cX7_part 23 = .ok (.iconst (-1), 1) := by decide +kernel
theorem dX7_part_24 : decode cX7_part 24 = .ok (.ireturn, 1) := by decide +kernel
theorem dX7_part_25 : decode cX7_part 25 = .ok (.aload_n 0, 1) := by decide +kernel
theorem dX7_part_26 : decode cX7_part 26 = .ok (.iconst 1, 1) := by decide +kernel
theorem dX7_part_27 : decode cX7_part 27 = .ok (.bipush 98, 2) := by decide +kernel
theorem dX7_part_29 : decode cX7_part 29 = .ok (.iload_n 1, 1) := by decide +kernel
theorem dX7_part_30 : decode cX7_part 30 = .ok (.invokevirtual 224, 3) := by decide +kernel
theorem dX7_part_33 : decode cX7_part 33 = .ok (.istore_n 3, 1) := by decide +kernel
theorem dX7_part_34 : decode cX7_part 34 = .ok (.sipush 1000, 3) := by decide +kernel
theorem dX7_part_37 : decode cX7_part 37 = .ok (.iload_n 3, 1) := by decide +kernel
theorem dX7_part_38 : decode cX7_part 38 = .ok (.imul, 1) := by decide +kernel
theorem dX7_part_39 : decode cX7_part 39 = .ok (.aload_n 0, 1) := by decide +kernel
theorem dX7_part_40 : decode cX7_part 40 = .ok (.iconst 1, 1) := by decide +kernel
theorem dX7_part_41 : decode cX7_part 41 = .ok (.bipush 99, 2) := by decide +kernel
theorem dX7_part_43 : decode cX7_part 43 = .ok (.iload_n 2, 1) := by decide +kernel
theorem dX7_part_44 : decode cX7_part 44 = .ok (.invokevirtual 224, 3) := by decide +kernel
theorem dX7_part_47 : decode cX7_part 47 = .ok (.iadd, 1) := by decide +kernel
theorem dX7_part_48 : decode cX7_part 48 = .ok (.ireturn, 1) := by decide +kernel
theorem dX7_choose_0 : decode cX7_choose 0 = .ok (.aload_n 0, 1) := by decide +kernel
theorem dX7_choose_1 : decode cX7_choose 1 = .ok (.iload_n 1, 1) := by decide +kernel
theorem dX7_choose_2 : decode cX7_choose 2 = .ok (.i2l, 1) := by decide +kernel
theorem dX7_choose_3 : decode cX7_choose 3 = .ok (.lconst 0, 1) := by decide +kernel
theorem dX7_choose_4 : decode cX7_choose 4 = .ok (.ldc2_w 230, 3) := by decide +kernel
theorem dX7_choose_7 : decode cX7_choose 7 = .ok (.invokestatic 54, 3) := by decide +kernel
theorem dX7_choose_10 : decode cX7_choose 10 = .ok (.bipush 100, 2) := by decide +kernel
theorem dX7_choose_12 : decode cX7_choose 12 = .ok (.iload_n 1, 1) := by decide +kernel
theorem dX7_choose_13 : decode cX7_choose 13 = .ok (.invokevirtual 224, 3) := by decide +kernel
theorem dX7_choose_16 : decode cX7_choose 16 = .ok (.ireturn, 1) := by decide +kernel
theorem dX7_form_0 : decode cX7_form 0 = .ok (.aload_n 0, 1) := by decide +kernel
theorem dX7_form_1 : decode cX7_form 1 = .ok (.iload_n 1, 1) := by decide +kernel
theorem dX7_form_2 : decode cX7_form 2 = .ok (.i2l, 1) := by decide +kernel
theorem dX7_form_3 : decode cX7_form 3 = .ok (.lconst 0, 1) := by decide +kernel
theorem dX7_form_4 : decode cX7_form 4 = .ok (.ldc2_w 166, 3) := by decide +kernel
theorem dX7_form_7 : decode cX7_form 7 = .ok (.invokestatic 54, 3) := by decide +kernel
theorem dX7_form_10 : decode cX7_form 10 = .ok (.bipush 101, 2) := by decide +kernel
theorem dX7_form_12 : decode cX7_form 12 = .ok (.iload_n 1, 1) := by decide +kernel
theorem dX7_form_13 : decode cX7_form 13 = .ok (.invokevirtual 224, 3) := by decide +kernel
theorem dX7_form_16 : decode cX7_form 16 = .ok (.ireturn, 1) := by decide +kernel
theorem dX7_latest_0 : decode cX7_latest 0 = .ok (.aload_n 0, 1) := by decide +kernel
theorem dX7_latest_1 : decode cX7_latest 1 = .ok (.invokevirtual 141, 3) := by decide +kernel
theorem dX7_latest_4 : decode cX7_latest 4 = .ok (.iconst 1, 1) := by decide +kernel
theorem dX7_latest_5 : decode cX7_latest 5 = .ok (.isub, 1) := by decide +kernel
theorem dX7_latest_6 : decode cX7_latest 6 = .ok (.istore_n 1, 1) := by decide +kernel
theorem dX7_latest_7 : decode cX7_latest 7 = .ok (.iload_n 1, 1) := by decide +kernel
theorem dX7_latest_8 : decode cX7_latest 8 = .ok (.ifCond .lt 27, 3) := by decide +kernel
theorem dX7_latest_11 : decode cX7_latest 11 = .ok (.aload_n 0, 1) := by decide +kernel
theorem dX7_latest_12 : decode cX7_latest 12 = .ok (.getfield 7, 3) := by decide +kernel
theorem dX7_latest_15 : decode cX7_latest 15 = .ok (.iload_n 1, 1) := by decide +kernel
theorem dX7_latest_16 : decode cX7_latest 16 = .ok (.iaload, 1) := by decide +kernel
theorem dX7_latest_17 : decode cX7_latest 17 = .ok (.ldc 106, 2) := by decide +kernel
theorem dX7_latest_19 : decode cX7_latest 19 = .ok (.if_icmp .eq 10, 3) := by decide +kernel
theorem dX7_latest_22 : decode cX7_latest 22 = .ok (.aload_n 0, 1) := by decide +kernel
theorem dX7_latest_23 : decode cX7_latest 23 = .ok (.getfield 7, 3) := by decide +kernel
theorem dX7_latest_26 : decode cX7_latest 26 = .ok (.iload_n 1, 1) := by decide +kernel
theorem dX7_latest_27 : decode cX7_latest 27 = .ok (.iaload, 1) := by decide +kernel
theorem dX7_latest_28 : decode cX7_latest 28 = .ok (.ireturn, 1) := by decide +kernel
theorem dX7_latest_29 : decode cX7_latest 29 = .ok (.iinc 1 (-1), 3) := by decide +kernel
theorem dX7_latest_32 : decode cX7_latest 32 = .ok (.goto (-25), 3) := by decide +kernel
theorem dX7_latest_35 : decode cX7_latest 35 = .ok (.iconst 0, 1) := by decide +kernel
theorem dX7_latest_36 : decode cX7_latest 36 = .ok (.ireturn, 1) := by decide +kernel
theorem dX7_drift_0 : decode cX7_drift 0 = .ok (.aload_n 0, 1) := by decide +kernel
theorem dX7_drift_1 : decode cX7_drift 1 = .ok (.invokevirtual 128, 3) := by decide +kernel
theorem dX7_drift_4 : decode cX7_drift 4 = .ok (.iload_n 2, 1) := by decide +kernel
theorem dX7_drift_5 : decode cX7_drift 5 = .ok (.i2l, 1) := by decide +kernel
theorem dX7_drift_6 : decode cX7_drift 6 = .ok (.lconst 1, 1) := by decide +kernel
theorem dX7_drift_7 : decode cX7_drift 7 = .ok (.ldc2_w 88, 3) := by decide +kernel
theorem dX7_drift_10 : decode cX7_drift 10 = .ok (.invokestatic 54, 3) := by decide +kernel
theorem dX7_drift_13 : decode cX7_drift 13 = .ok (.ifCond .ne 5, 3) := by decide +kernel
theorem dX7_drift_16 : decode cX7_drift 16 = .ok (.iconst (-1), 1) := by decide +kernel
theorem dX7_drift_17 : decode cX7_drift 17 = .ok (.ireturn, 1) := by decide +kernel
theorem dX7_drift_18 : decode cX7_drift 18 = .ok (.iload_n 1, 1) := by decide +kernel
theorem dX7_drift_19 : decode cX7_drift 19 = .ok (.istore_n 3, 1) := by decide +kernel
theorem dX7_drift_20 : decode cX7_drift 20 = .ok (.iconst 0, 1) := by decide +kernel
theorem dX7_drift_21 : decode cX7_drift 21 = .ok (.istore 4, 2) := by decide +kernel
theorem dX7_drift_23 : decode cX7_drift 23 = .ok (.iload 4, 2) := by decide +kernel
theorem dX7_drift_25 : decode cX7_drift 25 = .ok (.iload_n 2, 1) := by decide +kernel
theorem dX7_drift_26 : decode cX7_drift 26 = .ok (.if_icmp .ge 105, 3) := by decide +kernel
theorem dX7_drift_29 : decode cX7_drift 29 = .ok (.aload_n 0, 1) := by decide +kernel
theorem dX7_drift_30 : decode cX7_drift 30 = .ok (.invokevirtual 141, 3) := by decide +kernel
theorem dX7_drift_33 : decode cX7_drift 33 = .ok (.bipush 96, 2) := by decide +kernel
theorem dX7_drift_35 : decode cX7_drift 35 = .ok (.if_icmp .ge 96, 3) := by decide +kernel
theorem dX7_drift_38 : decode cX7_drift 38 = .ok (.iload_n 3, 1) := by decide +kernel
theorem dX7_drift_39 : decode cX7_drift 39 = .ok (.ldc 232, 2) := by decide +kernel
theorem dX7_drift_41 : decode cX7_drift 41 = .ok (.imul, 1) := by decide +kernel
theorem dX7_drift_42 : decode cX7_drift 42 = .ok (.sipush 12345, 3) := by decide +kernel
theorem dX7_drift_45 : decode cX7_drift 45 = .ok (.iadd, 1) := by decide +kernel
theorem dX7_drift_46 : decode cX7_drift 46 = .ok (.istore_n 3, 1) := by decide +kernel
theorem dX7_drift_47 : decode cX7_drift 47 = .ok (.iload_n 3, 1) := by decide +kernel
theorem dX7_drift_48 : decode cX7_drift 48 = .ok (.bipush 16, 2) := by decide +kernel
theorem dX7_drift_50 : decode cX7_drift 50 = .ok (.ishr, 1) := by decide +kernel
theorem dX7_drift_51 : decode cX7_drift 51 = .ok (.sipush 32767, 3) := by decide +kernel
theorem dX7_drift_54 : decode cX7_drift 54 = .ok (.iand, 1) := by decide +kernel
theorem dX7_drift_55 : decode cX7_drift 55 = .ok (.istore 5, 2) := by decide +kernel
theorem dX7_drift_57 : decode cX7_drift 57 = .ok (.aload_n 0, 1) := by decide +kernel
theorem dX7_drift_58 : decode cX7_drift 58 = .ok (.invokevirtual 233, 3) := by decide +kernel
theorem dX7_drift_61 : decode cX7_drift 61 = .ok (.iload 5, 2) := by decide +kernel
theorem dX7_drift_63 : decode cX7_drift 63 = .ok (.bipush 16, 2) := by decide +kernel
theorem dX7_drift_65 : decode cX7_drift 65 = .ok (.idiv, 1) := by decide +kernel
theorem dX7_drift_66 : decode cX7_drift 66 = .ok (.sipush 401, 3) := by decide +kernel
theorem dX7_drift_69 : decode cX7_drift 69 = .ok (.irem, 1) := by decide +kernel
theorem dX7_drift_70 : decode cX7_drift 70 = .ok (.iadd, 1) := by decide +kernel
theorem dX7_drift_71 : decode cX7_drift 71 = .ok (.sipush 200, 3) := by decide +kernel
theorem dX7_drift_74 : decode cX7_drift 74 = .ok (.isub, 1) := by decide +kernel
theorem dX7_drift_75 : decode cX7_drift 75 = .ok (.istore 6, 2) := by decide +kernel
theorem dX7_drift_77 : decode cX7_drift 77 = .ok (.iload 6, 2) := by decide +kernel
theorem dX7_drift_79 : decode cX7_drift 79 = .ok (.ldc 236, 2) := by decide +kernel
theorem dX7_drift_81 : decode cX7_drift 81 = .ok (.if_icmp .ge 8, 3) := by decide +kernel
theorem dX7_drift_84 : decode cX7_drift 84 = .ok (.ldc 236, 2) := by decide +kernel
theorem dX7_drift_86 : decode cX7_drift 86 = .ok (.goto 17, 3) := by decide +kernel
theorem dX7_drift_89 : decode cX7_drift 89 = .ok (.iload 6, 2) := by decide +kernel
theorem dX7_drift_91 : decode cX7_drift 91 = .ok (.ldc 237, 2) := by decide +kernel
theorem dX7_drift_93 : decode cX7_drift 93 = .ok (.if_icmp .le 8, 3) := by decide +kernel
theorem dX7_drift_96 : decode cX7_drift 96 = .ok (.ldc 237, 2) := by decide +kernel
theorem dX7_drift_98 : decode cX7_drift 98 = .ok (.goto 5, 3) := by decide +kernel
theorem dX7_drift_101 : decode cX7_drift 101 = .ok (.iload 6, 2) := by decide +kernel
theorem dX7_drift_103 : decode cX7_drift 103 = .ok (.istore 6, 2) := by decide +kernel
theorem dX7_drift_105 : decode cX7_drift 105 = .ok (.aload_n 0, 1) := by decide +kernel
theorem dX7_drift_106 : decode cX7_drift 106 = .ok (.iload 5, 2) := by decide +kernel
theorem dX7_drift_108 : decode cX7_drift 108 = .ok (.bipush 9, 2) := by decide +kernel
theorem dX7_drift_110 : decode cX7_drift 110 = .ok (.irem, 1) := by decide +kernel
theorem dX7_drift_111 : decode cX7_drift 111 = .ok (.ifCond .ne 8, 3) := by decide +kernel
theorem dX7_drift_114 : decode cX7_drift 114 = .ok (.ldc 106, 2) := by decide +kernel
theorem dX7_drift_116 : decode cX7_drift 116 = .ok (.goto 5, 3) := by decide +kernel
theorem dX7_drift_119 : decode cX7_drift 119 = .ok (.iload 6, 2) := by decide +kernel
theorem dX7_drift_121 : decode cX7_drift 121 = .ok (.invokevirtual 219, 3) := by decide +kernel
theorem dX7_drift_124 : decode cX7_drift 124 = .ok (.pop, 1) := by decide +kernel
theorem dX7_drift_125 : decode cX7_drift 125 = .ok (.iinc 4 1, 3) := by decide +kernel
theorem dX7_drift_128 : decode cX7_drift 128 = .ok (.goto (-105), 3) := by decide +kernel
theorem dX7_drift_131 : decode cX7_drift 131 = .ok (.iload 4, 2) := by decide +kernel
theorem dX7_drift_133 : decode cX7_drift 133 = .ok (.ireturn, 1) := by decide +kernel
theorem dX7_keep_0 : decode cX7_keep 0 = .ok (.iload_n 1, 1) := by decide +kernel
theorem dX7_keep_1 : decode cX7_keep 1 = .ok (.i2l, 1) := by decide +kernel
theorem dX7_keep_2 : decode cX7_keep 2 = .ok (.lconst 0, 1) := by decide +kernel
theorem dX7_keep_3 : decode cX7_keep 3 = .ok (.lconst 1, 1) := by decide +kernel
theorem dX7_keep_4 : decode cX7_keep 4 = .ok (.invokestatic 54, 3) := by decide +kernel
theorem dX7_keep_7 : decode cX7_keep 7 = .ok (.ifCond .ne 5, 3) := by decide +kernel
theorem dX7_keep_10 : decode cX7_keep 10 = .ok (.iconst (-1), 1) := by decide +kernel
theorem dX7_keep_11 : decode cX7_keep 11 = .ok (.ireturn, 1) := by decide +kernel
theorem dX7_keep_12 : decode cX7_keep 12 = .ok (.aload_n 0, 1) := by decide +kernel
theorem dX7_keep_13 : decode cX7_keep 13 = .ok (.invokevirtual 128, 3) := by decide +kernel
theorem dX7_keep_16 : decode cX7_keep 16 = .ok (.aload_n 0, 1) := by decide +kernel
theorem dX7_keep_17 : decode cX7_keep 17 = .ok (.getfield 31, 3) := by decide +kernel
theorem dX7_keep_20 : decode cX7_keep 20 = .ok (.iload_n 1, 1) := by decide +kernel
theorem dX7_keep_21 : decode cX7_keep 21 = .ok (.baload, 1) := by decide +kernel
theorem dX7_keep_22 : decode cX7_keep 22 = .ok (.ifCond .eq 7, 3) := by decide +kernel
theorem dX7_keep_25 : decode cX7_keep 25 = .ok (.iconst 1, 1) := by decide +kernel
theorem dX7_keep_26 : decode cX7_keep 26 = .ok (.goto 4, 3) := by decide +kernel
theorem dX7_keep_29 : decode cX7_keep 29 = .ok (.iconst 0, 1) := by decide +kernel
theorem dX7_keep_30 : decode cX7_keep 30 = .ok (.istore_n 2, 1) := by decide +kernel
theorem dX7_keep_31 : decode cX7_keep 31 = .ok (.aload_n 0, 1) := by decide +kernel
theorem dX7_keep_32 : decode cX7_keep 32 = .ok (.iconst 0, 1) := by decide +kernel
theorem dX7_keep_33 : decode cX7_keep 33 = .ok (.bipush 103, 2) := by decide +kernel
theorem dX7_keep_35 : decode cX7_keep 35 = .ok (.iload_n 1, 1) := by decide +kernel
theorem dX7_keep_36 : decode cX7_keep 36 = .ok (.imul, 1) := by decide +kernel
theorem dX7_keep_37 : decode cX7_keep 37 = .ok (.bipush 103, 2) := by decide +kernel
theorem dX7_keep_39 : decode cX7_keep 39 = .ok (.iadd, 1) := by decide +kernel
theorem dX7_keep_40 : decode cX7_keep 40 = .ok (.invokevirtual 137, 3) := by decide +kernel
theorem dX7_keep_43 : decode cX7_keep 43 = .ok (.aload_n 0, 1) := by decide +kernel
theorem dX7_keep_44 : decode cX7_keep 44 = .ok (.getfield 31, 3) := by decide +kernel
theorem dX7_keep_47 : decode cX7_keep 47 = .ok (.iload_n 1, 1) := by decide +kernel
theorem dX7_keep_48 : decode cX7_keep 48 = .ok (.iconst 1, 1) := by decide +kernel
theorem dX7_keep_49 : decode cX7_keep 49 = .ok (.bastore, 1) := by decide +kernel
theorem dX7_keep_50 : decode cX7_keep 50 = .ok (.iload_n 2, 1) := by decide +kernel
theorem dX7_keep_51 : decode cX7_keep 51 = .ok (.ireturn, 1) := by decide +kernel
theorem dX7_back_0 : decode cX7_back 0 = .ok (.iload_n 1, 1) := by decide +kernel
theorem dX7_back_1 : decode cX7_back 1 = .ok (.i2l, 1) := by decide +kernel
theorem dX7_back_2 : decode cX7_back 2 = .ok (.lconst 0, 1) := by decide +kernel
theorem dX7_back_3 : decode cX7_back 3 = .ok (.lconst 1, 1) := by decide +kernel
theorem dX7_back_4 : decode cX7_back 4 = .ok (.invokestatic 54, 3) := by decide +kernel
theorem dX7_back_7 : decode cX7_back 7 = .ok (.ifCond .ne 5, 3) := by decide +kernel
theorem dX7_back_10 : decode cX7_back 10 = .ok (.iconst (-1), 1) := by decide +kernel
theorem dX7_back_11 : decode cX7_back 11 = .ok (.ireturn, 1) := by decide +kernel
theorem dX7_back_12 : decode cX7_back 12 = .ok (.aload_n 0, 1) := by decide +kernel
theorem dX7_back_13 : decode cX7_back 13 = .ok (.getfield 31, 3) := by decide +kernel
theorem dX7_back_16 : decode cX7_back 16 = .ok (.iload_n 1, 1) := by decide +kernel
theorem dX7_back_17 : decode cX7_back 17 = .ok (.baload, 1) := by decide +kernel
theorem dX7_back_18 : decode cX7_back 18 = .ok (.ifCond .ne 6, 3) := by decide +kernel
theorem dX7_back_21 : decode cX7_back 21 = .ok (.bipush (-2), 2) := by decide +kernel
theorem dX7_back_23 : decode cX7_back 23 = .ok (.ireturn, 1) := by decide +kernel
theorem dX7_back_24 : decode cX7_back 24 = .ok (.aload_n 0, 1) := by decide +kernel
theorem dX7_back_25 : decode cX7_back 25 = .ok (.bipush 103, 2) := by decide +kernel
theorem dX7_back_27 : decode cX7_back 27 = .ok (.iload_n 1, 1) := by decide +kernel
theorem dX7_back_28 : decode cX7_back 28 = .ok (.imul, 1) := by decide +kernel
theorem dX7_back_29 : decode cX7_back 29 = .ok (.bipush 103, 2) := by decide +kernel
theorem dX7_back_31 : decode cX7_back 31 = .ok (.iadd, 1) := by decide +kernel
theorem dX7_back_32 : decode cX7_back 32 = .ok (.iconst 0, 1) := by decide +kernel
theorem dX7_back_33 : decode cX7_back 33 = .ok (.invokevirtual 137, 3) := by decide +kernel
theorem dX7_back_36 : decode cX7_back 36 = .ok (.aload_n 0, 1) := by decide +kernel
theorem dX7_back_37 : decode cX7_back 37 = .ok (.invokevirtual 141, 3) := by decide +kernel
theorem dX7_back_40 : decode cX7_back 40 = .ok (.ireturn, 1) := by decide +kernel
theorem dX7_sheet_0 : decode cX7_sheet 0 = .ok (.iload_n 1, 1) := by decide +kernel
theorem dX7_sheet_1 : decode cX7_sheet 1 = .ok (.i2l, 1) := by decide +kernel
theorem dX7_sheet_2 : decode cX7_sheet 2 = .ok (.lconst 0, 1) := by decide +kernel
theorem dX7_sheet_3 : decode cX7_sheet 3 = .ok (.ldc2_w 210, 3) := by decide +kernel
theorem dX7_sheet_6 : decode cX7_sheet 6 = .ok (.invokestatic 54, 3) := by decide +kernel
theorem dX7_sheet_9 : decode cX7_sheet 9 = .ok (.ifCond .eq 21, 3) := by decide +kernel
theorem dX7_sheet_12 : decode cX7_sheet 12 = .ok (.iload_n 2, 1) := by decide +kernel
theorem dX7_sheet_13 : decode cX7_sheet 13 = .ok (.i2l, 1) := by decide +kernel
theorem dX7_sheet_14 : decode cX7_sheet 14 = .ok (.lconst 0, 1) := by decide +kernel
theorem dX7_sheet_15 : decode cX7_sheet 15 = .ok (.ldc2_w 166, 3) := by decide +kernel
theorem dX7_sheet_18 : decode cX7_sheet 18 = .ok (.invokestatic 54, 3) := by decide +kernel
theorem dX7_sheet_21 : decode cX7_sheet 21 = .ok (.ifCond .eq 9, 3) := by decide +kernel
theorem dX7_sheet_24 : decode cX7_sheet 24 = .ok (.iload_n 3, 1) := by decide +kernel
theorem dX7_sheet_25 : decode cX7_sheet 25 = .ok (.bipush 40, 2) := by decide +kernel
theorem dX7_sheet_27 : decode cX7_sheet 27 = .ok (.if_icmp .le 5, 3) := by decide +kernel
theorem dX7_sheet_30 : decode cX7_sheet 30 = .ok (.iconst (-1), 1) := by decide +kernel
theorem dX7_sheet_31 : decode cX7_sheet 31 = .ok (.ireturn, 1) := by decide +kernel
theorem dX7_sheet_32 : decode cX7_sheet 32 = .ok (.iload_n 3, 1) := by decide +kernel
theorem dX7_sheet_33 : decode cX7_sheet 33 = .ok (.ifCond .ge 6, 3) := by decide +kernel
theorem dX7_sheet_36 : decode cX7_sheet 36 = .ok (.bipush (-14), 2) := by decide +kernel
theorem dX7_sheet_38 : decode cX7_sheet 38 = .ok (.ireturn, 1) := by decide +kernel
theorem dX7_sheet_39 : decode cX7_sheet 39 = .ok (.aload_n 0, 1) := by decide +kernel
theorem dX7_sheet_40 : decode cX7_sheet 40 = .ok (.getfield 35, 3) := by decide +kernel
theorem dX7_sheet_43 : decode cX7_sheet 43 = .ok (.iload_n 1, 1) := by decide +kernel
theorem dX7_sheet_44 : decode cX7_sheet 44 = .ok (.iload_n 2, 1) := by decide +kernel
theorem dX7_sheet_45 : decode cX7_sheet 45 = .ok (.iastore, 1) := by decide +kernel
theorem dX7_sheet_46 : decode cX7_sheet 46 = .ok (.aload_n 0, 1) := by decide +kernel
theorem dX7_sheet_47 : decode cX7_sheet 47 = .ok (.getfield 38, 3) := by decide +kernel
theorem dX7_sheet_50 : decode cX7_sheet 50 = .ok (.iload_n 1, 1) := by decide +kernel
theorem dX7_sheet_51 : decode cX7_sheet 51 = .ok (.iload_n 3, 1) := by decide +kernel
theorem dX7_sheet_52 : decode cX7_sheet 52 = .ok (.iastore, 1) := by decide +kernel
theorem dX7_sheet_53 : decode cX7_sheet 53 = .ok (.iconst 0, 1) := by decide +kernel
theorem dX7_sheet_54 : decode cX7_sheet 54 = .ok (.istore 4, 2) := by decide +kernel
theorem dX7_sheet_56 : decode cX7_sheet 56 = .ok (.iload 4, 2) := by decide +kernel
theorem dX7_sheet_58 : decode cX7_sheet 58 = .ok (.bipush 40, 2) := by decide +kernel
theorem dX7_sheet_60 : decode cX7_sheet 60 = .ok (.if_icmp .ge 22, 3) := by decide +kernel
theorem dX7_sheet_63 : decode cX7_sheet 63 = .ok (.aload_n 0, 1) := by decide +kernel
theorem dX7_sheet_64 : decode cX7_sheet 64 = .ok (.getfield 41, 3) := by decide +kernel
theorem dX7_sheet_67 : decode cX7_sheet 67 = .ok (.bipush 40, 2) := by decide +kernel
theorem dX7_sheet_69 : decode cX7_sheet 69 = .ok (.iload_n 1, 1) := by decide +kernel
theorem dX7_sheet_70 : decode cX7_sheet 70 = .ok (.imul, 1) := by decide +kernel
theorem dX7_sheet_71 : decode cX7_sheet 71 = .ok (.iload 4, 2) := by decide +kernel
theorem dX7_sheet_73 : decode cX7_sheet 73 = .ok (.iadd, 1) := by decide +kernel
theorem dX7_sheet_74 : decode cX7_sheet 74 = .ok (.iconst 0, 1) := by decide +kernel
theorem dX7_sheet_75 : decode cX7_sheet 75 = .ok (.iastore, 1) := by decide +kernel
theorem dX7_sheet_76 : decode cX7_sheet 76 = .ok (.iinc 4 1, 3) := by decide +kernel
theorem dX7_sheet_79 : decode cX7_sheet 79 = .ok (.goto (-23), 3) := by decide +kernel
theorem dX7_sheet_82 : decode cX7_sheet 82 = .ok (.iconst 1, 1) := by decide +kernel
theorem dX7_sheet_83 : decode cX7_sheet 83 = .ok (.ireturn, 1) := by decide +kernel
theorem dX7_lay_0 : decode cX7_lay 0 = .ok (.iload_n 1, 1) := by decide +kernel
theorem dX7_lay_1 : decode cX7_lay 1 = .ok (.i2l, 1) := by decide +kernel
theorem dX7_lay_2 : decode cX7_lay 2 = .ok (.lconst 0, 1) := by decide +kernel
theorem dX7_lay_3 : decode cX7_lay 3 = .ok (.ldc2_w 210, 3) := by decide +kernel
theorem dX7_lay_6 : decode cX7_lay 6 = .ok (.invokestatic 54, 3) := by decide +kernel
theorem dX7_lay_9 : decode cX7_lay 9 = .ok (.ifCond .ne 5, 3) := by decide +kernel
theorem dX7_lay_12 : decode cX7_lay 12 = .ok (.iconst (-1), 1) := by decide +kernel
theorem dX7_lay_13 : decode cX7_lay 13 = .ok (.ireturn, 1) := by decide +kernel
theorem dX7_lay_14 : decode cX7_lay 14 = .ok (.aload_n 0, 1) := by decide +kernel
theorem dX7_lay_15 : decode cX7_lay 15 = .ok (.getfield 35, 3) := by decide +kernel
theorem dX7_lay_18 : decode cX7_lay 18 = .ok (.iload_n 1, 1) := by decide +kernel
theorem dX7_lay_19 : decode cX7_lay 19 = .ok (.iaload, 1) := by decide +kernel
theorem dX7_lay_20 : decode cX7_lay 20 = .ok (.bipush (-4), 2) := by decide +kernel
theorem dX7_lay_22 : decode cX7_lay 22 = .ok (.if_icmp .ne 6, 3) := by decide +kernel
theorem dX7_lay_25 : decode cX7_lay 25 = .ok (.bipush (-11), 2) := by decide +kernel
theorem dX7_lay_27 : decode cX7_lay 27 = .ok (.ireturn, 1) := by decide +kernel
theorem dX7_lay_28 : decode cX7_lay 28 = .ok (.iload_n 2, 1) := by decide +kernel
theorem dX7_lay_29 : decode cX7_lay 29 = .ok (.i2l, 1) := by decide +kernel
theorem dX7_lay_30 : decode cX7_lay 30 = .ok (.lconst 0, 1) := by decide +kernel
theorem dX7_lay_31 : decode cX7_lay 31 = .ok (.aload_n 0, 1) := by decide +kernel
theorem dX7_lay_32 : decode cX7_lay 32 = .ok (.getfield 38, 3) := by decide +kernel
theorem dX7_lay_35 : decode cX7_lay 35 = .ok (.iload_n 1, 1) := by decide +kernel
theorem dX7_lay_36 : decode cX7_lay 36 = .ok (.iaload, 1) := by decide +kernel
theorem dX7_lay_37 : decode cX7_lay 37 = .ok (.iconst 1, 1) := by decide +kernel
theorem dX7_lay_38 : decode cX7_lay 38 = .ok (.isub, 1) := by decide +kernel
theorem dX7_lay_39 : decode cX7_lay 39 = .ok (.i2l, 1) := by decide +kernel
theorem dX7_lay_40 : decode cX7_lay 40 = .ok (.invokestatic 54, 3) := by decide +kernel
theorem dX7_lay_43 : decode cX7_lay 43 = .ok (.ifCond .ne 6, 3) := by decide +kernel
theorem dX7_lay_46 : decode cX7_lay 46 = .ok (.bipush (-12), 2) := by decide +kernel
theorem dX7_lay_48 : decode cX7_lay 48 = .ok (.ireturn, 1) := by decide +kernel
theorem dX7_lay_49 : decode cX7_lay 49 = .ok (.aload_n 0, 1) := by decide +kernel
theorem dX7_lay_50 : decode cX7_lay 50 = .ok (.getfield 41, 3) := by decide +kernel
theorem dX7_lay_53 : decode cX7_lay 53 = .ok (.bipush 40, 2) := by decide +kernel
theorem dX7_lay_55 : decode cX7_lay 55 = .ok (.iload_n 1, 1) := by decide +kernel
theorem dX7_lay_56 : decode cX7_lay 56 = .ok (.imul, 1) := by decide +kernel
theorem dX7_lay_57 : decode cX7_lay 57 = .ok (.iload_n 2, 1) := by decide +kernel
theorem dX7_lay_58 : decode cX7_lay 58 = .ok (.iadd, 1) := by decide +kernel
theorem dX7_lay_59 : decode cX7_lay 59 = .ok (.aload_n 0, 1) := by decide +kernel
