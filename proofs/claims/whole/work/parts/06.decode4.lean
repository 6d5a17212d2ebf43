theorem dX7_begins_49 : decode cX7_begins 49 = .ok (.iastore, 1) := by decide +kernel
theorem dX7_begins_50 : decode cX7_begins 50 = .ok (.aload_n 0, 1) := by decide +kernel
theorem dX7_begins_51 : decode cX7_begins 51 = .ok (.getfield 7, 3) := by decide +kernel
theorem dX7_begins_54 : decode cX7_begins 54 = .ok (.iload_n 1, 1) := by decide +kernel
theorem dX7_begins_55 : decode cX7_begins 55 = .ok (.bipush 101, 2) := by decide +kernel
theorem dX7_begins_57 : decode cX7_begins 57 = .ok (.iadd, 1) := by decide +kernel
theorem dX7_begins_58 : decode cX7_begins 58 = .ok (.iconst 0, 1) := by decide +kernel
theorem dX7_begins_59 : decode cX7_begins 59 = .ok (.iastore, 1) := by decide +kernel
theorem dX7_begins_60 : decode cX7_begins 60 = .ok (.aload_n 0, 1) := by decide +kernel
theorem dX7_begins_61 : decode cX7_begins 61 = .ok (.getfield 7, 3) := by decide +kernel
theorem dX7_begins_64 : decode cX7_begins 64 = .ok (.iload_n 1, 1) := by decide +kernel
theorem dX7_begins_65 : decode cX7_begins 65 = .ok (.bipush 102, 2) := by decide +kernel
theorem dX7_begins_67 : decode cX7_begins 67 = .ok (.iadd, 1) := by decide +kernel
theorem dX7_begins_68 : decode cX7_begins 68 = .ok (.iconst 0, 1) := by decide +kernel
theorem dX7_begins_69 : decode cX7_begins 69 = .ok (.iastore, 1) := by decide +kernel
theorem dX7_begins_70 : decode cX7_begins 70 = .ok (.return_, 1) := by decide +kernel
theorem dX7_starts_0 : decode cX7_starts 0 = .ok (.aload_n 0, 1) := by decide +kernel
theorem dX7_starts_1 : decode cX7_starts 1 = .ok (.getfield 44, 3) := by decide +kernel
theorem dX7_starts_4 : decode cX7_starts 4 = .ok (.ifCond .ne 13, 3) := by decide +kernel
theorem dX7_starts_7 : decode cX7_starts 7 = .ok (.aload_n 0, 1) := by decide +kernel
theorem dX7_starts_8 : decode cX7_starts 8 = .ok (.iconst 1, 1) := by decide +kernel
theorem dX7_starts_9 : decode cX7_starts 9 = .ok (.putfield 44, 3) := by decide +kernel
theorem dX7_starts_12 : decode cX7_starts 12 = .ok (.aload_n 0, 1) := by decide +kernel
theorem dX7_starts_13 : decode cX7_starts 13 = .ok (.iconst 0, 1) := by decide +kernel
theorem dX7_starts_14 : decode cX7_starts 14 = .ok (.invokevirtual 48, 3) := by decide +kernel
theorem dX7_starts_17 : decode cX7_starts 17 = .ok (.return_, 1) := by decide +kernel
theorem dX7_feed_0 : decode cX7_feed 0 = .ok (.iload_n 1, 1) := by decide +kernel
theorem dX7_feed_1 : decode cX7_feed 1 = .ok (.i2l, 1) := by decide +kernel
theorem dX7_feed_2 : decode cX7_feed 2 = .ok (.lconst 0, 1) := by decide +kernel
theorem dX7_feed_3 : decode cX7_feed 3 = .ok (.ldc2_w 52, 3) := by decide +kernel
theorem dX7_feed_6 : decode cX7_feed 6 = .ok (.invokestatic 54, 3) := by decide +kernel
theorem dX7_feed_9 : decode cX7_feed 9 = .ok (.ifCond .ne 5, 3) := by decide +kernel
theorem dX7_feed_12 : decode cX7_feed 12 = .ok (.iconst (-1), 1) := by decide +kernel
theorem dX7_feed_13 : decode cX7_feed 13 = .ok (.ireturn, 1) := by decide +kernel
theorem dX7_feed_14 : decode cX7_feed 14 = .ok (.aload_n 0, 1) := by decide +kernel
theorem dX7_feed_15 : decode cX7_feed 15 = .ok (.getfield 58, 3) := by decide +kernel
theorem dX7_feed_18 : decode cX7_feed 18 = .ok (.sipush 320, 3) := by decide +kernel
theorem dX7_feed_21 : decode cX7_feed 21 = .ok (.if_icmp .ne 6, 3) := by decide +kernel
theorem dX7_feed_24 : decode cX7_feed 24 = .ok (.bipush (-3), 2) := by decide +kernel
theorem dX7_feed_26 : decode cX7_feed 26 = .ok (.ireturn, 1) := by decide +kernel
theorem dX7_feed_27 : decode cX7_feed 27 = .ok (.aload_n 0, 1) := by decide +kernel
theorem dX7_feed_28 : decode cX7_feed 28 = .ok (.getfield 13, 3) := by decide +kernel
theorem dX7_feed_31 : decode cX7_feed 31 = .ok (.aload_n 0, 1) := by decide +kernel
theorem dX7_feed_32 : decode cX7_feed 32 = .ok (.getfield 58, 3) := by decide +kernel
theorem dX7_feed_35 : decode cX7_feed 35 = .ok (.iload_n 1, 1) := by decide +kernel
theorem dX7_feed_36 : decode cX7_feed 36 = .ok (.iastore, 1) := by decide +kernel
theorem dX7_feed_37 : decode cX7_feed 37 = .ok (.aload_n 0, 1) := by decide +kernel
theorem dX7_feed_38 : decode cX7_feed 38 = .ok (.dup, 1) := by decide +kernel
theorem dX7_feed_39 : decode cX7_feed 39 = .ok (.getfield 58, 3) := by decide +kernel
theorem dX7_feed_42 : decode cX7_feed 42 = .ok (.iconst 1, 1) := by decide +kernel
theorem dX7_feed_43 : decode cX7_feed 43 = .ok (.iadd, 1) := by decide +kernel
theorem dX7_feed_44 : decode cX7_feed 44 = .ok (.putfield 58, 3) := by decide +kernel
theorem dX7_feed_47 : decode cX7_feed 47 = .ok (.aload_n 0, 1) := by decide +kernel
theorem dX7_feed_48 : decode cX7_feed 48 = .ok (.getfield 58, 3) := by decide +kernel
theorem dX7_feed_51 : decode cX7_feed 51 = .ok (.ireturn, 1) := by decide +kernel
theorem dX7_end_0 : decode cX7_end 0 = .ok (.iload_n 1, 1) := by decide +kernel
theorem dX7_end_1 : decode cX7_end 1 = .ok (.i2l, 1) := by decide +kernel
theorem dX7_end_2 : decode cX7_end 2 = .ok (.lconst 0, 1) := by decide +kernel
theorem dX7_end_3 : decode cX7_end 3 = .ok (.aload_n 0, 1) := by decide +kernel
theorem dX7_end_4 : decode cX7_end 4 = .ok (.getfield 58, 3) := by decide +kernel
theorem dX7_end_7 : decode cX7_end 7 = .ok (.i2l, 1) := by decide +kernel
theorem dX7_end_8 : decode cX7_end 8 = .ok (.invokestatic 54, 3) := by decide +kernel
theorem dX7_end_11 : decode cX7_end 11 = .ok (.ifCond .ne 5, 3) := by decide +kernel
theorem dX7_end_14 : decode cX7_end 14 = .ok (.iconst (-1), 1) := by decide +kernel
theorem dX7_end_15 : decode cX7_end 15 = .ok (.ireturn, 1) := by decide +kernel
theorem dX7_end_16 : decode cX7_end 16 = .ok (.aload_n 0, 1) := by decide +kernel
theorem dX7_end_17 : decode cX7_end 17 = .ok (.getfield 58, 3) := by decide +kernel
theorem dX7_end_20 : decode cX7_end 20 = .ok (.istore_n 2, 1) := by decide +kernel
theorem dX7_end_21 : decode cX7_end 21 = .ok (.aload_n 0, 1) := by decide +kernel
theorem dX7_end_22 : decode cX7_end 22 = .ok (.iload_n 1, 1) := by decide +kernel
theorem dX7_end_23 : decode cX7_end 23 = .ok (.putfield 58, 3) := by decide +kernel
theorem dX7_end_26 : decode cX7_end 26 = .ok (.iload_n 2, 1) := by decide +kernel
theorem dX7_end_27 : decode cX7_end 27 = .ok (.ireturn, 1) := by decide +kernel
theorem dX7_byteAt_0 : decode cX7_byteAt 0 = .ok (.iload_n 1, 1) := by decide +kernel
theorem dX7_byteAt_1 : decode cX7_byteAt 1 = .ok (.aload_n 0, 1) := by decide +kernel
theorem dX7_byteAt_2 : decode cX7_byteAt 2 = .ok (.getfield 58, 3) := by decide +kernel
theorem dX7_byteAt_5 : decode cX7_byteAt 5 = .ok (.if_icmp .ge 12, 3) := by decide +kernel
theorem dX7_byteAt_8 : decode cX7_byteAt 8 = .ok (.aload_n 0, 1) := by decide +kernel
theorem dX7_byteAt_9 : decode cX7_byteAt 9 = .ok (.getfield 13, 3) := by decide +kernel
theorem dX7_byteAt_12 : decode cX7_byteAt 12 = .ok (.iload_n 1, 1) := by decide +kernel
theorem dX7_byteAt_13 : decode cX7_byteAt 13 = .ok (.iaload, 1) := by decide +kernel
theorem dX7_byteAt_14 : decode cX7_byteAt 14 = .ok (.goto 5, 3) := by decide +kernel
theorem dX7_byteAt_17 : decode cX7_byteAt 17 = .ok (.bipush (-4), 2) := by decide +kernel
theorem dX7_byteAt_19 : decode cX7_byteAt 19 = .ok (.ireturn, 1) := by decide +kernel
theorem dX7_fails_0 : decode cX7_fails 0 = .ok (.aload_n 0, 1) := by decide +kernel
theorem dX7_fails_1 : decode cX7_fails 1 = .ok (.getfield 62, 3) := by decide +kernel
theorem dX7_fails_4 : decode cX7_fails 4 = .ok (.ifCond .ne 16, 3) := by decide +kernel
theorem dX7_fails_7 : decode cX7_fails 7 = .ok (.aload_n 0, 1) := by decide +kernel
theorem dX7_fails_8 : decode cX7_fails 8 = .ok (.iload_n 1, 1) := by decide +kernel
theorem dX7_fails_9 : decode cX7_fails 9 = .ok (.putfield 62, 3) := by decide +kernel
theorem dX7_fails_12 : decode cX7_fails 12 = .ok (.aload_n 0, 1) := by decide +kernel
theorem dX7_fails_13 : decode cX7_fails 13 = .ok (.aload_n 0, 1) := by decide +kernel
theorem dX7_fails_14 : decode cX7_fails 14 = .ok (.getfield 65, 3) := by decide +kernel
theorem dX7_fails_17 : decode cX7_fails 17 = .ok (.putfield 68, 3) := by decide +kernel
theorem dX7_fails_20 : decode cX7_fails 20 = .ok (.return_, 1) := by decide +kernel
theorem dX7_nameHere_0 : decode cX7_nameHere 0 = .ok (.iconst 0, 1) := by decide +kernel
theorem dX7_nameHere_1 : decode cX7_nameHere 1 = .ok (.istore_n 1, 1) := by decide +kernel
theorem dX7_nameHere_2 : decode cX7_nameHere 2 = .ok (.iload_n 1, 1) := by decide +kernel
theorem dX7_nameHere_3 : decode cX7_nameHere 3 = .ok (.bipush 15, 2) := by decide +kernel
theorem dX7_nameHere_5 : decode cX7_nameHere 5 = .ok (.if_icmp .ge 113, 3) := by decide +kernel
theorem dX7_nameHere_8 : decode cX7_nameHere 8 = .ok (.aload_n 0, 1) := by decide +kernel
theorem dX7_nameHere_9 : decode cX7_nameHere 9 = .ok (.getfield 71, 3) := by decide +kernel
theorem dX7_nameHere_12 : decode cX7_nameHere 12 = .ok (.iconst 1, 1) := by decide +kernel
theorem dX7_nameHere_13 : decode cX7_nameHere 13 = .ok (.if_icmp .ne 105, 3) := by decide +kernel
theorem dX7_nameHere_16 : decode cX7_nameHere 16 = .ok (.aload_n 0, 1) := by decide +kernel
theorem dX7_nameHere_17 : decode cX7_nameHere 17 = .ok (.getfield 74, 3) := by decide +kernel
theorem dX7_nameHere_20 : decode cX7_nameHere 20 = .ok (.aload_n 0, 1) := by decide +kernel
theorem dX7_nameHere_21 : decode cX7_nameHere 21 = .ok (.getfield 65, 3) := by decide +kernel
theorem dX7_nameHere_24 : decode cX7_nameHere 24 = .ok (.isub, 1) := by decide +kernel
theorem dX7_nameHere_25 : decode cX7_nameHere 25 = .ok (.aload_n 0, 1) := by decide +kernel
theorem dX7_nameHere_26 : decode cX7_nameHere 26 = .ok (.getfield 16, 3) := by decide +kernel
theorem dX7_nameHere_29 : decode cX7_nameHere 29 = .ok (.iload_n 1, 1) := by decide +kernel
theorem dX7_nameHere_30 : decode cX7_nameHere 30 = .ok (.iconst 1, 1) := by decide +kernel
theorem dX7_nameHere_31 : decode cX7_nameHere 31 = .ok (.iadd, 1) := by decide +kernel
theorem dX7_nameHere_32 : decode cX7_nameHere 32 = .ok (.iaload, 1) := by decide +kernel
theorem dX7_nameHere_33 : decode cX7_nameHere 33 = .ok (.aload_n 0, 1) := by decide +kernel
theorem dX7_nameHere_34 : decode cX7_nameHere 34 = .ok (.getfield 16, 3) := by decide +kernel
theorem dX7_nameHere_37 : decode cX7_nameHere 37 = .ok (.iload_n 1, 1) := by decide +kernel
theorem dX7_nameHere_38 : decode cX7_nameHere 38 = .ok (.iaload, 1) := by decide +kernel
theorem dX7_nameHere_39 : decode cX7_nameHere 39 = .ok (.isub, 1) := by decide +kernel
theorem dX7_nameHere_40 : decode cX7_nameHere 40 = .ok (.if_icmp .ne 7, 3) := by decide +kernel
theorem dX7_nameHere_43 : decode cX7_nameHere 43 = .ok (.iconst 1, 1) := by decide +kernel
theorem dX7_nameHere_44 : decode cX7_nameHere 44 = .ok (.goto 4, 3) := by decide +kernel
theorem dX7_nameHere_47 : decode cX7_nameHere 47 = .ok (.iconst 0, 1) := by decide +kernel
theorem dX7_nameHere_48 : decode cX7_nameHere 48 = .ok (.istore_n 2, 1) := by decide +kernel
theorem dX7_nameHere_49 : decode cX7_nameHere 49 = .ok (.iconst 0, 1) := by decide +kernel
theorem dX7_nameHere_50 : decode cX7_nameHere 50 = .ok (.istore_n 3, 1) := by decide +kernel
theorem dX7_nameHere_51 : decode cX7_nameHere 51 = .ok (.iload_n 2, 1) := by decide +kernel
theorem dX7_nameHere_52 : decode cX7_nameHere 52 = .ok (.ifCond .eq 54, 3) := by decide +kernel
theorem dX7_nameHere_55 : decode cX7_nameHere 55 = .ok (.iload_n 3, 1) := by decide +kernel
theorem dX7_nameHere_56 : decode cX7_nameHere 56 = .ok (.aload_n 0, 1) := by decide +kernel
theorem dX7_nameHere_57 : decode cX7_nameHere 57 = .ok (.getfield 74, 3) := by decide +kernel
theorem dX7_nameHere_60 : decode cX7_nameHere 60 = .ok (.aload_n 0, 1) := by decide +kernel
theorem dX7_nameHere_61 : decode cX7_nameHere 61 = .ok (.getfield 65, 3) := by decide +kernel
theorem dX7_nameHere_64 : decode cX7_nameHere 64 = .ok (.isub, 1) := by decide +kernel
theorem dX7_nameHere_65 : decode cX7_nameHere 65 = .ok (.if_icmp .ge 41, 3) := by decide +kernel
theorem dX7_nameHere_68 : decode cX7_nameHere 68 = .ok (.aload_n 0, 1) := by decide +kernel
theorem dX7_nameHere_69 : decode cX7_nameHere 69 = .ok (.aload_n 0, 1) := by decide +kernel
theorem dX7_nameHere_70 : decode cX7_nameHere 70 = .ok (.getfield 65, 3) := by decide +kernel
theorem dX7_nameHere_73 : decode cX7_nameHere 73 = .ok (.iload_n 3, 1) := by decide +kernel
theorem dX7_nameHere_74 : decode cX7_nameHere 74 = .ok (.iadd, 1) := by decide +kernel
theorem dX7_nameHere_75 : decode cX7_nameHere 75 = .ok (.invokevirtual 77, 3) := by decide +kernel
theorem dX7_nameHere_78 : decode cX7_nameHere 78 = .ok (.aload_n 0, 1) := by decide +kernel
theorem dX7_nameHere_79 : decode cX7_nameHere 79 = .ok (.getfield 19, 3) := by decide +kernel
theorem dX7_nameHere_82 : decode cX7_nameHere 82 = .ok (.aload_n 0, 1) := by decide +kernel
theorem dX7_nameHere_83 : decode cX7_nameHere 83 = .ok (.getfield 16, 3) := by decide +kernel
theorem dX7_nameHere_86 : decode cX7_nameHere 86 = .ok (.iload_n 1, 1) := by decide +kernel
theorem dX7_nameHere_87 : decode cX7_nameHere 87 = .ok (.iaload, 1) := by decide +kernel
theorem dX7_nameHere_88 : decode cX7_nameHere 88 = .ok (.iload_n 3, 1) := by decide +kernel
theorem dX7_nameHere_89 : decode cX7_nameHere 89 = .ok (.iadd, 1) := by decide +kernel
theorem dX7_nameHere_90 : decode cX7_nameHere 90 = .ok (.iaload, 1) := by decide +kernel
theorem dX7_nameHere_91 : decode cX7_nameHere 91 = .ok (.if_icmp .ne 7, 3) := by decide +kernel
theorem dX7_nameHere_94 : decode cX7_nameHere 94 = .ok (.iconst 1, 1) := by decide +kernel
theorem dX7_nameHere_95 : decode cX7_nameHere 95 = .ok (.goto 4, 3) := by decide +kernel
theorem dX7_nameHere_98 : decode cX7_nameHere 98 = .ok (.iconst 0, 1) := by decide +kernel
theorem dX7_nameHere_99 : decode cX7_nameHere 99 = .ok (.istore_n 2, 1) := by decide +kernel
theorem dX7_nameHere_100 : decode cX7_nameHere 100 = .ok (.iinc 3 1, 3) := by decide +kernel
theorem dX7_nameHere_103 : decode cX7_nameHere 103 = .ok (.goto (-52), 3) := by decide +kernel
theorem dX7_nameHere_106 : decode cX7_nameHere 106 = .ok (.iload_n 2, 1) := by decide +kernel
theorem dX7_nameHere_107 : decode cX7_nameHere 107 = .ok (.ifCond .eq 5, 3) := by decide +kernel
theorem dX7_nameHere_110 : decode cX7_nameHere 110 = .ok (.iload_n 1, 1) := by decide +kernel
theorem dX7_nameHere_111 : decode cX7_nameHere 111 = .ok (.ireturn, 1) := by decide +kernel
theorem dX7_nameHere_112 : decode cX7_nameHere 112 = .ok (.iinc 1 1, 3) := by decide +kernel
theorem dX7_nameHere_115 : decode cX7_nameHere 115 = .ok (.goto (-113), 3) := by decide +kernel
theorem dX7_nameHere_118 : decode cX7_nameHere 118 = .ok (.bipush (-4), 2) := by decide +kernel
theorem dX7_nameHere_120 : decode cX7_nameHere 120 = .ok (.ireturn, 1) := by decide +kernel
theorem dX7_readsOn_0 : decode cX7_readsOn 0 = .ok (.aload_n 0, 1) := by decide +kernel
theorem dX7_readsOn_1 : decode cX7_readsOn 1 = .ok (.getfield 62, 3) := by decide +kernel
theorem dX7_readsOn_4 : decode cX7_readsOn 4 = .ok (.ifCond .le 4, 3) := by decide +kernel
theorem dX7_readsOn_7 : decode cX7_readsOn 7 = .ok (.return_, 1) := by decide +kernel
theorem dX7_readsOn_8 : decode cX7_readsOn 8 = .ok (.aload_n 0, 1) := by decide +kernel
theorem dX7_readsOn_9 : decode cX7_readsOn 9 = .ok (.aload_n 0, 1) := by decide +kernel
theorem dX7_readsOn_10 : decode cX7_readsOn 10 = .ok (.getfield 74, 3) := by decide +kernel
theorem dX7_readsOn_13 : decode cX7_readsOn 13 = .ok (.invokevirtual 77, 3) := by decide +kernel
theorem dX7_readsOn_16 : decode cX7_readsOn 16 = .ok (.bipush 32, 2) := by decide +kernel
theorem dX7_readsOn_18 : decode cX7_readsOn 18 = .ok (.if_icmp .ne 16, 3) := by decide +kernel
theorem dX7_readsOn_21 : decode cX7_readsOn 21 = .ok (.aload_n 0, 1) := by decide +kernel
theorem dX7_readsOn_22 : decode cX7_readsOn 22 = .ok (.dup, 1) := by decide +kernel
theorem dX7_readsOn_23 : decode cX7_readsOn 23 = .ok (.getfield 74, 3) := by decide +kernel
theorem dX7_readsOn_26 : decode cX7_readsOn 26 = .ok (.iconst 1, 1) := by decide +kernel
theorem dX7_readsOn_27 : decode cX7_readsOn 27 = .ok (.iadd, 1) := by decide +kernel
theorem dX7_readsOn_28 : decode cX7_readsOn 28 = .ok (.putfield 74, 3) := by decide +kernel
theorem dX7_readsOn_31 : decode cX7_readsOn 31 = .ok (.goto (-23), 3) := by decide +kernel
theorem dX7_readsOn_34 : decode cX7_readsOn 34 = .ok (.aload_n 0, 1) := by decide +kernel
theorem dX7_readsOn_35 : decode cX7_readsOn 35 = .ok (.aload_n 0, 1) := by decide +kernel
theorem dX7_readsOn_36 : decode cX7_readsOn 36 = .ok (.getfield 74, 3) := by decide +kernel
theorem dX7_readsOn_39 : decode cX7_readsOn 39 = .ok (.putfield 65, 3) := by decide +kernel
theorem dX7_readsOn_42 : decode cX7_readsOn 42 = .ok (.aload_n 0, 1) := by decide +kernel
theorem dX7_readsOn_43 : decode cX7_readsOn 43 = .ok (.aload_n 0, 1) := by decide +kernel
theorem dX7_readsOn_44 : decode cX7_readsOn 44 = .ok (.getfield 74, 3) := by decide +kernel
theorem dX7_readsOn_47 : decode cX7_readsOn 47 = .ok (.invokevirtual 77, 3) := by decide +kernel
theorem dX7_readsOn_50 : decode cX7_readsOn 50 = .ok (.istore_n 1, 1) := by decide +kernel
theorem dX7_readsOn_51 : decode cX7_readsOn 51 = .ok (.aload_n 0, 1) := by decide +kernel
theorem dX7_readsOn_52 : decode cX7_readsOn 52 = .ok (.iconst 0, 1) := by decide +kernel
theorem dX7_readsOn_53 : decode cX7_readsOn 53 = .ok (.putfield 81, 3) := by decide +kernel
theorem dX7_readsOn_56 : decode cX7_readsOn 56 = .ok (.iload_n 1, 1) := by decide +kernel
theorem dX7_readsOn_57 : decode cX7_readsOn 57 = .ok (.bipush (-4), 2) := by decide +kernel
theorem dX7_readsOn_59 : decode cX7_readsOn 59 = .ok (.if_icmp .ne 11, 3) := by decide +kernel
theorem dX7_readsOn_62 : decode cX7_readsOn 62 = .ok (.aload_n 0, 1) := by decide +kernel
theorem dX7_readsOn_63 : decode cX7_readsOn 63 = .ok (.iconst 0, 1) := by decide +kernel
theorem dX7_readsOn_64 : decode cX7_readsOn 64 = .ok (.putfield 71, 3) := by decide +kernel
theorem dX7_readsOn_67 : decode cX7_readsOn 67 = .ok (.goto 234, 3) := by decide +kernel
theorem dX7_readsOn_70 : decode cX7_readsOn 70 = .ok (.iload_n 1, 1) := by decide +kernel
theorem dX7_readsOn_71 : decode cX7_readsOn 71 = .ok (.i2l, 1) := by decide +kernel
theorem dX7_readsOn_72 : decode cX7_readsOn 72 = .ok (.ldc2_w 84, 3) := by decide +kernel
theorem dX7_readsOn_75 : decode cX7_readsOn 75 = .ok (.ldc2_w 86, 3) := by decide +kernel
theorem dX7_readsOn_78 : decode cX7_readsOn 78 = .ok (.invokestatic 54, 3) := by decide +kernel
theorem dX7_readsOn_81 : decode cX7_readsOn 81 = .ok (.ifCond .eq 45, 3) := by decide +kernel
theorem dX7_readsOn_84 : decode cX7_readsOn 84 = .ok (.aload_n 0, 1) := by decide +kernel
theorem dX7_readsOn_85 : decode cX7_readsOn 85 = .ok (.aload_n 0, 1) := by decide +kernel
theorem dX7_readsOn_86 : decode cX7_readsOn 86 = .ok (.getfield 74, 3) := by decide +kernel
theorem dX7_readsOn_89 : decode cX7_readsOn 89 = .ok (.invokevirtual 77, 3) := by decide +kernel
theorem dX7_readsOn_92 : decode cX7_readsOn 92 = .ok (.i2l, 1) := by decide +kernel
theorem dX7_readsOn_93 : decode cX7_readsOn 93 = .ok (.ldc2_w 84, 3) := by decide +kernel
theorem dX7_readsOn_96 : decode cX7_readsOn 96 = .ok (.ldc2_w 86, 3) := by decide +kernel
theorem dX7_readsOn_99 : decode cX7_readsOn 99 = .ok (.invokestatic 54, 3) := by decide +kernel
theorem dX7_readsOn_102 : decode cX7_readsOn 102 = .ok (.ifCond .eq 16, 3) := by decide +kernel
theorem dX7_readsOn_105 : decode cX7_readsOn 105 = .ok (.aload_n 0, 1) := by decide +kernel
theorem dX7_readsOn_106 : decode cX7_readsOn 106 = .ok (.dup, 1) := by decide +kernel
theorem dX7_readsOn_107 : decode cX7_readsOn 107 = .ok (.getfield 74, 3) := by decide +kernel
theorem dX7_readsOn_110 : decode cX7_readsOn 110 = .ok (.iconst 1, 1) := by decide +kernel
theorem dX7_readsOn_111 : decode cX7_readsOn 111 = .ok (.iadd, 1) := by decide +kernel
theorem dX7_readsOn_112 : decode cX7_readsOn 112 = .ok (.putfield 74, 3) := by decide +kernel
theorem dX7_readsOn_115 : decode cX7_readsOn 115 = .ok (.goto (-31), 3) := by decide +kernel
theorem dX7_readsOn_118 : decode cX7_readsOn 118 = .ok (.aload_n 0, 1) := by decide +kernel
theorem dX7_readsOn_119 : decode cX7_readsOn 119 = .ok (.iconst 1, 1) := by decide +kernel
theorem dX7_readsOn_120 : decode cX7_readsOn 120 = .ok (.putfield 71, 3) := by decide +kernel
theorem dX7_readsOn_123 : decode cX7_readsOn 123 = .ok (.goto 178, 3) := by decide +kernel
theorem dX7_readsOn_126 : decode cX7_readsOn 126 = .ok (.iload_n 1, 1) := by decide +kernel
theorem dX7_readsOn_127 : decode cX7_readsOn 127 = .ok (.i2l, 1) := by decide +kernel
theorem dX7_readsOn_128 : decode cX7_readsOn 128 = .ok (.ldc2_w 88, 3) := by decide +kernel
theorem dX7_readsOn_131 : decode cX7_readsOn 131 = .ok (.ldc2_w 90, 3) := by decide +kernel
theorem dX7_readsOn_134 : decode cX7_readsOn 134 = .ok (.invokestatic 54, 3) := by decide +kernel
theorem dX7_readsOn_137 : decode cX7_readsOn 137 = .ok (.ifCond .eq 106, 3) := by decide +kernel
theorem dX7_readsOn_140 : decode cX7_readsOn 140 = .ok (.aload_n 0, 1) := by decide +kernel
theorem dX7_readsOn_141 : decode cX7_readsOn 141 = .ok (.aload_n 0, 1) := by decide +kernel
theorem dX7_readsOn_142 : decode cX7_readsOn 142 = .ok (.getfield 74, 3) := by decide +kernel
theorem dX7_readsOn_145 : decode cX7_readsOn 145 = .ok (.invokevirtual 77, 3) := by decide +kernel
theorem dX7_readsOn_148 : decode cX7_readsOn 148 = .ok (.i2l, 1) := by decide +kernel
theorem dX7_readsOn_149 : decode cX7_readsOn 149 = .ok (.ldc2_w 88, 3) := by decide +kernel
theorem dX7_readsOn_152 : decode cX7_readsOn 152 = .ok (.ldc2_w 90, 3) := by decide +kernel
theorem dX7_readsOn_155 : decode cX7_readsOn 155 = .ok (.invokestatic 54, 3) := by decide +kernel
theorem dX7_readsOn_158 : decode cX7_readsOn 158 = .ok (.ifCond .eq 59, 3) := by decide +kernel
theorem dX7_readsOn_161 : decode cX7_readsOn 161 = .ok (.aload_n 0, 1) := by decide +kernel
theorem dX7_readsOn_162 : decode cX7_readsOn 162 = .ok (.aload_n 0, 1) := by decide +kernel
theorem dX7_readsOn_163 : decode cX7_readsOn 163 = .ok (.getfield 74, 3) := by decide +kernel
theorem dX7_readsOn_166 : decode cX7_readsOn 166 = .ok (.aload_n 0, 1) := by decide +kernel
theorem dX7_readsOn_167 : decode cX7_readsOn 167 = .ok (.getfield 65, 3) := by decide +kernel
theorem dX7_readsOn_170 : decode cX7_readsOn 170 = .ok (.isub, 1) := by decide +kernel
theorem dX7_readsOn_171 : decode cX7_readsOn 171 = .ok (.iconst 4, 1) := by decide +kernel
theorem dX7_readsOn_172 : decode cX7_readsOn 172 = .ok (.if_icmp .ge 25, 3) := by decide +kernel
theorem dX7_readsOn_175 : decode cX7_readsOn 175 = .ok (.bipush 10, 2) := by decide +kernel
theorem dX7_readsOn_177 : decode cX7_readsOn 177 = .ok (.aload_n 0, 1) := by decide +kernel
theorem dX7_readsOn_178 : decode cX7_readsOn 178 = .ok (.getfield 81, 3) := by decide +kernel
theorem dX7_readsOn_181 : decode cX7_readsOn 181 = .ok (.imul, 1) := by decide +kernel
theorem dX7_readsOn_182 : decode cX7_readsOn 182 = .ok (.aload_n 0, 1) := by decide +kernel
theorem dX7_readsOn_183 : decode cX7_readsOn 183 = .ok (.aload_n 0, 1) := by decide +kernel
theorem dX7_readsOn_184 : decode cX7_readsOn 184 = .ok (.getfield 74, 3) := by decide +kernel
theorem dX7_readsOn_187 : decode cX7_readsOn 187 = .ok (.invokevirtual 77, 3) := by decide +kernel
theorem dX7_readsOn_190 : decode cX7_readsOn 190 = .ok (.iadd, 1) := by decide +kernel
theorem dX7_readsOn_191 : decode cX7_readsOn 191 = .ok (.bipush 48, 2) := by decide +kernel
theorem dX7_readsOn_193 : decode cX7_readsOn 193 = .ok (.isub, 1) := by decide +kernel
theorem dX7_readsOn_194 : decode cX7_readsOn 194 = .ok (.goto 7, 3) := by decide +kernel
theorem dX7_readsOn_197 : decode cX7_readsOn 197 = .ok (.aload_n 0, 1) := by decide +kernel
theorem dX7_readsOn_198 : decode cX7_readsOn 198 = .ok (.getfield 81, 3) := by decide +kernel
theorem dX7_readsOn_201 : decode cX7_readsOn 201 = .ok (.putfield 81, 3) := by decide +kernel
theorem dX7_readsOn_204 : decode cX7_readsOn 204 = .ok (.aload_n 0, 1) := by decide +kernel
theorem dX7_readsOn_205 : decode cX7_readsOn 205 = .ok (.dup, 1) := by decide +kernel
theorem dX7_readsOn_206 : decode cX7_readsOn 206 = .ok (.getfield 74, 3) := by decide +kernel
theorem dX7_readsOn_209 : decode cX7_readsOn 209 = .ok (.iconst 1, 1) := by decide +kernel
theorem dX7_readsOn_210 : decode cX7_readsOn 210 = .ok (.iadd, 1) := by decide +kernel
theorem dX7_readsOn_211 : decode cX7_readsOn 211 = .ok (.putfield 74, 3) := by decide +kernel
theorem dX7_readsOn_214 : decode cX7_readsOn 214 = .ok (.goto (-74), 3) := by decide +kernel
theorem dX7_readsOn_217 : decode cX7_readsOn 217 = .ok (.aload_n 0, 1) := by decide +kernel
theorem dX7_readsOn_218 : decode cX7_readsOn 218 = .ok (.iconst 2, 1) := by decide +kernel
theorem dX7_readsOn_219 : decode cX7_readsOn 219 = .ok (.putfield 71, 3) := by decide +kernel
theorem dX7_readsOn_222 : decode cX7_readsOn 222 = .ok (.aload_n 0, 1) := by decide +kernel
theorem dX7_readsOn_223 : decode cX7_readsOn 223 = .ok (.getfield 74, 3) := by decide +kernel
theorem dX7_readsOn_226 : decode cX7_readsOn 226 = .ok (.aload_n 0, 1) := by decide +kernel
theorem dX7_readsOn_227 : decode cX7_readsOn 227 = .ok (.getfield 65, 3) := by decide +kernel
theorem dX7_readsOn_230 : decode cX7_readsOn 230 = .ok (.isub, 1) := by decide +kernel
theorem dX7_readsOn_231 : decode cX7_readsOn 231 = .ok (.iconst 4, 1) := by decide +kernel
theorem dX7_readsOn_232 : decode cX7_readsOn 232 = .ok (.if_icmp .le 69, 3) := by decide +kernel
theorem dX7_readsOn_235 : decode cX7_readsOn 235 = .ok (.aload_n 0, 1) := by decide +kernel
theorem dX7_readsOn_236 : decode cX7_readsOn 236 = .ok (.iconst 1, 1) := by decide +kernel
theorem dX7_readsOn_237 : decode cX7_readsOn 237 = .ok (.invokevirtual 92, 3) := by decide +kernel
theorem dX7_readsOn_240 : decode cX7_readsOn 240 = .ok (.goto 61, 3) := by decide +kernel
theorem dX7_readsOn_243 : decode cX7_readsOn 243 = .ok (.aload_n 0, 1) := by decide +kernel
theorem dX7_readsOn_244 : decode cX7_readsOn 244 = .ok (.iload_n 1, 1) := by decide +kernel
theorem dX7_readsOn_245 : decode cX7_readsOn 245 = .ok (.bipush 45, 2) := by decide +kernel
theorem dX7_readsOn_247 : decode cX7_readsOn 247 = .ok (.if_icmp .ne 7, 3) := by decide +kernel
theorem dX7_readsOn_250 : decode cX7_readsOn 250 = .ok (.iconst 4, 1) := by decide +kernel
theorem dX7_readsOn_251 : decode cX7_readsOn 251 = .ok (.goto 14, 3) := by decide +kernel
theorem dX7_readsOn_254 : decode cX7_readsOn 254 = .ok (.iload_n 1, 1) := by decide +kernel
theorem dX7_readsOn_255 : decode cX7_readsOn 255 = .ok (.bipush 46, 2) := by decide +kernel
theorem dX7_readsOn_257 : decode cX7_readsOn 257 = .ok (.if_icmp .ne 7, 3) := by decide +kernel
theorem dX7_readsOn_260 : decode cX7_readsOn 260 = .ok (.iconst 5, 1) := by decide +kernel
theorem dX7_readsOn_261 : decode cX7_readsOn 261 = .ok (.goto 4, 3) := by decide +kernel
theorem dX7_readsOn_264 : decode cX7_readsOn 264 = .ok (.iconst 3, 1) := by decide +kernel
theorem dX7_readsOn_265 : decode cX7_readsOn 265 = .ok (.putfield 71, 3) := by decide +kernel
theorem dX7_readsOn_268 : decode cX7_readsOn 268 = .ok (.aload_n 0, 1) := by decide +kernel
theorem dX7_readsOn_269 : decode cX7_readsOn 269 = .ok (.dup, 1) := by decide +kernel
theorem dX7_readsOn_270 : decode cX7_readsOn 270 = .ok (.getfield 74, 3) := by decide +kernel
theorem dX7_readsOn_273 : decode cX7_readsOn 273 = .ok (.iconst 1, 1) := by decide +kernel
theorem dX7_readsOn_274 : decode cX7_readsOn 274 = .ok (.iadd, 1) := by decide +kernel
theorem dX7_readsOn_275 : decode cX7_readsOn 275 = .ok (.putfield 74, 3) := by decide +kernel
theorem dX7_readsOn_278 : decode cX7_readsOn 278 = .ok (.iload_n 1, 1) := by decide +kernel
theorem dX7_readsOn_279 : decode cX7_readsOn 279 = .ok (.bipush 59, 2) := by decide +kernel
theorem dX7_readsOn_281 : decode cX7_readsOn 281 = .ok (.if_icmp .eq 20, 3) := by decide +kernel
theorem dX7_readsOn_284 : decode cX7_readsOn 284 = .ok (.iload_n 1, 1) := by decide +kernel
theorem dX7_readsOn_285 : decode cX7_readsOn 285 = .ok (.bipush 45, 2) := by decide +kernel
theorem dX7_readsOn_287 : decode cX7_readsOn 287 = .ok (.if_icmp .eq 14, 3) := by decide +kernel
theorem dX7_readsOn_290 : decode cX7_readsOn 290 = .ok (.iload_n 1, 1) := by decide +kernel
theorem dX7_readsOn_291 : decode cX7_readsOn 291 = .ok (.bipush 46, 2) := by decide +kernel
theorem dX7_readsOn_293 : decode cX7_readsOn 293 = .ok (.if_icmp .eq 8, 3) := by decide +kernel
theorem dX7_readsOn_296 : decode cX7_readsOn 296 = .ok (.aload_n 0, 1) := by decide +kernel
theorem dX7_readsOn_297 : decode cX7_readsOn 297 = .ok (.iconst 1, 1) := by decide +kernel
theorem dX7_readsOn_298 : decode cX7_readsOn 298 = .ok (.invokevirtual 92, 3) := by decide +kernel
theorem dX7_readsOn_301 : decode cX7_readsOn 301 = .ok (.return_, 1) := by decide +kernel
theorem dX7_numberRead_0 : decode cX7_numberRead 0 = .ok (.aload_n 0, 1) := by decide +kernel
theorem dX7_numberRead_1 : decode cX7_numberRead 1 = .ok (.getfield 62, 3) := by decide +kernel
theorem dX7_numberRead_4 : decode cX7_numberRead 4 = .ok (.ifCond .ne 16, 3) := by decide +kernel
theorem dX7_numberRead_7 : decode cX7_numberRead 7 = .ok (.aload_n 0, 1) := by decide +kernel
theorem dX7_numberRead_8 : decode cX7_numberRead 8 = .ok (.getfield 71, 3) := by decide +kernel
theorem dX7_numberRead_11 : decode cX7_numberRead 11 = .ok (.iconst 2, 1) := by decide +kernel
theorem dX7_numberRead_12 : decode cX7_numberRead 12 = .ok (.if_icmp .eq 8, 3) := by decide +kernel
theorem dX7_numberRead_15 : decode cX7_numberRead 15 = .ok (.aload_n 0, 1) := by decide +kernel
theorem dX7_numberRead_16 : decode cX7_numberRead 16 = .ok (.iconst 2, 1) := by decide +kernel
theorem dX7_numberRead_17 : decode cX7_numberRead 17 = .ok (.invokevirtual 92, 3) := by decide +kernel
theorem dX7_numberRead_20 : decode cX7_numberRead 20 = .ok (.aload_n 0, 1) := by decide +kernel
theorem dX7_numberRead_21 : decode cX7_numberRead 21 = .ok (.getfield 62, 3) := by decide +kernel
theorem dX7_numberRead_24 : decode cX7_numberRead 24 = .ok (.ifCond .ne 23, 3) := by decide +kernel
theorem dX7_numberRead_27 : decode cX7_numberRead 27 = .ok (.aload_n 0, 1) := by decide +kernel
theorem dX7_numberRead_28 : decode cX7_numberRead 28 = .ok (.getfield 81, 3) := by decide +kernel
theorem dX7_numberRead_31 : decode cX7_numberRead 31 = .ok (.i2l, 1) := by decide +kernel
theorem dX7_numberRead_32 : decode cX7_numberRead 32 = .ok (.iload_n 1, 1) := by decide +kernel
theorem dX7_numberRead_33 : decode cX7_numberRead 33 = .ok (.i2l, 1) := by decide +kernel
theorem dX7_numberRead_34 : decode cX7_numberRead 34 = .ok (.iload_n 2, 1) := by decide +kernel
theorem dX7_numberRead_35 : decode cX7_numberRead 35 = .ok (.i2l, 1) := by decide +kernel
theorem dX7_numberRead_36 : decode cX7_numberRead 36 = .ok (.invokestatic 54, 3) := by decide +kernel
theorem dX7_numberRead_39 : decode cX7_numberRead 39 = .ok (.ifCond .ne 8, 3) := by decide +kernel
theorem dX7_numberRead_42 : decode cX7_numberRead 42 = .ok (.aload_n 0, 1) := by decide +kernel
theorem dX7_numberRead_43 : decode cX7_numberRead 43 = .ok (.iconst 3, 1) := by decide +kernel
theorem dX7_numberRead_44 : decode cX7_numberRead 44 = .ok (.invokevirtual 92, 3) := by decide +kernel
theorem dX7_numberRead_47 : decode cX7_numberRead 47 = .ok (.aload_n 0, 1) := by decide +kernel
theorem dX7_numberRead_48 : decode cX7_numberRead 48 = .ok (.getfield 62, 3) := by decide +kernel
theorem dX7_numberRead_51 : decode cX7_numberRead 51 = .ok (.ifCond .ne 10, 3) := by decide +kernel
theorem dX7_numberRead_54 : decode cX7_numberRead 54 = .ok (.aload_n 0, 1) := by decide +kernel
theorem dX7_numberRead_55 : decode cX7_numberRead 55 = .ok (.getfield 81, 3) := by decide +kernel
theorem dX7_numberRead_58 : decode cX7_numberRead 58 = .ok (.goto 4, 3) := by decide +kernel
theorem dX7_numberRead_61 : decode cX7_numberRead 61 = .ok (.iload_n 1, 1) := by decide +kernel
theorem dX7_numberRead_62 : decode cX7_numberRead 62 = .ok (.istore_n 3, 1) := by decide +kernel
theorem dX7_numberRead_63 : decode cX7_numberRead 63 = .ok (.aload_n 0, 1) := by decide +kernel
theorem dX7_numberRead_64 : decode cX7_numberRead 64 = .ok (.invokevirtual 95, 3) := by decide +kernel
theorem dX7_numberRead_67 : decode cX7_numberRead 67 = .ok (.iload_n 3, 1) := by decide +kernel
theorem dX7_numberRead_68 : decode cX7_numberRead 68 = .ok (.ireturn, 1) := by decide +kernel
theorem dX7_wordRead_0 : decode cX7_wordRead 0 = .ok (.aload_n 0, 1) := by decide +kernel
theorem dX7_wordRead_1 : decode cX7_wordRead 1 = .ok (.invokevirtual 98, 3) := by decide +kernel
theorem dX7_wordRead_4 : decode cX7_wordRead 4 = .ok (.istore_n 3, 1) := by decide +kernel
theorem dX7_wordRead_5 : decode cX7_wordRead 5 = .ok (.aload_n 0, 1) := by decide +kernel
theorem dX7_wordRead_6 : decode cX7_wordRead 6 = .ok (.getfield 62, 3) := by decide +kernel
theorem dX7_wordRead_9 : decode cX7_wordRead 9 = .ok (.ifCond .ne 24, 3) := by decide +kernel
theorem dX7_wordRead_12 : decode cX7_wordRead 12 = .ok (.iload_n 3, 1) := by decide +kernel
theorem dX7_wordRead_13 : decode cX7_wordRead 13 = .ok (.i2l, 1) := by decide +kernel
theorem dX7_wordRead_14 : decode cX7_wordRead 14 = .ok (.iload_n 1, 1) := by decide +kernel
theorem dX7_wordRead_15 : decode cX7_wordRead 15 = .ok (.i2l, 1) := by decide +kernel
theorem dX7_wordRead_16 : decode cX7_wordRead 16 = .ok (.iload_n 1, 1) := by decide +kernel
theorem dX7_wordRead_17 : decode cX7_wordRead 17 = .ok (.iload_n 2, 1) := by decide +kernel
theorem dX7_wordRead_18 : decode cX7_wordRead 18 = .ok (.iadd, 1) := by decide +kernel
theorem dX7_wordRead_19 : decode cX7_wordRead 19 = .ok (.iconst 1, 1) := by decide +kernel
theorem dX7_wordRead_20 : decode cX7_wordRead 20 = .ok (.isub, 1) := by decide +kernel
theorem dX7_wordRead_21 : decode cX7_wordRead 21 = .ok (.i2l, 1) := by decide +kernel
theorem dX7_wordRead_22 : decode cX7_wordRead 22 = .ok (.invokestatic 54, 3) := by decide +kernel
theorem dX7_wordRead_25 : decode cX7_wordRead 25 = .ok (.ifCond .ne 8, 3) := by decide +kernel
theorem dX7_wordRead_28 : decode cX7_wordRead 28 = .ok (.aload_n 0, 1) := by decide +kernel
theorem dX7_wordRead_29 : decode cX7_wordRead 29 = .ok (.iconst 2, 1) := by decide +kernel
theorem dX7_wordRead_30 : decode cX7_wordRead 30 = .ok (.invokevirtual 92, 3) := by decide +kernel
theorem dX7_wordRead_33 : decode cX7_wordRead 33 = .ok (.aload_n 0, 1) := by decide +kernel
theorem dX7_wordRead_34 : decode cX7_wordRead 34 = .ok (.invokevirtual 95, 3) := by decide +kernel
theorem dX7_wordRead_37 : decode cX7_wordRead 37 = .ok (.aload_n 0, 1) := by decide +kernel
theorem dX7_wordRead_38 : decode cX7_wordRead 38 = .ok (.getfield 62, 3) := by decide +kernel
theorem dX7_wordRead_41 : decode cX7_wordRead 41 = .ok (.ifCond .ne 9, 3) := by decide +kernel
theorem dX7_wordRead_44 : decode cX7_wordRead 44 = .ok (.iload_n 3, 1) := by decide +kernel
theorem dX7_wordRead_45 : decode cX7_wordRead 45 = .ok (.iload_n 1, 1) := by decide +kernel
theorem dX7_wordRead_46 : decode cX7_wordRead 46 = .ok (.isub, 1) := by decide +kernel
theorem dX7_wordRead_47 : decode cX7_wordRead 47 = .ok (.goto 4, 3) := by decide +kernel
theorem dX7_wordRead_50 : decode cX7_wordRead 50 = .ok (.iconst 0, 1) := by decide +kernel
theorem dX7_wordRead_51 : decode cX7_wordRead 51 = .ok (.ireturn, 1) := by decide +kernel
theorem dX7_hundredthsRead_0 : decode cX7_hundredthsRead 0 = .ok (.aload_n 0, 1) := by decide +kernel
theorem dX7_hundredthsRead_1 : decode cX7_hundredthsRead 1 = .ok (.getfield 62, 3) := by decide +kernel
theorem dX7_hundredthsRead_4 : decode cX7_hundredthsRead 4 = .ok (.ifCond .gt 11, 3) := by decide +kernel
theorem dX7_hundredthsRead_7 : decode cX7_hundredthsRead 7 = .ok (.aload_n 0, 1) := by decide +kernel
theorem dX7_hundredthsRead_8 : decode cX7_hundredthsRead 8 = .ok (.getfield 71, 3) := by decide +kernel
theorem dX7_hundredthsRead_11 : decode cX7_hundredthsRead 11 = .ok (.iconst 5, 1) := by decide +kernel
theorem dX7_hundredthsRead_12 : decode cX7_hundredthsRead 12 = .ok (.if_icmp .eq 5, 3) := by decide +kernel
theorem dX7_hundredthsRead_15 : decode cX7_hundredthsRead 15 = .ok (.iconst 0, 1) := by decide +kernel
theorem dX7_hundredthsRead_16 : decode cX7_hundredthsRead 16 = .ok (.ireturn, 1) := by decide +kernel
theorem dX7_hundredthsRead_17 : decode cX7_hundredthsRead 17 = .ok (.aload_n 0, 1) := by decide +kernel
theorem dX7_hundredthsRead_18 : decode cX7_hundredthsRead 18 = .ok (.invokevirtual 95, 3) := by decide +kernel
theorem dX7_hundredthsRead_21 : decode cX7_hundredthsRead 21 = .ok (.aload_n 0, 1) := by decide +kernel
theorem dX7_hundredthsRead_22 : decode cX7_hundredthsRead 22 = .ok (.getfield 62, 3) := by decide +kernel
theorem dX7_hundredthsRead_25 : decode cX7_hundredthsRead 25 = .ok (.ifCond .ne 16, 3) := by decide +kernel
theorem dX7_hundredthsRead_28 : decode cX7_hundredthsRead 28 = .ok (.aload_n 0, 1) := by decide +kernel
theorem dX7_hundredthsRead_29 : decode cX7_hundredthsRead 29 = .ok (.getfield 71, 3) := by decide +kernel
theorem dX7_hundredthsRead_32 : decode cX7_hundredthsRead 32 = .ok (.iconst 2, 1) := by decide +kernel
theorem dX7_hundredthsRead_33 : decode cX7_hundredthsRead 33 = .ok (.if_icmp .eq 8, 3) := by decide +kernel
theorem dX7_hundredthsRead_36 : decode cX7_hundredthsRead 36 = .ok (.aload_n 0, 1) := by decide +kernel
theorem dX7_hundredthsRead_37 : decode cX7_hundredthsRead 37 = .ok (.iconst 2, 1) := by decide +kernel
theorem dX7_hundredthsRead_38 : decode cX7_hundredthsRead 38 = .ok (.invokevirtual 92, 3) := by decide +kernel
theorem dX7_hundredthsRead_41 : decode cX7_hundredthsRead 41 = .ok (.aload_n 0, 1) := by decide +kernel
theorem dX7_hundredthsRead_42 : decode cX7_hundredthsRead 42 = .ok (.getfield 74, 3) := by decide +kernel
theorem dX7_hundredthsRead_45 : decode cX7_hundredthsRead 45 = .ok (.aload_n 0, 1) := by decide +kernel
theorem dX7_hundredthsRead_46 : decode cX7_hundredthsRead 46 = .ok (.getfield 65, 3) := by decide +kernel
theorem dX7_hundredthsRead_49 : decode cX7_hundredthsRead 49 = .ok (.isub, 1) := by decide +kernel
theorem dX7_hundredthsRead_50 : decode cX7_hundredthsRead 50 = .ok (.istore_n 1, 1) := by decide +kernel
theorem dX7_hundredthsRead_51 : decode cX7_hundredthsRead 51 = .ok (.aload_n 0, 1) := by decide +kernel
theorem dX7_hundredthsRead_52 : decode cX7_hundredthsRead 52 = .ok (.getfield 62, 3) := by decide +kernel
theorem dX7_hundredthsRead_55 : decode cX7_hundredthsRead 55 = .ok (.ifCond .ne 13, 3) := by decide +kernel
theorem dX7_hundredthsRead_58 : decode cX7_hundredthsRead 58 = .ok (.iload_n 1, 1) := by decide +kernel
theorem dX7_hundredthsRead_59 : decode cX7_hundredthsRead 59 = .ok (.iconst 2, 1) := by decide +kernel
theorem dX7_hundredthsRead_60 : decode cX7_hundredthsRead 60 = .ok (.if_icmp .le 8, 3) := by decide +kernel
theorem dX7_hundredthsRead_63 : decode cX7_hundredthsRead 63 = .ok (.aload_n 0, 1) := by decide +kernel
theorem dX7_hundredthsRead_64 : decode cX7_hundredthsRead 64 = .ok (.iconst 3, 1) := by decide +kernel
theorem dX7_hundredthsRead_65 : decode cX7_hundredthsRead 65 = .ok (.invokevirtual 92, 3) := by decide +kernel
theorem dX7_hundredthsRead_68 : decode cX7_hundredthsRead 68 = .ok (.iload_n 1, 1) := by decide +kernel
theorem dX7_hundredthsRead_69 : decode cX7_hundredthsRead 69 = .ok (.iconst 1, 1) := by decide +kernel
theorem dX7_hundredthsRead_70 : decode cX7_hundredthsRead 70 = .ok (.if_icmp .ne 13, 3) := by decide +kernel
theorem dX7_hundredthsRead_73 : decode cX7_hundredthsRead 73 = .ok (.bipush 10, 2) := by decide +kernel
theorem dX7_hundredthsRead_75 : decode cX7_hundredthsRead 75 = .ok (.aload_n 0, 1) := by decide +kernel
theorem dX7_hundredthsRead_76 : decode cX7_hundredthsRead 76 = .ok (.getfield 81, 3) := by decide +kernel
theorem dX7_hundredthsRead_79 : decode cX7_hundredthsRead 79 = .ok (.imul, 1) := by decide +kernel
theorem dX7_hundredthsRead_80 : decode cX7_hundredthsRead 80 = .ok (.goto 7, 3) := by decide +kernel
theorem dX7_hundredthsRead_83 : decode cX7_hundredthsRead 83 = .ok (.aload_n 0, 1) := by decide +kernel
theorem dX7_hundredthsRead_84 : decode cX7_hundredthsRead 84 = .ok (.getfield 81, 3) := by decide +kernel
theorem dX7_hundredthsRead_87 : decode cX7_hundredthsRead 87 = .ok (.istore_n 2, 1) := by decide +kernel
theorem dX7_hundredthsRead_88 : decode cX7_hundredthsRead 88 = .ok (.aload_n 0, 1) := by decide +kernel
theorem dX7_hundredthsRead_89 : decode cX7_hundredthsRead 89 = .ok (.invokevirtual 95, 3) := by decide +kernel
theorem dX7_hundredthsRead_92 : decode cX7_hundredthsRead 92 = .ok (.aload_n 0, 1) := by decide +kernel
theorem dX7_hundredthsRead_93 : decode cX7_hundredthsRead 93 = .ok (.getfield 62, 3) := by decide +kernel
theorem dX7_hundredthsRead_96 : decode cX7_hundredthsRead 96 = .ok (.ifCond .ne 7, 3) := by decide +kernel
theorem dX7_hundredthsRead_99 : decode cX7_hundredthsRead 99 = .ok (.iload_n 2, 1) := by decide +kernel
theorem dX7_hundredthsRead_100 : decode cX7_hundredthsRead 100 = .ok (.goto 4, 3) := by decide +kernel
theorem dX7_hundredthsRead_103 : decode cX7_hundredthsRead 103 = .ok (.iconst 0, 1) := by decide +kernel
theorem dX7_hundredthsRead_104 : decode cX7_hundredthsRead 104 = .ok (.ireturn, 1) := by decide +kernel
theorem dX7_isReadingHere_0 : decode cX7_isReadingHere 0 = .ok (.aload_n 0, 1) := by decide +kernel
theorem dX7_isReadingHere_1 : decode cX7_isReadingHere 1 = .ok (.getfield 71, 3) := by decide +kernel
theorem dX7_isReadingHere_4 : decode cX7_isReadingHere 4 = .ok (.iconst 2, 1) := by decide +kernel
theorem dX7_isReadingHere_5 : decode cX7_isReadingHere 5 = .ok (.if_icmp .eq 20, 3) := by decide +kernel
theorem dX7_isReadingHere_8 : decode cX7_isReadingHere 8 = .ok (.aload_n 0, 1) := by decide +kernel
theorem dX7_isReadingHere_9 : decode cX7_isReadingHere 9 = .ok (.getfield 71, 3) := by decide +kernel
theorem dX7_isReadingHere_12 : decode cX7_isReadingHere 12 = .ok (.iconst 4, 1) := by decide +kernel
theorem dX7_isReadingHere_13 : decode cX7_isReadingHere 13 = .ok (.if_icmp .eq 12, 3) := by decide +kernel
theorem dX7_isReadingHere_16 : decode cX7_isReadingHere 16 = .ok (.aload_n 0, 1) := by decide +kernel
theorem dX7_isReadingHere_17 : decode cX7_isReadingHere 17 = .ok (.invokevirtual 98, 3) := by decide +kernel
theorem dX7_isReadingHere_20 : decode cX7_isReadingHere 20 = .ok (.bipush 14, 2) := by decide +kernel
theorem dX7_isReadingHere_22 : decode cX7_isReadingHere 22 = .ok (.if_icmp .ne 7, 3) := by decide +kernel
theorem dX7_isReadingHere_25 : decode cX7_isReadingHere 25 = .ok (.iconst 1, 1) := by decide +kernel
theorem dX7_isReadingHere_26 : decode cX7_isReadingHere 26 = .ok (.goto 4, 3) := by decide +kernel
theorem dX7_isReadingHere_29 : decode cX7_isReadingHere 29 = .ok (.iconst 0, 1) := by decide +kernel
theorem dX7_isReadingHere_30 : decode cX7_isReadingHere 30 = .ok (.ireturn, 1) := by decide +kernel
theorem dX7_readReading_0 : decode cX7_readReading 0 = .ok (.aload_n 0, 1) := by decide +kernel
theorem dX7_readReading_1 : decode cX7_readReading 1 = .ok (.getfield 62, 3) := by decide +kernel
theorem dX7_readReading_4 : decode cX7_readReading 4 = .ok (.ifCond .ne 15, 3) := by decide +kernel
theorem dX7_readReading_7 : decode cX7_readReading 7 = .ok (.aload_n 0, 1) := by decide +kernel
theorem dX7_readReading_8 : decode cX7_readReading 8 = .ok (.invokevirtual 102, 3) := by decide +kernel
theorem dX7_readReading_11 : decode cX7_readReading 11 = .ok (.ifCond .ne 8, 3) := by decide +kernel
theorem dX7_readReading_14 : decode cX7_readReading 14 = .ok (.aload_n 0, 1) := by decide +kernel
theorem dX7_readReading_15 : decode cX7_readReading 15 = .ok (.iconst 2, 1) := by decide +kernel
theorem dX7_readReading_16 : decode cX7_readReading 16 = .ok (.invokevirtual 92, 3) := by decide +kernel
theorem dX7_readReading_19 : decode cX7_readReading 19 = .ok (.aload_n 0, 1) := by decide +kernel
theorem dX7_readReading_20 : decode cX7_readReading 20 = .ok (.getfield 7, 3) := by decide +kernel
theorem dX7_readReading_23 : decode cX7_readReading 23 = .ok (.sipush 411, 3) := by decide +kernel
theorem dX7_readReading_26 : decode cX7_readReading 26 = .ok (.iaload, 1) := by decide +kernel
theorem dX7_readReading_27 : decode cX7_readReading 27 = .ok (.istore_n 1, 1) := by decide +kernel
theorem dX7_readReading_28 : decode cX7_readReading 28 = .ok (.aload_n 0, 1) := by decide +kernel
theorem dX7_readReading_29 : decode cX7_readReading 29 = .ok (.getfield 62, 3) := by decide +kernel
theorem dX7_readReading_32 : decode cX7_readReading 32 = .ok (.ifCond .ne 14, 3) := by decide +kernel
theorem dX7_readReading_35 : decode cX7_readReading 35 = .ok (.iload_n 1, 1) := by decide +kernel
theorem dX7_readReading_36 : decode cX7_readReading 36 = .ok (.bipush 96, 2) := by decide +kernel
theorem dX7_readReading_38 : decode cX7_readReading 38 = .ok (.if_icmp .ne 8, 3) := by decide +kernel
theorem dX7_readReading_41 : decode cX7_readReading 41 = .ok (.aload_n 0, 1) := by decide +kernel
theorem dX7_readReading_42 : decode cX7_readReading 42 = .ok (.iconst 5, 1) := by decide +kernel
theorem dX7_readReading_43 : decode cX7_readReading 43 = .ok (.invokevirtual 92, 3) := by decide +kernel
theorem dX7_readReading_46 : decode cX7_readReading 46 = .ok (.aload_n 0, 1) := by decide +kernel
theorem dX7_readReading_47 : decode cX7_readReading 47 = .ok (.getfield 62, 3) := by decide +kernel
theorem dX7_readReading_50 : decode cX7_readReading 50 = .ok (.ifCond .le 4, 3) := by decide +kernel
theorem dX7_readReading_53 : decode cX7_readReading 53 = .ok (.return_, 1) := by decide +kernel
theorem dX7_readReading_54 : decode cX7_readReading 54 = .ok (.ldc 106, 2) := by decide +kernel
theorem dX7_readReading_56 : decode cX7_readReading 56 = .ok (.istore_n 2, 1) := by decide +kernel
theorem dX7_readReading_57 : decode cX7_readReading 57 = .ok (.aload_n 0, 1) := by decide +kernel
theorem dX7_readReading_58 : decode cX7_readReading 58 = .ok (.getfield 71, 3) := by decide +kernel
theorem dX7_readReading_61 : decode cX7_readReading 61 = .ok (.iconst 1, 1) := by decide +kernel
theorem dX7_readReading_62 : decode cX7_readReading 62 = .ok (.if_icmp .ne 10, 3) := by decide +kernel
theorem dX7_readReading_65 : decode cX7_readReading 65 = .ok (.aload_n 0, 1) := by decide +kernel
theorem dX7_readReading_66 : decode cX7_readReading 66 = .ok (.invokevirtual 95, 3) := by decide +kernel
theorem dX7_readReading_69 : decode cX7_readReading 69 = .ok (.goto 55, 3) := by decide +kernel
theorem dX7_readReading_72 : decode cX7_readReading 72 = .ok (.aload_n 0, 1) := by decide +kernel
theorem dX7_readReading_73 : decode cX7_readReading 73 = .ok (.getfield 71, 3) := by decide +kernel
theorem dX7_readReading_76 : decode cX7_readReading 76 = .ok (.iconst 4, 1) := by decide +kernel
theorem dX7_readReading_77 : decode cX7_readReading 77 = .ok (.if_icmp .ne 7, 3) := by decide +kernel
theorem dX7_readReading_80 : decode cX7_readReading 80 = .ok (.iconst 1, 1) := by decide +kernel
theorem dX7_readReading_81 : decode cX7_readReading 81 = .ok (.goto 4, 3) := by decide +kernel
theorem dX7_readReading_84 : decode cX7_readReading 84 = .ok (.iconst 0, 1) := by decide +kernel
theorem dX7_readReading_85 : decode cX7_readReading 85 = .ok (.istore_n 3, 1) := by decide +kernel
theorem dX7_readReading_86 : decode cX7_readReading 86 = .ok (.iload_n 3, 1) := by decide +kernel
theorem dX7_readReading_87 : decode cX7_readReading 87 = .ok (.ifCond .eq 7, 3) := by decide +kernel
theorem dX7_readReading_90 : decode cX7_readReading 90 = .ok (.aload_n 0, 1) := by decide +kernel
theorem dX7_readReading_91 : decode cX7_readReading 91 = .ok (.invokevirtual 95, 3) := by decide +kernel
theorem dX7_readReading_94 : decode cX7_readReading 94 = .ok (.bipush 100, 2) := by decide +kernel
theorem dX7_readReading_96 : decode cX7_readReading 96 = .ok (.aload_n 0, 1) := by decide +kernel
theorem dX7_readReading_97 : decode cX7_readReading 97 = .ok (.iconst 0, 1) := by decide +kernel
theorem dX7_readReading_98 : decode cX7_readReading 98 = .ok (.sipush 9999, 3) := by decide +kernel
theorem dX7_readReading_101 : decode cX7_readReading 101 = .ok (.invokevirtual 107, 3) := by decide +kernel
theorem dX7_readReading_104 : decode cX7_readReading 104 = .ok (.imul, 1) := by decide +kernel
theorem dX7_readReading_105 : decode cX7_readReading 105 = .ok (.istore_n 2, 1) := by decide +kernel
theorem dX7_readReading_106 : decode cX7_readReading 106 = .ok (.iload_n 2, 1) := by decide +kernel
theorem dX7_readReading_107 : decode cX7_readReading 107 = .ok (.aload_n 0, 1) := by decide +kernel
theorem dX7_readReading_108 : decode cX7_readReading 108 = .ok (.invokevirtual 111, 3) := by decide +kernel
theorem dX7_readReading_111 : decode cX7_readReading 111 = .ok (.iadd, 1) := by decide +kernel
theorem dX7_readReading_112 : decode cX7_readReading 112 = .ok (.istore_n 2, 1) := by decide +kernel
theorem dX7_readReading_113 : decode cX7_readReading 113 = .ok (.iload_n 3, 1) := by decide +kernel
theorem dX7_readReading_114 : decode cX7_readReading 114 = .ok (.ifCond .eq 8, 3) := by decide +kernel
theorem dX7_readReading_117 : decode cX7_readReading 117 = .ok (.iload_n 2, 1) := by decide +kernel
theorem dX7_readReading_118 : decode cX7_readReading 118 = .ok (.ineg, 1) := by decide +kernel
theorem dX7_readReading_119 : decode cX7_readReading 119 = .ok (.goto 4, 3) := by decide +kernel
theorem dX7_readReading_122 : decode cX7_readReading 122 = .ok (.iload_n 2, 1) := by decide +kernel
theorem dX7_readReading_123 : decode cX7_readReading 123 = .ok (.istore_n 2, 1) := by decide +kernel
theorem dX7_readReading_124 : decode cX7_readReading 124 = .ok (.aload_n 0, 1) := by decide +kernel
theorem dX7_readReading_125 : decode cX7_readReading 125 = .ok (.getfield 7, 3) := by decide +kernel
theorem dX7_readReading_128 : decode cX7_readReading 128 = .ok (.sipush 309, 3) := by decide +kernel
theorem dX7_readReading_131 : decode cX7_readReading 131 = .ok (.iload_n 1, 1) := by decide +kernel
theorem dX7_readReading_132 : decode cX7_readReading 132 = .ok (.iadd, 1) := by decide +kernel
theorem dX7_readReading_133 : decode cX7_readReading 133 = .ok (.iload_n 2, 1) := by decide +kernel
theorem dX7_readReading_134 : decode cX7_readReading 134 = .ok (.iastore, 1) := by decide +kernel
theorem dX7_readReading_135 : decode cX7_readReading 135 = .ok (.aload_n 0, 1) := by decide +kernel
theorem dX7_readReading_136 : decode cX7_readReading 136 = .ok (.getfield 7, 3) := by decide +kernel
theorem dX7_readReading_139 : decode cX7_readReading 139 = .ok (.sipush 411, 3) := by decide +kernel
theorem dX7_readReading_142 : decode cX7_readReading 142 = .ok (.dup2, 1) := by decide +kernel
theorem dX7_readReading_143 : decode cX7_readReading 143 = .ok (.iaload, 1) := by decide +kernel
theorem dX7_readReading_144 : decode cX7_readReading 144 = .ok (.iconst 1, 1) := by decide +kernel
theorem dX7_readReading_145 : decode cX7_readReading 145 = .ok (.iadd, 1) := by decide +kernel
theorem dX7_readReading_146 : decode cX7_readReading 146 = .ok (.iastore, 1) := by decide +kernel
theorem dX7_readReading_147 : decode cX7_readReading 147 = .ok (.return_, 1) := by decide +kernel
theorem dX7_readPut_0 : decode cX7_readPut 0 = .ok (.aload_n 0, 1) := by decide +kernel
theorem dX7_readPut_1 : decode cX7_readPut 1 = .ok (.invokevirtual 114, 3) := by decide +kernel
theorem dX7_readPut_4 : decode cX7_readPut 4 = .ok (.aload_n 0, 1) := by decide +kernel
theorem dX7_readPut_5 : decode cX7_readPut 5 = .ok (.getfield 62, 3) := by decide +kernel
theorem dX7_readPut_8 : decode cX7_readPut 8 = .ok (.ifCond .ne 17, 3) := by decide +kernel
theorem dX7_readPut_11 : decode cX7_readPut 11 = .ok (.aload_n 0, 1) := by decide +kernel
theorem dX7_readPut_12 : decode cX7_readPut 12 = .ok (.invokevirtual 102, 3) := by decide +kernel
theorem dX7_readPut_15 : decode cX7_readPut 15 = .ok (.ifCond .eq 10, 3) := by decide +kernel
theorem dX7_readPut_18 : decode cX7_readPut 18 = .ok (.aload_n 0, 1) := by decide +kernel
theorem dX7_readPut_19 : decode cX7_readPut 19 = .ok (.invokevirtual 114, 3) := by decide +kernel
theorem dX7_readPut_22 : decode cX7_readPut 22 = .ok (.goto (-18), 3) := by decide +kernel
theorem dX7_readPut_25 : decode cX7_readPut 25 = .ok (.return_, 1) := by decide +kernel
theorem dX7_readLine_0 : decode cX7_readLine 0 = .ok (.aload_n 0, 1) := by decide +kernel
theorem dX7_readLine_1 : decode cX7_readLine 1 = .ok (.invokevirtual 98, 3) := by decide +kernel
theorem dX7_readLine_4 : decode cX7_readLine 4 = .ok (.istore_n 1, 1) := by decide +kernel
theorem dX7_readLine_5 : decode cX7_readLine 5 = .ok (.iload_n 1, 1) := by decide +kernel
theorem dX7_readLine_6 : decode cX7_readLine 6 = .ok (.i2l, 1) := by decide +kernel
theorem dX7_readLine_7 : decode cX7_readLine 7 = .ok (.lconst 0, 1) := by decide +kernel
theorem dX7_readLine_8 : decode cX7_readLine 8 = .ok (.ldc2_w 117, 3) := by decide +kernel
theorem dX7_readLine_11 : decode cX7_readLine 11 = .ok (.invokestatic 54, 3) := by decide +kernel
theorem dX7_readLine_14 : decode cX7_readLine 14 = .ok (.ifCond .ne 9, 3) := by decide +kernel
theorem dX7_readLine_17 : decode cX7_readLine 17 = .ok (.aload_n 0, 1) := by decide +kernel
theorem dX7_readLine_18 : decode cX7_readLine 18 = .ok (.iconst 2, 1) := by decide +kernel
theorem dX7_readLine_19 : decode cX7_readLine 19 = .ok (.invokevirtual 92, 3) := by decide +kernel
theorem dX7_readLine_22 : decode cX7_readLine 22 = .ok (.return_, 1) := by decide +kernel
theorem dX7_readLine_23 : decode cX7_readLine 23 = .ok (.iload_n 1, 1) := by decide +kernel
theorem dX7_readLine_24 : decode cX7_readLine 24 = .ok (.iconst 5, 1) := by decide +kernel
theorem dX7_readLine_25 : decode cX7_readLine 25 = .ok (.if_icmp .ge 20, 3) := by decide +kernel
theorem dX7_readLine_28 : decode cX7_readLine 28 = .ok (.aload_n 0, 1) := by decide +kernel
theorem dX7_readLine_29 : decode cX7_readLine 29 = .ok (.getfield 119, 3) := by decide +kernel
theorem dX7_readLine_32 : decode cX7_readLine 32 = .ok (.iload_n 1, 1) := by decide +kernel
theorem dX7_readLine_33 : decode cX7_readLine 33 = .ok (.ishr, 1) := by decide +kernel
theorem dX7_readLine_34 : decode cX7_readLine 34 = .ok (.iconst 1, 1) := by decide +kernel
theorem dX7_readLine_35 : decode cX7_readLine 35 = .ok (.iand, 1) := by decide +kernel
theorem dX7_readLine_36 : decode cX7_readLine 36 = .ok (.iconst 1, 1) := by decide +kernel
theorem dX7_readLine_37 : decode cX7_readLine 37 = .ok (.if_icmp .ne 8, 3) := by decide +kernel
theorem dX7_readLine_40 : decode cX7_readLine 40 = .ok (.aload_n 0, 1) := by decide +kernel
theorem dX7_readLine_41 : decode cX7_readLine 41 = .ok (.iconst 4, 1) := by decide +kernel
theorem dX7_readLine_42 : decode cX7_readLine 42 = .ok (.invokevirtual 92, 3) := by decide +kernel
theorem dX7_readLine_45 : decode cX7_readLine 45 = .ok (.aload_n 0, 1) := by decide +kernel
theorem dX7_readLine_46 : decode cX7_readLine 46 = .ok (.dup, 1) := by decide +kernel
theorem dX7_readLine_47 : decode cX7_readLine 47 = .ok (.getfield 119, 3) := by decide +kernel
theorem dX7_readLine_50 : decode cX7_readLine 50 = .ok (.iconst 1, 1) := by decide +kernel
theorem dX7_readLine_51 : decode cX7_readLine 51 = .ok (.iload_n 1, 1) := by decide +kernel
theorem dX7_readLine_52 : decode cX7_readLine 52 = .ok (.ishl, 1) := by decide +kernel
theorem dX7_readLine_53 : decode cX7_readLine 53 = .ok (.ior, 1) := by decide +kernel
theorem dX7_readLine_54 : decode cX7_readLine 54 = .ok (.putfield 119, 3) := by decide +kernel
theorem dX7_readLine_57 : decode cX7_readLine 57 = .ok (.aload_n 0, 1) := by decide +kernel
theorem dX7_readLine_58 : decode cX7_readLine 58 = .ok (.invokevirtual 95, 3) := by decide +kernel
theorem dX7_readLine_61 : decode cX7_readLine 61 = .ok (.iload_n 1, 1) := by decide +kernel
theorem dX7_readLine_62 : decode cX7_readLine 62 = .ok (.tableswitch 162 0 4 #[34, 52, 70, 126, 144], 34) := by decide +kernel
theorem dX7_readLine_96 : decode cX7_readLine 96 = .ok (.aload_n 0, 1) := by decide +kernel
theorem dX7_readLine_97 : decode cX7_readLine 97 = .ok (.getfield 7, 3) := by decide +kernel
theorem dX7_readLine_100 : decode cX7_readLine 100 = .ok (.sipush 405, 3) := by decide +kernel
theorem dX7_readLine_103 : decode cX7_readLine 103 = .ok (.aload_n 0, 1) := by decide +kernel
theorem dX7_readLine_104 : decode cX7_readLine 104 = .ok (.iconst 1, 1) := by decide +kernel
theorem dX7_readLine_105 : decode cX7_readLine 105 = .ok (.bipush 24, 2) := by decide +kernel
theorem dX7_readLine_107 : decode cX7_readLine 107 = .ok (.invokevirtual 107, 3) := by decide +kernel
theorem dX7_readLine_110 : decode cX7_readLine 110 = .ok (.iastore, 1) := by decide +kernel
theorem dX7_readLine_111 : decode cX7_readLine 111 = .ok (.goto 117, 3) := by decide +kernel
theorem dX7_readLine_114 : decode cX7_readLine 114 = .ok (.aload_n 0, 1) := by decide +kernel
theorem dX7_readLine_115 : decode cX7_readLine 115 = .ok (.getfield 7, 3) := by decide +kernel
theorem dX7_readLine_118 : decode cX7_readLine 118 = .ok (.sipush 406, 3) := by decide +kernel
theorem dX7_readLine_121 : decode cX7_readLine 121 = .ok (.aload_n 0, 1) := by decide +kernel
theorem dX7_readLine_122 : decode cX7_readLine 122 = .ok (.iconst 1, 1) := by decide +kernel
theorem dX7_readLine_123 : decode cX7_readLine 123 = .ok (.bipush 24, 2) := by decide +kernel
theorem dX7_readLine_125 : decode cX7_readLine 125 = .ok (.invokevirtual 107, 3) := by decide +kernel
theorem dX7_readLine_128 : decode cX7_readLine 128 = .ok (.iastore, 1) := by decide +kernel
theorem dX7_readLine_129 : decode cX7_readLine 129 = .ok (.goto 99, 3) := by decide +kernel
theorem dX7_readLine_132 : decode cX7_readLine 132 = .ok (.aload_n 0, 1) := by decide +kernel
theorem dX7_readLine_133 : decode cX7_readLine 133 = .ok (.getfield 7, 3) := by decide +kernel
theorem dX7_readLine_136 : decode cX7_readLine 136 = .ok (.sipush 407, 3) := by decide +kernel
theorem dX7_readLine_139 : decode cX7_readLine 139 = .ok (.aload_n 0, 1) := by decide +kernel
theorem dX7_readLine_140 : decode cX7_readLine 140 = .ok (.iconst 0, 1) := by decide +kernel
theorem dX7_readLine_141 : decode cX7_readLine 141 = .ok (.bipush 100, 2) := by decide +kernel
theorem dX7_readLine_143 : decode cX7_readLine 143 = .ok (.invokevirtual 107, 3) := by decide +kernel
theorem dX7_readLine_146 : decode cX7_readLine 146 = .ok (.iastore, 1) := by decide +kernel
theorem dX7_readLine_147 : decode cX7_readLine 147 = .ok (.aload_n 0, 1) := by decide +kernel
theorem dX7_readLine_148 : decode cX7_readLine 148 = .ok (.getfield 7, 3) := by decide +kernel
theorem dX7_readLine_151 : decode cX7_readLine 151 = .ok (.sipush 408, 3) := by decide +kernel
theorem dX7_readLine_154 : decode cX7_readLine 154 = .ok (.aload_n 0, 1) := by decide +kernel
theorem dX7_readLine_155 : decode cX7_readLine 155 = .ok (.aload_n 0, 1) := by decide +kernel
theorem dX7_readLine_156 : decode cX7_readLine 156 = .ok (.getfield 7, 3) := by decide +kernel
theorem dX7_readLine_159 : decode cX7_readLine 159 = .ok (.sipush 407, 3) := by decide +kernel
theorem dX7_readLine_162 : decode cX7_readLine 162 = .ok (.iaload, 1) := by decide +kernel
theorem dX7_readLine_163 : decode cX7_readLine 163 = .ok (.iconst 1, 1) := by decide +kernel
theorem dX7_readLine_164 : decode cX7_readLine 164 = .ok (.if_icmp .le 14, 3) := by decide +kernel
theorem dX7_readLine_167 : decode cX7_readLine 167 = .ok (.aload_n 0, 1) := by decide +kernel
theorem dX7_readLine_168 : decode cX7_readLine 168 = .ok (.getfield 7, 3) := by decide +kernel
theorem dX7_readLine_171 : decode cX7_readLine 171 = .ok (.sipush 407, 3) := by decide +kernel
theorem dX7_readLine_174 : decode cX7_readLine 174 = .ok (.iaload, 1) := by decide +kernel
theorem dX7_readLine_175 : decode cX7_readLine 175 = .ok (.goto 4, 3) := by decide +kernel
theorem dX7_readLine_178 : decode cX7_readLine 178 = .ok (.iconst 1, 1) := by decide +kernel
theorem dX7_readLine_179 : decode cX7_readLine 179 = .ok (.bipush 100, 2) := by decide +kernel
theorem dX7_readLine_181 : decode cX7_readLine 181 = .ok (.invokevirtual 107, 3) := by decide +kernel
theorem dX7_readLine_184 : decode cX7_readLine 184 = .ok (.iastore, 1) := by decide +kernel
theorem dX7_readLine_185 : decode cX7_readLine 185 = .ok (.goto 43, 3) := by decide +kernel
theorem dX7_readLine_188 : decode cX7_readLine 188 = .ok (.aload_n 0, 1) := by decide +kernel
theorem dX7_readLine_189 : decode cX7_readLine 189 = .ok (.getfield 7, 3) := by decide +kernel
theorem dX7_readLine_192 : decode cX7_readLine 192 = .ok (.sipush 409, 3) := by decide +kernel
theorem dX7_readLine_195 : decode cX7_readLine 195 = .ok (.aload_n 0, 1) := by decide +kernel
theorem dX7_readLine_196 : decode cX7_readLine 196 = .ok (.bipush 6, 2) := by decide +kernel
theorem dX7_readLine_198 : decode cX7_readLine 198 = .ok (.iconst 5, 1) := by decide +kernel
theorem dX7_readLine_199 : decode cX7_readLine 199 = .ok (.invokevirtual 122, 3) := by decide +kernel
theorem dX7_readLine_202 : decode cX7_readLine 202 = .ok (.iastore, 1) := by decide +kernel
theorem dX7_readLine_203 : decode cX7_readLine 203 = .ok (.goto 25, 3) := by decide +kernel
theorem dX7_readLine_206 : decode cX7_readLine 206 = .ok (.aload_n 0, 1) := by decide +kernel
theorem dX7_readLine_207 : decode cX7_readLine 207 = .ok (.getfield 7, 3) := by decide +kernel
theorem dX7_readLine_210 : decode cX7_readLine 210 = .ok (.sipush 410, 3) := by decide +kernel
theorem dX7_readLine_213 : decode cX7_readLine 213 = .ok (.aload_n 0, 1) := by decide +kernel
theorem dX7_readLine_214 : decode cX7_readLine 214 = .ok (.bipush 11, 2) := by decide +kernel
theorem dX7_readLine_216 : decode cX7_readLine 216 = .ok (.iconst 3, 1) := by decide +kernel
theorem dX7_readLine_217 : decode cX7_readLine 217 = .ok (.invokevirtual 122, 3) := by decide +kernel
theorem dX7_readLine_220 : decode cX7_readLine 220 = .ok (.iastore, 1) := by decide +kernel
theorem dX7_readLine_221 : decode cX7_readLine 221 = .ok (.goto 7, 3) := by decide +kernel
theorem dX7_readLine_224 : decode cX7_readLine 224 = .ok (.aload_n 0, 1) := by decide +kernel
theorem dX7_readLine_225 : decode cX7_readLine 225 = .ok (.invokevirtual 125, 3) := by decide +kernel
theorem dX7_readLine_228 : decode cX7_readLine 228 = .ok (.aload_n 0, 1) := by decide +kernel
theorem dX7_readLine_229 : decode cX7_readLine 229 = .ok (.getfield 62, 3) := by decide +kernel
theorem dX7_readLine_232 : decode cX7_readLine 232 = .ok (.ifCond .ne 16, 3) := by decide +kernel
theorem dX7_readLine_235 : decode cX7_readLine 235 = .ok (.aload_n 0, 1) := by decide +kernel
theorem dX7_readLine_236 : decode cX7_readLine 236 = .ok (.getfield 71, 3) := by decide +kernel
theorem dX7_readLine_239 : decode cX7_readLine 239 = .ok (.iconst 3, 1) := by decide +kernel
theorem dX7_readLine_240 : decode cX7_readLine 240 = .ok (.if_icmp .eq 8, 3) := by decide +kernel
theorem dX7_readLine_243 : decode cX7_readLine 243 = .ok (.aload_n 0, 1) := by decide +kernel
theorem dX7_readLine_244 : decode cX7_readLine 244 = .ok (.iconst 2, 1) := by decide +kernel
theorem dX7_readLine_245 : decode cX7_readLine 245 = .ok (.invokevirtual 92, 3) := by decide +kernel
theorem dX7_readLine_248 : decode cX7_readLine 248 = .ok (.aload_n 0, 1) := by decide +kernel
theorem dX7_readLine_249 : decode cX7_readLine 249 = .ok (.invokevirtual 95, 3) := by decide +kernel
theorem dX7_readLine_252 : decode cX7_readLine 252 = .ok (.return_, 1) := by decide +kernel
theorem dX7_text_0 : decode cX7_text 0 = .ok (.aload_n 0, 1) := by decide +kernel
theorem dX7_text_1 : decode cX7_text 1 = .ok (.invokevirtual 128, 3) := by decide +kernel
theorem dX7_text_4 : decode cX7_text 4 = .ok (.aload_n 0, 1) := by decide +kernel
theorem dX7_text_5 : decode cX7_text 5 = .ok (.iconst 0, 1) := by decide +kernel
theorem dX7_text_6 : decode cX7_text 6 = .ok (.putfield 62, 3) := by decide +kernel
theorem dX7_text_9 : decode cX7_text 9 = .ok (.aload_n 0, 1) := by decide +kernel
theorem dX7_text_10 : decode cX7_text 10 = .ok (.iconst 0, 1) := by decide +kernel
theorem dX7_text_11 : decode cX7_text 11 = .ok (.putfield 74, 3) := by decide +kernel
theorem dX7_text_14 : decode cX7_text 14 = .ok (.aload_n 0, 1) := by decide +kernel
theorem dX7_text_15 : decode cX7_text 15 = .ok (.iconst 0, 1) := by decide +kernel
theorem dX7_text_16 : decode cX7_text 16 = .ok (.putfield 119, 3) := by decide +kernel
theorem dX7_text_19 : decode cX7_text 19 = .ok (.aload_n 0, 1) := by decide +kernel
theorem dX7_text_20 : decode cX7_text 20 = .ok (.sipush 309, 3) := by decide +kernel
theorem dX7_text_23 : decode cX7_text 23 = .ok (.invokevirtual 48, 3) := by decide +kernel
theorem dX7_text_26 : decode cX7_text 26 = .ok (.aload_n 0, 1) := by decide +kernel
theorem dX7_text_27 : decode cX7_text 27 = .ok (.invokevirtual 95, 3) := by decide +kernel
theorem dX7_text_30 : decode cX7_text 30 = .ok (.aload_n 0, 1) := by decide +kernel
theorem dX7_text_31 : decode cX7_text 31 = .ok (.getfield 62, 3) := by decide +kernel
theorem dX7_text_34 : decode cX7_text 34 = .ok (.ifCond .ne 17, 3) := by decide +kernel
theorem dX7_text_37 : decode cX7_text 37 = .ok (.aload_n 0, 1) := by decide +kernel
theorem dX7_text_38 : decode cX7_text 38 = .ok (.getfield 71, 3) := by decide +kernel
theorem dX7_text_41 : decode cX7_text 41 = .ok (.ifCond .eq 10, 3) := by decide +kernel
theorem dX7_text_44 : decode cX7_text 44 = .ok (.aload_n 0, 1) := by decide +kernel
theorem dX7_text_45 : decode cX7_text 45 = .ok (.invokevirtual 131, 3) := by decide +kernel
theorem dX7_text_48 : decode cX7_text 48 = .ok (.goto (-18), 3) := by decide +kernel
theorem dX7_text_51 : decode cX7_text 51 = .ok (.aload_n 0, 1) := by decide +kernel
theorem dX7_text_52 : decode cX7_text 52 = .ok (.iconst 0, 1) := by decide +kernel
theorem dX7_text_53 : decode cX7_text 53 = .ok (.putfield 58, 3) := by decide +kernel
theorem dX7_text_56 : decode cX7_text 56 = .ok (.aload_n 0, 1) := by decide +kernel
theorem dX7_text_57 : decode cX7_text 57 = .ok (.aload_n 0, 1) := by decide +kernel
theorem dX7_text_58 : decode cX7_text 58 = .ok (.getfield 62, 3) := by decide +kernel
theorem dX7_text_61 : decode cX7_text 61 = .ok (.putfield 134, 3) := by decide +kernel
theorem dX7_text_64 : decode cX7_text 64 = .ok (.aload_n 0, 1) := by decide +kernel
theorem dX7_text_65 : decode cX7_text 65 = .ok (.getfield 62, 3) := by decide +kernel
theorem dX7_text_68 : decode cX7_text 68 = .ok (.ifCond .le 11, 3) := by decide +kernel
theorem dX7_text_71 : decode cX7_text 71 = .ok (.bipush (-10), 2) := by decide +kernel
theorem dX7_text_73 : decode cX7_text 73 = .ok (.aload_n 0, 1) := by decide +kernel
theorem dX7_text_74 : decode cX7_text 74 = .ok (.getfield 68, 3) := by decide +kernel
theorem dX7_text_77 : decode cX7_text 77 = .ok (.isub, 1) := by decide +kernel
theorem dX7_text_78 : decode cX7_text 78 = .ok (.ireturn, 1) := by decide +kernel
theorem dX7_text_79 : decode cX7_text 79 = .ok (.aload_n 0, 1) := by decide +kernel
theorem dX7_text_80 : decode cX7_text 80 = .ok (.sipush 309, 3) := by decide +kernel
theorem dX7_text_83 : decode cX7_text 83 = .ok (.iconst 0, 1) := by decide +kernel
theorem dX7_text_84 : decode cX7_text 84 = .ok (.invokevirtual 137, 3) := by decide +kernel
theorem dX7_text_87 : decode cX7_text 87 = .ok (.aload_n 0, 1) := by decide +kernel
theorem dX7_text_88 : decode cX7_text 88 = .ok (.getfield 31, 3) := by decide +kernel
theorem dX7_text_91 : decode cX7_text 91 = .ok (.iconst 0, 1) := by decide +kernel
theorem dX7_text_92 : decode cX7_text 92 = .ok (.iconst 0, 1) := by decide +kernel
theorem dX7_text_93 : decode cX7_text 93 = .ok (.bastore, 1) := by decide +kernel
theorem dX7_text_94 : decode cX7_text 94 = .ok (.aload_n 0, 1) := by decide +kernel
theorem dX7_text_95 : decode cX7_text 95 = .ok (.getfield 31, 3) := by decide +kernel
theorem dX7_text_98 : decode cX7_text 98 = .ok (.iconst 1, 1) := by decide +kernel
theorem dX7_text_99 : decode cX7_text 99 = .ok (.iconst 0, 1) := by decide +kernel
theorem dX7_text_100 : decode cX7_text 100 = .ok (.bastore, 1) := by decide +kernel
theorem dX7_text_101 : decode cX7_text 101 = .ok (.aload_n 0, 1) := by decide +kernel
theorem dX7_text_102 : decode cX7_text 102 = .ok (.invokevirtual 141, 3) := by decide +kernel
theorem dX7_text_105 : decode cX7_text 105 = .ok (.ireturn, 1) := by decide +kernel
theorem dX7_fault_0 : decode cX7_fault 0 = .ok (.aload_n 0, 1) := by decide +kernel
theorem dX7_fault_1 : decode cX7_fault 1 = .ok (.getfield 134, 3) := by decide +kernel
theorem dX7_fault_4 : decode cX7_fault 4 = .ok (.ireturn, 1) := by decide +kernel
theorem dX7_copies_0 : decode cX7_copies 0 = .ok (.iconst 0, 1) := by decide +kernel
theorem dX7_copies_1 : decode cX7_copies 1 = .ok (.istore_n 3, 1) := by decide +kernel
theorem dX7_copies_2 : decode cX7_copies 2 = .ok (.iload_n 3, 1) := by decide +kernel
theorem dX7_copies_3 : decode cX7_copies 3 = .ok (.bipush 103, 2) := by decide +kernel
theorem dX7_copies_5 : decode cX7_copies 5 = .ok (.if_icmp .ge 25, 3) := by decide +kernel
theorem dX7_copies_8 : decode cX7_copies 8 = .ok (.aload_n 0, 1) := by decide +kernel
theorem dX7_copies_9 : decode cX7_copies 9 = .ok (.getfield 7, 3) := by decide +kernel
theorem dX7_copies_12 : decode cX7_copies 12 = .ok (.iload_n 2, 1) := by decide +kernel
theorem dX7_copies_13 : decode cX7_copies 13 = .ok (.iload_n 3, 1) := by decide +kernel
theorem dX7_copies_14 : decode cX7_copies 14 = .ok (.iadd, 1) := by decide +kernel
theorem dX7_copies_15 : decode cX7_copies 15 = .ok (.aload_n 0, 1) := by decide +kernel
theorem dX7_copies_16 : decode cX7_copies 16 = .ok (.getfield 7, 3) := by decide +kernel
theorem dX7_copies_19 : decode cX7_copies 19 = .ok (.iload_n 1, 1) := by decide +kernel
theorem dX7_copies_20 : decode cX7_copies 20 = .ok (.iload_n 3, 1) := by decide +kernel
theorem dX7_copies_21 : decode cX7_copies 21 = .ok (.iadd, 1) := by decide +kernel
theorem dX7_copies_22 : decode cX7_copies 22 = .ok (.iaload, 1) := by decide +kernel
theorem dX7_copies_23 : decode cX7_copies 23 = .ok (.iastore, 1) := by decide +kernel
theorem dX7_copies_24 : decode cX7_copies 24 = .ok (.iinc 3 1, 3) := by decide +kernel
theorem dX7_copies_27 : decode cX7_copies 27 = .ok (.goto (-25), 3) := by decide +kernel
theorem dX7_copies_30 : decode cX7_copies 30 = .ok (.return_, 1) := by decide +kernel
theorem dX7_many_0 : decode cX7_many 0 = .ok (.aload_n 0, 1) := by decide +kernel
theorem dX7_many_1 : decode cX7_many 1 = .ok (.getfield 7, 3) := by decide +kernel
theorem dX7_many_4 : decode cX7_many 4 = .ok (.bipush 102, 2) := by decide +kernel
theorem dX7_many_6 : decode cX7_many 6 = .ok (.iaload, 1) := by decide +kernel
theorem dX7_many_7 : decode cX7_many 7 = .ok (.ireturn, 1) := by decide +kernel
theorem dX7_isThere_0 : decode cX7_isThere 0 = .ok (.aload_n 0, 1) := by decide +kernel
theorem dX7_isThere_1 : decode cX7_isThere 1 = .ok (.invokevirtual 128, 3) := by decide +kernel
theorem dX7_isThere_4 : decode cX7_isThere 4 = .ok (.iload_n 1, 1) := by decide +kernel
theorem dX7_isThere_5 : decode cX7_isThere 5 = .ok (.i2l, 1) := by decide +kernel
theorem dX7_isThere_6 : decode cX7_isThere 6 = .ok (.lconst 0, 1) := by decide +kernel
theorem dX7_isThere_7 : decode cX7_isThere 7 = .ok (.aload_n 0, 1) := by decide +kernel
theorem dX7_isThere_8 : decode cX7_isThere 8 = .ok (.invokevirtual 141, 3) := by decide +kernel
theorem dX7_isThere_11 : decode cX7_isThere 11 = .ok (.iconst 1, 1) := by decide +kernel
theorem dX7_isThere_12 : decode cX7_isThere 12 = .ok (.isub, 1) := by decide +kernel
theorem dX7_isThere_13 : decode cX7_isThere 13 = .ok (.i2l, 1) := by decide +kernel
theorem dX7_isThere_14 : decode cX7_isThere 14 = .ok (.invokestatic 54, 3) := by decide +kernel
theorem dX7_isThere_17 : decode cX7_isThere 17 = .ok (.ireturn, 1) := by decide +kernel
theorem dX7_puts_0 : decode cX7_puts 0 = .ok (.iload_n 1, 1) := by decide +kernel
theorem dX7_puts_1 : decode cX7_puts 1 = .ok (.istore_n 3, 1) := by decide +kernel
theorem dX7_puts_2 : decode cX7_puts 2 = .ok (.iload_n 3, 1) := by decide +kernel
theorem dX7_puts_3 : decode cX7_puts 3 = .ok (.ifCond .le 26, 3) := by decide +kernel
theorem dX7_puts_6 : decode cX7_puts 6 = .ok (.aload_n 0, 1) := by decide +kernel
theorem dX7_puts_7 : decode cX7_puts 7 = .ok (.iload_n 3, 1) := by decide +kernel
theorem dX7_puts_8 : decode cX7_puts 8 = .ok (.iconst 1, 1) := by decide +kernel
theorem dX7_puts_9 : decode cX7_puts 9 = .ok (.isub, 1) := by decide +kernel
theorem dX7_puts_10 : decode cX7_puts 10 = .ok (.iaload, 1) := by decide +kernel
theorem dX7_puts_11 : decode cX7_puts 11 = .ok (.iload_n 2, 1) := by decide +kernel
theorem dX7_puts_12 : decode cX7_puts 12 = .ok (.if_icmp .le 17, 3) := by decide +kernel
theorem dX7_puts_15 : decode cX7_puts 15 = .ok (.aload_n 0, 1) := by decide +kernel
theorem dX7_puts_16 : decode cX7_puts 16 = .ok (.iload_n 3, 1) := by decide +kernel
theorem dX7_puts_17 : decode cX7_puts 17 = .ok (.aload_n 0, 1) := by decide +kernel
theorem dX7_puts_18 : decode cX7_puts 18 = .ok (.iload_n 3, 1) := by decide +kernel
theorem dX7_puts_19 : decode cX7_puts 19 = .ok (.iconst 1, 1) := by decide +kernel
theorem dX7_puts_20 : decode cX7_puts 20 = .ok (.isub, 1) := by decide +kernel
theorem dX7_puts_21 : decode cX7_puts 21 = .ok (.iaload, 1) := by decide +kernel
theorem dX7_puts_22 : decode cX7_puts 22 = .ok (.iastore, 1) := by decide +kernel
theorem dX7_puts_23 : decode cX7_puts 23 = .ok (.iinc 3 (-1), 3) := by decide +kernel
theorem dX7_puts_26 : decode cX7_puts 26 = .ok (.goto (-24), 3) := by decide +kernel
theorem dX7_puts_29 : decode cX7_puts 29 = .ok (.aload_n 0, 1) := by decide +kernel
theorem dX7_puts_30 : decode cX7_puts 30 = .ok (.iload_n 3, 1) := by decide +kernel
theorem dX7_puts_31 : decode cX7_puts 31 = .ok (.iload_n 2, 1) := by decide +kernel
theorem dX7_puts_32 : decode cX7_puts 32 = .ok (.iastore, 1) := by decide +kernel
theorem dX7_puts_33 : decode cX7_puts 33 = .ok (.return_, 1) := by decide +kernel
theorem dX7_rowOf_0 : decode cX7_rowOf 0 = .ok (.aload_n 0, 1) := by decide +kernel
theorem dX7_rowOf_1 : decode cX7_rowOf 1 = .ok (.iconst 0, 1) := by decide +kernel
theorem dX7_rowOf_2 : decode cX7_rowOf 2 = .ok (.putfield 144, 3) := by decide +kernel
theorem dX7_rowOf_5 : decode cX7_rowOf 5 = .ok (.iload_n 1, 1) := by decide +kernel
theorem dX7_rowOf_6 : decode cX7_rowOf 6 = .ok (.aload_n 0, 1) := by decide +kernel
theorem dX7_rowOf_7 : decode cX7_rowOf 7 = .ok (.getfield 7, 3) := by decide +kernel
theorem dX7_rowOf_10 : decode cX7_rowOf 10 = .ok (.bipush 96, 2) := by decide +kernel
theorem dX7_rowOf_12 : decode cX7_rowOf 12 = .ok (.iaload, 1) := by decide +kernel
theorem dX7_rowOf_13 : decode cX7_rowOf 13 = .ok (.isub, 1) := by decide +kernel
theorem dX7_rowOf_14 : decode cX7_rowOf 14 = .ok (.iconst 1, 1) := by decide +kernel
theorem dX7_rowOf_15 : decode cX7_rowOf 15 = .ok (.iadd, 1) := by decide +kernel
theorem dX7_rowOf_16 : decode cX7_rowOf 16 = .ok (.istore_n 2, 1) := by decide +kernel
theorem dX7_rowOf_17 : decode cX7_rowOf 17 = .ok (.iload_n 2, 1) := by decide +kernel
theorem dX7_rowOf_18 : decode cX7_rowOf 18 = .ok (.ifCond .ge 7, 3) := by decide +kernel
theorem dX7_rowOf_21 : decode cX7_rowOf 21 = .ok (.iconst 0, 1) := by decide +kernel
theorem dX7_rowOf_22 : decode cX7_rowOf 22 = .ok (.goto 4, 3) := by decide +kernel
theorem dX7_rowOf_25 : decode cX7_rowOf 25 = .ok (.iload_n 2, 1) := by decide +kernel
theorem dX7_rowOf_26 : decode cX7_rowOf 26 = .ok (.istore_n 3, 1) := by decide +kernel
theorem dX7_rowOf_27 : decode cX7_rowOf 27 = .ok (.iload_n 3, 1) := by decide +kernel
theorem dX7_rowOf_28 : decode cX7_rowOf 28 = .ok (.iload_n 1, 1) := by decide +kernel
theorem dX7_rowOf_29 : decode cX7_rowOf 29 = .ok (.if_icmp .gt 47, 3) := by decide +kernel
theorem dX7_rowOf_32 : decode cX7_rowOf 32 = .ok (.aload_n 0, 1) := by decide +kernel
theorem dX7_rowOf_33 : decode cX7_rowOf 33 = .ok (.getfield 7, 3) := by decide +kernel
theorem dX7_rowOf_36 : decode cX7_rowOf 36 = .ok (.iload_n 3, 1) := by decide +kernel
theorem dX7_rowOf_37 : decode cX7_rowOf 37 = .ok (.iaload, 1) := by decide +kernel
theorem dX7_rowOf_38 : decode cX7_rowOf 38 = .ok (.ldc 106, 2) := by decide +kernel
theorem dX7_rowOf_40 : decode cX7_rowOf 40 = .ok (.if_icmp .eq 30, 3) := by decide +kernel
theorem dX7_rowOf_43 : decode cX7_rowOf 43 = .ok (.aload_n 0, 1) := by decide +kernel
theorem dX7_rowOf_44 : decode cX7_rowOf 44 = .ok (.getfield 22, 3) := by decide +kernel
theorem dX7_rowOf_47 : decode cX7_rowOf 47 = .ok (.aload_n 0, 1) := by decide +kernel
theorem dX7_rowOf_48 : decode cX7_rowOf 48 = .ok (.getfield 144, 3) := by decide +kernel
theorem dX7_rowOf_51 : decode cX7_rowOf 51 = .ok (.aload_n 0, 1) := by decide +kernel
theorem dX7_rowOf_52 : decode cX7_rowOf 52 = .ok (.getfield 7, 3) := by decide +kernel
theorem dX7_rowOf_55 : decode cX7_rowOf 55 = .ok (.iload_n 3, 1) := by decide +kernel
theorem dX7_rowOf_56 : decode cX7_rowOf 56 = .ok (.iaload, 1) := by decide +kernel
theorem dX7_rowOf_57 : decode cX7_rowOf 57 = .ok (.invokestatic 147, 3) := by decide +kernel
theorem dX7_rowOf_60 : decode cX7_rowOf 60 = .ok (.aload_n 0, 1) := by decide +kernel
theorem dX7_rowOf_61 : decode cX7_rowOf 61 = .ok (.dup, 1) := by decide +kernel
theorem dX7_rowOf_62 : decode cX7_rowOf 62 = .ok (.getfield 144, 3) := by decide +kernel
theorem dX7_rowOf_65 : decode cX7_rowOf 65 = .ok (.iconst 1, 1) := by decide +kernel
theorem dX7_rowOf_66 : decode cX7_rowOf 66 = .ok (.iadd, 1) := by decide +kernel
theorem dX7_rowOf_67 : decode cX7_rowOf 67 = .ok (.putfield 144, 3) := by decide +kernel
theorem dX7_rowOf_70 : decode cX7_rowOf 70 = .ok (.iinc 3 1, 3) := by decide +kernel
theorem dX7_rowOf_73 : decode cX7_rowOf 73 = .ok (.goto (-46), 3) := by decide +kernel
theorem dX7_rowOf_76 : decode cX7_rowOf 76 = .ok (.return_, 1) := by decide +kernel
theorem dX7_isResult_0 : decode cX7_isResult 0 = .ok (.aload_n 0, 1) := by decide +kernel
theorem dX7_isResult_1 : decode cX7_isResult 1 = .ok (.iload_n 1, 1) := by decide +kernel
theorem dX7_isResult_2 : decode cX7_isResult 2 = .ok (.invokevirtual 151, 3) := by decide +kernel
theorem dX7_isResult_5 : decode cX7_isResult 5 = .ok (.aload_n 0, 1) := by decide +kernel
theorem dX7_isResult_6 : decode cX7_isResult 6 = .ok (.getfield 144, 3) := by decide +kernel
theorem dX7_isResult_9 : decode cX7_isResult 9 = .ok (.aload_n 0, 1) := by decide +kernel
theorem dX7_isResult_10 : decode cX7_isResult 10 = .ok (.getfield 7, 3) := by decide +kernel
theorem dX7_isResult_13 : decode cX7_isResult 13 = .ok (.bipush 97, 2) := by decide +kernel
theorem dX7_isResult_15 : decode cX7_isResult 15 = .ok (.iaload, 1) := by decide +kernel
theorem dX7_isResult_16 : decode cX7_isResult 16 = .ok (.if_icmp .lt 10, 3) := by decide +kernel
theorem dX7_isResult_19 : decode cX7_isResult 19 = .ok (.aload_n 0, 1) := by decide +kernel
theorem dX7_isResult_20 : decode cX7_isResult 20 = .ok (.getfield 144, 3) := by decide +kernel
theorem dX7_isResult_23 : decode cX7_isResult 23 = .ok (.ifCond .ne 5, 3) := by decide +kernel
theorem dX7_isResult_26 : decode cX7_isResult 26 = .ok (.iconst 0, 1) := by decide +kernel
theorem dX7_isResult_27 : decode cX7_isResult 27 = .ok (.ireturn, 1) := by decide +kernel
theorem dX7_isResult_28 : decode cX7_isResult 28 = .ok (.aload_n 0, 1) := by decide +kernel
theorem dX7_isResult_29 : decode cX7_isResult 29 = .ok (.getfield 7, 3) := by decide +kernel
theorem dX7_isResult_32 : decode cX7_isResult 32 = .ok (.bipush 99, 2) := by decide +kernel
theorem dX7_isResult_34 : decode cX7_isResult 34 = .ok (.iaload, 1) := by decide +kernel
theorem dX7_isResult_35 : decode cX7_isResult 35 = .ok (.istore_n 2, 1) := by decide +kernel
theorem dX7_isResult_36 : decode cX7_isResult 36 = .ok (.aload_n 0, 1) := by decide +kernel
theorem dX7_isResult_37 : decode cX7_isResult 37 = .ok (.getfield 144, 3) := by decide +kernel
theorem dX7_isResult_40 : decode cX7_isResult 40 = .ok (.iconst 1, 1) := by decide +kernel
theorem dX7_isResult_41 : decode cX7_isResult 41 = .ok (.isub, 1) := by decide +kernel
theorem dX7_isResult_42 : decode cX7_isResult 42 = .ok (.aload_n 0, 1) := by decide +kernel
theorem dX7_isResult_43 : decode cX7_isResult 43 = .ok (.getfield 7, 3) := by decide +kernel
theorem dX7_isResult_46 : decode cX7_isResult 46 = .ok (.bipush 98, 2) := by decide +kernel
theorem dX7_isResult_48 : decode cX7_isResult 48 = .ok (.iaload, 1) := by decide +kernel
theorem dX7_isResult_49 : decode cX7_isResult 49 = .ok (.imul, 1) := by decide +kernel
theorem dX7_isResult_50 : decode cX7_isResult 50 = .ok (.istore_n 3, 1) := by decide +kernel
theorem dX7_isResult_51 : decode cX7_isResult 51 = .ok (.aload_n 0, 1) := by decide +kernel
theorem dX7_isResult_52 : decode cX7_isResult 52 = .ok (.iload_n 3, 1) := by decide +kernel
theorem dX7_isResult_53 : decode cX7_isResult 53 = .ok (.iload_n 2, 1) := by decide +kernel
theorem dX7_isResult_54 : decode cX7_isResult 54 = .ok (.idiv, 1) := by decide +kernel
theorem dX7_isResult_55 : decode cX7_isResult 55 = .ok (.putfield 154, 3) := by decide +kernel
theorem dX7_isResult_58 : decode cX7_isResult 58 = .ok (.aload_n 0, 1) := by decide +kernel
theorem dX7_isResult_59 : decode cX7_isResult 59 = .ok (.iload_n 3, 1) := by decide +kernel
theorem dX7_isResult_60 : decode cX7_isResult 60 = .ok (.iload_n 2, 1) := by decide +kernel
theorem dX7_isResult_61 : decode cX7_isResult 61 = .ok (.irem, 1) := by decide +kernel
theorem dX7_isResult_62 : decode cX7_isResult 62 = .ok (.putfield 157, 3) := by decide +kernel
theorem dX7_isResult_65 : decode cX7_isResult 65 = .ok (.aload_n 0, 1) := by decide +kernel
theorem dX7_isResult_66 : decode cX7_isResult 66 = .ok (.getfield 22, 3) := by decide +kernel
theorem dX7_isResult_69 : decode cX7_isResult 69 = .ok (.aload_n 0, 1) := by decide +kernel
theorem dX7_isResult_70 : decode cX7_isResult 70 = .ok (.getfield 154, 3) := by decide +kernel
theorem dX7_isResult_73 : decode cX7_isResult 73 = .ok (.iaload, 1) := by decide +kernel
theorem dX7_isResult_74 : decode cX7_isResult 74 = .ok (.istore 4, 2) := by decide +kernel
theorem dX7_isResult_76 : decode cX7_isResult 76 = .ok (.aload_n 0, 1) := by decide +kernel
theorem dX7_isResult_77 : decode cX7_isResult 77 = .ok (.getfield 157, 3) := by decide +kernel
theorem dX7_isResult_80 : decode cX7_isResult 80 = .ok (.ifCond .le 17, 3) := by decide +kernel
theorem dX7_isResult_83 : decode cX7_isResult 83 = .ok (.aload_n 0, 1) := by decide +kernel
theorem dX7_isResult_84 : decode cX7_isResult 84 = .ok (.getfield 22, 3) := by decide +kernel
theorem dX7_isResult_87 : decode cX7_isResult 87 = .ok (.aload_n 0, 1) := by decide +kernel
theorem dX7_isResult_88 : decode cX7_isResult 88 = .ok (.getfield 154, 3) := by decide +kernel
theorem dX7_isResult_91 : decode cX7_isResult 91 = .ok (.iconst 1, 1) := by decide +kernel
theorem dX7_isResult_92 : decode cX7_isResult 92 = .ok (.iadd, 1) := by decide +kernel
theorem dX7_isResult_93 : decode cX7_isResult 93 = .ok (.iaload, 1) := by decide +kernel
theorem dX7_isResult_94 : decode cX7_isResult 94 = .ok (.goto 5, 3) := by decide +kernel
theorem dX7_isResult_97 : decode cX7_isResult 97 = .ok (.iload 4, 2) := by decide +kernel
theorem dX7_isResult_99 : decode cX7_isResult 99 = .ok (.istore 5, 2) := by decide +kernel
theorem dX7_isResult_101 : decode cX7_isResult 101 = .ok (.iconst 2, 1) := by decide +kernel
theorem dX7_isResult_102 : decode cX7_isResult 102 = .ok (.aload_n 0, 1) := by decide +kernel
theorem dX7_isResult_103 : decode cX7_isResult 103 = .ok (.getfield 157, 3) := by decide +kernel
theorem dX7_isResult_106 : decode cX7_isResult 106 = .ok (.imul, 1) := by decide +kernel
theorem dX7_isResult_107 : decode cX7_isResult 107 = .ok (.iload_n 2, 1) := by decide +kernel
theorem dX7_isResult_108 : decode cX7_isResult 108 = .ok (.if_icmp .lt 22, 3) := by decide +kernel
theorem dX7_isResult_111 : decode cX7_isResult 111 = .ok (.iconst 2, 1) := by decide +kernel
theorem dX7_isResult_112 : decode cX7_isResult 112 = .ok (.aload_n 0, 1) := by decide +kernel
theorem dX7_isResult_113 : decode cX7_isResult 113 = .ok (.getfield 157, 3) := by decide +kernel
theorem dX7_isResult_116 : decode cX7_isResult 116 = .ok (.imul, 1) := by decide +kernel
theorem dX7_isResult_117 : decode cX7_isResult 117 = .ok (.iload_n 2, 1) := by decide +kernel
theorem dX7_isResult_118 : decode cX7_isResult 118 = .ok (.if_icmp .ne 16, 3) := by decide +kernel
theorem dX7_isResult_121 : decode cX7_isResult 121 = .ok (.aload_n 0, 1) := by decide +kernel
theorem dX7_isResult_122 : decode cX7_isResult 122 = .ok (.getfield 154, 3) := by decide +kernel
theorem dX7_isResult_125 : decode cX7_isResult 125 = .ok (.iconst 2, 1) := by decide +kernel
theorem dX7_isResult_126 : decode cX7_isResult 126 = .ok (.irem, 1) := by decide +kernel
theorem dX7_isResult_127 : decode cX7_isResult 127 = .ok (.ifCond .ne 7, 3) := by decide +kernel
theorem dX7_isResult_130 : decode cX7_isResult 130 = .ok (.iconst 1, 1) := by decide +kernel
theorem dX7_isResult_131 : decode cX7_isResult 131 = .ok (.goto 4, 3) := by decide +kernel
theorem dX7_isResult_134 : decode cX7_isResult 134 = .ok (.iconst 0, 1) := by decide +kernel
theorem dX7_isResult_135 : decode cX7_isResult 135 = .ok (.istore 6, 2) := by decide +kernel
theorem dX7_isResult_137 : decode cX7_isResult 137 = .ok (.aload_n 0, 1) := by decide +kernel
theorem dX7_isResult_138 : decode cX7_isResult 138 = .ok (.iconst 1, 1) := by decide +kernel
theorem dX7_isResult_139 : decode cX7_isResult 139 = .ok (.putfield 160, 3) := by decide +kernel
theorem dX7_isResult_142 : decode cX7_isResult 142 = .ok (.aload_n 0, 1) := by decide +kernel
theorem dX7_isResult_143 : decode cX7_isResult 143 = .ok (.getfield 7, 3) := by decide +kernel
theorem dX7_isResult_146 : decode cX7_isResult 146 = .ok (.bipush 100, 2) := by decide +kernel
theorem dX7_isResult_148 : decode cX7_isResult 148 = .ok (.iaload, 1) := by decide +kernel
theorem dX7_isResult_149 : decode cX7_isResult 149 = .ok (.tableswitch 85 0 3 #[31, 40, 49, 68], 31) := by decide +kernel
theorem dX7_isResult_180 : decode cX7_isResult 180 = .ok (.aload_n 0, 1) := by decide +kernel
theorem dX7_isResult_181 : decode cX7_isResult 181 = .ok (.iload 4, 2) := by decide +kernel
theorem dX7_isResult_183 : decode cX7_isResult 183 = .ok (.putfield 163, 3) := by decide +kernel
theorem dX7_isResult_186 : decode cX7_isResult 186 = .ok (.goto 74, 3) := by decide +kernel
theorem dX7_isResult_189 : decode cX7_isResult 189 = .ok (.aload_n 0, 1) := by decide +kernel
theorem dX7_isResult_190 : decode cX7_isResult 190 = .ok (.iload 5, 2) := by decide +kernel
theorem dX7_isResult_192 : decode cX7_isResult 192 = .ok (.putfield 163, 3) := by decide +kernel
theorem dX7_isResult_195 : decode cX7_isResult 195 = .ok (.goto 65, 3) := by decide +kernel
theorem dX7_isResult_198 : decode cX7_isResult 198 = .ok (.aload_n 0, 1) := by decide +kernel
theorem dX7_isResult_199 : decode cX7_isResult 199 = .ok (.iload 6, 2) := by decide +kernel
theorem dX7_isResult_201 : decode cX7_isResult 201 = .ok (.ifCond .eq 8, 3) := by decide +kernel
theorem dX7_isResult_204 : decode cX7_isResult 204 = .ok (.iload 4, 2) := by decide +kernel
theorem dX7_isResult_206 : decode cX7_isResult 206 = .ok (.goto 5, 3) := by decide +kernel
theorem dX7_isResult_209 : decode cX7_isResult 209 = .ok (.iload 5, 2) := by decide +kernel
theorem dX7_isResult_211 : decode cX7_isResult 211 = .ok (.putfield 163, 3) := by decide +kernel
theorem dX7_isResult_214 : decode cX7_isResult 214 = .ok (.goto 46, 3) := by decide +kernel
theorem dX7_isResult_217 : decode cX7_isResult 217 = .ok (.aload_n 0, 1) := by decide +kernel
theorem dX7_isResult_218 : decode cX7_isResult 218 = .ok (.iload 4, 2) := by decide +kernel
theorem dX7_isResult_220 : decode cX7_isResult 220 = .ok (.iload 5, 2) := by decide +kernel
theorem dX7_isResult_222 : decode cX7_isResult 222 = .ok (.iadd, 1) := by decide +kernel
theorem dX7_isResult_223 : decode cX7_isResult 223 = .ok (.putfield 163, 3) := by decide +kernel
theorem dX7_isResult_226 : decode cX7_isResult 226 = .ok (.aload_n 0, 1) := by decide +kernel
theorem dX7_isResult_227 : decode cX7_isResult 227 = .ok (.iconst 2, 1) := by decide +kernel
theorem dX7_isResult_228 : decode cX7_isResult 228 = .ok (.putfield 160, 3) := by decide +kernel
theorem dX7_isResult_231 : decode cX7_isResult 231 = .ok (.goto 29, 3) := by decide +kernel
theorem dX7_isResult_234 : decode cX7_isResult 234 = .ok (.aload_n 0, 1) := by decide +kernel
theorem dX7_isResult_235 : decode cX7_isResult 235 = .ok (.iload 4, 2) := by decide +kernel
theorem dX7_isResult_237 : decode cX7_isResult 237 = .ok (.iload_n 2, 1) := by decide +kernel
theorem dX7_isResult_238 : decode cX7_isResult 238 = .ok (.aload_n 0, 1) := by decide +kernel
theorem dX7_isResult_239 : decode cX7_isResult 239 = .ok (.getfield 157, 3) := by decide +kernel
theorem dX7_isResult_242 : decode cX7_isResult 242 = .ok (.isub, 1) := by decide +kernel
theorem dX7_isResult_243 : decode cX7_isResult 243 = .ok (.imul, 1) := by decide +kernel
theorem dX7_isResult_244 : decode cX7_isResult 244 = .ok (.iload 5, 2) := by decide +kernel
theorem dX7_isResult_246 : decode cX7_isResult 246 = .ok (.aload_n 0, 1) := by decide +kernel
theorem dX7_isResult_247 : decode cX7_isResult 247 = .ok (.getfield 157, 3) := by decide +kernel
theorem dX7_isResult_250 : decode cX7_isResult 250 = .ok (.imul, 1) := by decide +kernel
theorem dX7_isResult_251 : decode cX7_isResult 251 = .ok (.iadd, 1) := by decide +kernel
theorem dX7_isResult_252 : decode cX7_isResult 252 = .ok (.putfield 163, 3) := by decide +kernel
theorem dX7_isResult_255 : decode cX7_isResult 255 = .ok (.aload_n 0, 1) := by decide +kernel
theorem dX7_isResult_256 : decode cX7_isResult 256 = .ok (.iload_n 2, 1) := by decide +kernel
theorem dX7_isResult_257 : decode cX7_isResult 257 = .ok (.putfield 160, 3) := by decide +kernel
theorem dX7_isResult_260 : decode cX7_isResult 260 = .ok (.iconst 1, 1) := by decide +kernel
theorem dX7_isResult_261 : decode cX7_isResult 261 = .ok (.ireturn, 1) := by decide +kernel
theorem dX7_rounded_0 : decode cX7_rounded 0 = .ok (.aload_n 0, 1) := by decide +kernel
theorem dX7_rounded_1 : decode cX7_rounded 1 = .ok (.getfield 163, 3) := by decide +kernel
theorem dX7_rounded_4 : decode cX7_rounded 4 = .ok (.ifCond .ge 12, 3) := by decide +kernel
theorem dX7_rounded_7 : decode cX7_rounded 7 = .ok (.aload_n 0, 1) := by decide +kernel
theorem dX7_rounded_8 : decode cX7_rounded 8 = .ok (.getfield 163, 3) := by decide +kernel
theorem dX7_rounded_11 : decode cX7_rounded 11 = .ok (.i2l, 1) := by decide +kernel
theorem dX7_rounded_12 : decode cX7_rounded 12 = .ok (.lneg, 1) := by decide +kernel
theorem dX7_rounded_13 : decode cX7_rounded 13 = .ok (.goto 8, 3) := by decide +kernel
theorem dX7_rounded_16 : decode cX7_rounded 16 = .ok (.aload_n 0, 1) := by decide +kernel
theorem dX7_rounded_17 : decode cX7_rounded 17 = .ok (.getfield 163, 3) := by decide +kernel
theorem dX7_rounded_20 : decode cX7_rounded 20 = .ok (.i2l, 1) := by decide +kernel
theorem dX7_rounded_21 : decode cX7_rounded 21 = .ok (.lstore_n 1, 1) := by decide +kernel
theorem dX7_rounded_22 : decode cX7_rounded 22 = .ok (.ldc2_w 166, 3) := by decide +kernel
theorem dX7_rounded_25 : decode cX7_rounded 25 = .ok (.lload_n 1, 1) := by decide +kernel
theorem dX7_rounded_26 : decode cX7_rounded 26 = .ok (.lmul, 1) := by decide +kernel
theorem dX7_rounded_27 : decode cX7_rounded 27 = .ok (.aload_n 0, 1) := by decide +kernel
theorem dX7_rounded_28 : decode cX7_rounded 28 = .ok (.getfield 160, 3) := by decide +kernel
theorem dX7_rounded_31 : decode cX7_rounded 31 = .ok (.i2l, 1) := by decide +kernel
theorem dX7_rounded_32 : decode cX7_rounded 32 = .ok (.ladd, 1) := by decide +kernel
theorem dX7_rounded_33 : decode cX7_rounded 33 = .ok (.ldc2_w 166, 3) := by decide +kernel
theorem dX7_rounded_36 : decode cX7_rounded 36 = .ok (.aload_n 0, 1) := by decide +kernel
theorem dX7_rounded_37 : decode cX7_rounded 37 = .ok (.getfield 160, 3) := by decide +kernel
theorem dX7_rounded_40 : decode cX7_rounded 40 = .ok (.i2l, 1) := by decide +kernel
theorem dX7_rounded_41 : decode cX7_rounded 41 = .ok (.lmul, 1) := by decide +kernel
theorem dX7_rounded_42 : decode cX7_rounded 42 = .ok (.ldiv, 1) := by decide +kernel
theorem dX7_rounded_43 : decode cX7_rounded 43 = .ok (.l2i, 1) := by decide +kernel
theorem dX7_rounded_44 : decode cX7_rounded 44 = .ok (.istore_n 3, 1) := by decide +kernel
theorem dX7_rounded_45 : decode cX7_rounded 45 = .ok (.aload_n 0, 1) := by decide +kernel
theorem dX7_rounded_46 : decode cX7_rounded 46 = .ok (.getfield 163, 3) := by decide +kernel
theorem dX7_rounded_49 : decode cX7_rounded 49 = .ok (.ifCond .ge 8, 3) := by decide +kernel
theorem dX7_rounded_52 : decode cX7_rounded 52 = .ok (.iload_n 3, 1) := by decide +kernel
theorem dX7_rounded_53 : decode cX7_rounded 53 = .ok (.ineg, 1) := by decide +kernel
theorem dX7_rounded_54 : decode cX7_rounded 54 = .ok (.goto 4, 3) := by decide +kernel
theorem dX7_rounded_57 : decode cX7_rounded 57 = .ok (.iload_n 3, 1) := by decide +kernel
theorem dX7_rounded_58 : decode cX7_rounded 58 = .ok (.ireturn, 1) := by decide +kernel
theorem dX7_missing_0 : decode cX7_missing 0 = .ok (.iconst 0, 1) := by decide +kernel
theorem dX7_missing_1 : decode cX7_missing 1 = .ok (.istore_n 1, 1) := by decide +kernel
theorem dX7_missing_2 : decode cX7_missing 2 = .ok (.iconst 0, 1) := by decide +kernel
theorem dX7_missing_3 : decode cX7_missing 3 = .ok (.istore_n 2, 1) := by decide +kernel
theorem dX7_missing_4 : decode cX7_missing 4 = .ok (.iload_n 2, 1) := by decide +kernel
theorem dX7_missing_5 : decode cX7_missing 5 = .ok (.aload_n 0, 1) := by decide +kernel
theorem dX7_missing_6 : decode cX7_missing 6 = .ok (.invokevirtual 141, 3) := by decide +kernel
theorem dX7_missing_9 : decode cX7_missing 9 = .ok (.if_icmp .ge 28, 3) := by decide +kernel
theorem dX7_missing_12 : decode cX7_missing 12 = .ok (.iload_n 1, 1) := by decide +kernel
theorem dX7_missing_13 : decode cX7_missing 13 = .ok (.aload_n 0, 1) := by decide +kernel
theorem dX7_missing_14 : decode cX7_missing 14 = .ok (.getfield 7, 3) := by decide +kernel
theorem dX7_missing_17 : decode cX7_missing 17 = .ok (.iload_n 2, 1) := by decide +kernel
theorem dX7_missing_18 : decode cX7_missing 18 = .ok (.iaload, 1) := by decide +kernel
theorem dX7_missing_19 : decode cX7_missing 19 = .ok (.ldc 106, 2) := by decide +kernel
theorem dX7_missing_21 : decode cX7_missing 21 = .ok (.if_icmp .ne 7, 3) := by decide +kernel
theorem dX7_missing_24 : decode cX7_missing 24 = .ok (.iconst 1, 1) := by decide +kernel
theorem dX7_missing_25 : decode cX7_missing 25 = .ok (.goto 4, 3) := by decide +kernel
theorem dX7_missing_28 : decode cX7_missing 28 = .ok (.iconst 0, 1) := by decide +kernel
theorem dX7_missing_29 : decode cX7_missing 29 = .ok (.iadd, 1) := by decide +kernel
theorem dX7_missing_30 : decode cX7_missing 30 = .ok (.istore_n 1, 1) := by decide +kernel
theorem dX7_missing_31 : decode cX7_missing 31 = .ok (.iinc 2 1, 3) := by decide +kernel
theorem dX7_missing_34 : decode cX7_missing 34 = .ok (.goto (-30), 3) := by decide +kernel
theorem dX7_missing_37 : decode cX7_missing 37 = .ok (.iload_n 1, 1) := by decide +kernel
theorem dX7_missing_38 : decode cX7_missing 38 = .ok (.ireturn, 1) := by decide +kernel
theorem dX7_results_0 : decode cX7_results 0 = .ok (.iconst 0, 1) := by decide +kernel
theorem dX7_results_1 : decode cX7_results 1 = .ok (.istore_n 1, 1) := by decide +kernel
theorem dX7_results_2 : decode cX7_results 2 = .ok (.iconst 0, 1) := by decide +kernel
theorem dX7_results_3 : decode cX7_results 3 = .ok (.istore_n 2, 1) := by decide +kernel
theorem dX7_results_4 : decode cX7_results 4 = .ok (.iload_n 2, 1) := by decide +kernel
theorem dX7_results_5 : decode cX7_results 5 = .ok (.aload_n 0, 1) := by decide +kernel
theorem dX7_results_6 : decode cX7_results 6 = .ok (.invokevirtual 141, 3) := by decide +kernel
theorem dX7_results_9 : decode cX7_results 9 = .ok (.if_icmp .ge 25, 3) := by decide +kernel
theorem dX7_results_12 : decode cX7_results 12 = .ok (.iload_n 1, 1) := by decide +kernel
theorem dX7_results_13 : decode cX7_results 13 = .ok (.aload_n 0, 1) := by decide +kernel
theorem dX7_results_14 : decode cX7_results 14 = .ok (.iload_n 2, 1) := by decide +kernel
theorem dX7_results_15 : decode cX7_results 15 = .ok (.invokevirtual 168, 3) := by decide +kernel
theorem dX7_results_18 : decode cX7_results 18 = .ok (.ifCond .eq 7, 3) := by decide +kernel
theorem dX7_results_21 : decode cX7_results 21 = .ok (.iconst 1, 1) := by decide +kernel
theorem dX7_results_22 : decode cX7_results 22 = .ok (.goto 4, 3) := by decide +kernel
theorem dX7_results_25 : decode cX7_results 25 = .ok (.iconst 0, 1) := by decide +kernel
theorem dX7_results_26 : decode cX7_results 26 = .ok (.iadd, 1) := by decide +kernel
theorem dX7_results_27 : decode cX7_results 27 = .ok (.istore_n 1, 1) := by decide +kernel
theorem dX7_results_28 : decode cX7_results 28 = .ok (.iinc 2 1, 3) := by decide +kernel
theorem dX7_results_31 : decode cX7_results 31 = .ok (.goto (-27), 3) := by decide +kernel
theorem dX7_results_34 : decode cX7_results 34 = .ok (.iload_n 1, 1) := by decide +kernel
theorem dX7_results_35 : decode cX7_results 35 = .ok (.ireturn, 1) := by decide +kernel
theorem dX7_rule_0 : decode cX7_rule 0 = .ok (.aload_n 0, 1) := by decide +kernel
theorem dX7_rule_1 : decode cX7_rule 1 = .ok (.invokevirtual 128, 3) := by decide +kernel
theorem dX7_rule_4 : decode cX7_rule 4 = .ok (.iload_n 1, 1) := by decide +kernel
theorem dX7_rule_5 : decode cX7_rule 5 = .ok (.lookupswitch 50 #[(0, 35), (1, 40), (8, 45)], 35) := by decide +kernel
theorem dX7_rule_40 : decode cX7_rule 40 = .ok (.aload_n 0, 1) := by decide +kernel
theorem dX7_rule_41 : decode cX7_rule 41 = .ok (.invokevirtual 141, 3) := by decide +kernel
theorem dX7_rule_44 : decode cX7_rule 44 = .ok (.ireturn, 1) := by decide +kernel
theorem dX7_rule_45 : decode cX7_rule 45 = .ok (.aload_n 0, 1) := by decide +kernel
theorem dX7_rule_46 : decode cX7_rule 46 = .ok (.invokevirtual 172, 3) := by decide +kernel
theorem dX7_rule_49 : decode cX7_rule 49 = .ok (.ireturn, 1) := by decide +kernel
theorem dX7_rule_50 : decode cX7_rule 50 = .ok (.aload_n 0, 1) := by decide +kernel
theorem dX7_rule_51 : decode cX7_rule 51 = .ok (.invokevirtual 175, 3) := by decide +kernel
theorem dX7_rule_54 : decode cX7_rule 54 = .ok (.ireturn, 1) := by decide +kernel
theorem dX7_rule_55 : decode cX7_rule 55 = .ok (.iload_n 1, 1) := by decide +kernel
theorem dX7_rule_56 : decode cX7_rule 56 = .ok (.i2l, 1) := by decide +kernel
theorem dX7_rule_57 : decode cX7_rule 57 = .ok (.ldc2_w 166, 3) := by decide +kernel
theorem dX7_rule_60 : decode cX7_rule 60 = .ok (.ldc2_w 178, 3) := by decide +kernel
theorem dX7_rule_63 : decode cX7_rule 63 = .ok (.invokestatic 54, 3) := by decide +kernel
theorem dX7_rule_66 : decode cX7_rule 66 = .ok (.ifCond .eq 15, 3) := by decide +kernel
theorem dX7_rule_69 : decode cX7_rule 69 = .ok (.aload_n 0, 1) := by decide +kernel
theorem dX7_rule_70 : decode cX7_rule 70 = .ok (.getfield 7, 3) := by decide +kernel
theorem dX7_rule_73 : decode cX7_rule 73 = .ok (.bipush 94, 2) := by decide +kernel
theorem dX7_rule_75 : decode cX7_rule 75 = .ok (.iload_n 1, 1) := by decide +kernel
theorem dX7_rule_76 : decode cX7_rule 76 = .ok (.iadd, 1) := by decide +kernel
theorem dX7_rule_77 : decode cX7_rule 77 = .ok (.iaload, 1) := by decide +kernel
theorem dX7_rule_78 : decode cX7_rule 78 = .ok (.goto 4, 3) := by decide +kernel
theorem dX7_rule_81 : decode cX7_rule 81 = .ok (.iconst (-1), 1) := by decide +kernel
theorem dX7_rule_82 : decode cX7_rule 82 = .ok (.ireturn, 1) := by decide +kernel
theorem dX7_reading_0 : decode cX7_reading 0 = .ok (.aload_n 0, 1) := by decide +kernel
theorem dX7_reading_1 : decode cX7_reading 1 = .ok (.iload_n 1, 1) := by decide +kernel
theorem dX7_reading_2 : decode cX7_reading 2 = .ok (.invokevirtual 180, 3) := by decide +kernel
theorem dX7_reading_5 : decode cX7_reading 5 = .ok (.ifCond .eq 12, 3) := by decide +kernel
theorem dX7_reading_8 : decode cX7_reading 8 = .ok (.aload_n 0, 1) := by decide +kernel
theorem dX7_reading_9 : decode cX7_reading 9 = .ok (.getfield 7, 3) := by decide +kernel
theorem dX7_reading_12 : decode cX7_reading 12 = .ok (.iload_n 1, 1) := by decide +kernel
theorem dX7_reading_13 : decode cX7_reading 13 = .ok (.iaload, 1) := by decide +kernel
theorem dX7_reading_14 : decode cX7_reading 14 = .ok (.goto 5, 3) := by decide +kernel
theorem dX7_reading_17 : decode cX7_reading 17 = .ok (.ldc 106, 2) := by decide +kernel
theorem dX7_reading_19 : decode cX7_reading 19 = .ok (.ireturn, 1) := by decide +kernel
theorem dX7_row_0 : decode cX7_row 0 = .ok (.aload_n 0, 1) := by decide +kernel
