theorem dX0_init_0 : decode cX0_init 0 = .ok (.aload_n 0, 1) := by decide +kernel
theorem dX0_init_1 : decode cX0_init 1 = .ok (.invokespecial 3, 3) := by decide +kernel
theorem dX0_init_4 : decode cX0_init 4 = .ok (.aload_n 0, 1) := by decide +kernel
theorem dX0_init_5 : decode cX0_init 5 = .ok (.bipush 24, 2) := by decide +kernel
theorem dX0_init_7 : decode cX0_init 7 = .ok (.newarray .int, 2) := by decide +kernel
theorem dX0_init_9 : decode cX0_init 9 = .ok (.putfield 9, 3) := by decide +kernel
theorem dX0_init_12 : decode cX0_init 12 = .ok (.aload_n 0, 1) := by decide +kernel
theorem dX0_init_13 : decode cX0_init 13 = .ok (.iconst 0, 1) := by decide +kernel
theorem dX0_init_14 : decode cX0_init 14 = .ok (.putfield 15, 3) := by decide +kernel
theorem dX0_init_17 : decode cX0_init 17 = .ok (.aload_n 0, 1) := by decide +kernel
theorem dX0_init_18 : decode cX0_init 18 = .ok (.aload_n 1, 1) := by decide +kernel
theorem dX0_init_19 : decode cX0_init 19 = .ok (.putfield 19, 3) := by decide +kernel
theorem dX0_init_22 : decode cX0_init 22 = .ok (.return_, 1) := by decide +kernel
theorem dX0_clear_0 : decode cX0_clear 0 = .ok (.aload_n 0, 1) := by decide +kernel
theorem dX0_clear_1 : decode cX0_clear 1 = .ok (.iconst 0, 1) := by decide +kernel
theorem dX0_clear_2 : decode cX0_clear 2 = .ok (.putfield 15, 3) := by decide +kernel
theorem dX0_clear_5 : decode cX0_clear 5 = .ok (.return_, 1) := by decide +kernel
theorem dX0_load_0 : decode cX0_load 0 = .ok (.aload_n 0, 1) := by decide +kernel
theorem dX0_load_1 : decode cX0_load 1 = .ok (.invokevirtual 23, 3) := by decide +kernel
theorem dX0_load_4 : decode cX0_load 4 = .ok (.iconst 0, 1) := by decide +kernel
theorem dX0_load_5 : decode cX0_load 5 = .ok (.iload_n 1, 1) := by decide +kernel
theorem dX0_load_6 : decode cX0_load 6 = .ok (.aload_n 0, 1) := by decide +kernel
theorem dX0_load_7 : decode cX0_load 7 = .ok (.getfield 19, 3) := by decide +kernel
theorem dX0_load_10 : decode cX0_load 10 = .ok (.getfield 26, 3) := by decide +kernel
theorem dX0_load_13 : decode cX0_load 13 = .ok (.isub, 1) := by decide +kernel
theorem dX0_load_14 : decode cX0_load 14 = .ok (.iconst 1, 1) := by decide +kernel
theorem dX0_load_15 : decode cX0_load 15 = .ok (.iadd, 1) := by decide +kernel
theorem dX0_load_16 : decode cX0_load 16 = .ok (.invokestatic 31, 3) := by decide +kernel
theorem dX0_load_19 : decode cX0_load 19 = .ok (.istore_n 2, 1) := by decide +kernel
theorem dX0_load_20 : decode cX0_load 20 = .ok (.iload_n 2, 1) := by decide +kernel
theorem dX0_load_21 : decode cX0_load 21 = .ok (.iload_n 1, 1) := by decide +kernel
theorem dX0_load_22 : decode cX0_load 22 = .ok (.if_icmp .gt 21, 3) := by decide +kernel
theorem dX0_load_25 : decode cX0_load 25 = .ok (.aload_n 0, 1) := by decide +kernel
theorem dX0_load_26 : decode cX0_load 26 = .ok (.aload_n 0, 1) := by decide +kernel
theorem dX0_load_27 : decode cX0_load 27 = .ok (.getfield 19, 3) := by decide +kernel
theorem dX0_load_30 : decode cX0_load 30 = .ok (.iload_n 2, 1) := by decide +kernel
theorem dX0_load_31 : decode cX0_load 31 = .ok (.invokevirtual 37, 3) := by decide +kernel
theorem dX0_load_34 : decode cX0_load 34 = .ok (.invokevirtual 41, 3) := by decide +kernel
theorem dX0_load_37 : decode cX0_load 37 = .ok (.iinc 2 1, 3) := by decide +kernel
theorem dX0_load_40 : decode cX0_load 40 = .ok (.goto (-20), 3) := by decide +kernel
theorem dX0_load_43 : decode cX0_load 43 = .ok (.return_, 1) := by decide +kernel
theorem dX0_slideTo_0 : decode cX0_slideTo 0 = .ok (.aload_n 0, 1) := by decide +kernel
theorem dX0_slideTo_1 : decode cX0_slideTo 1 = .ok (.aload_n 0, 1) := by decide +kernel
theorem dX0_slideTo_2 : decode cX0_slideTo 2 = .ok (.getfield 19, 3) := by decide +kernel
theorem dX0_slideTo_5 : decode cX0_slideTo 5 = .ok (.iload_n 1, 1) := by decide +kernel
theorem dX0_slideTo_6 : decode cX0_slideTo 6 = .ok (.aload_n 0, 1) := by decide +kernel
theorem dX0_slideTo_7 : decode cX0_slideTo 7 = .ok (.getfield 19, 3) := by decide +kernel
theorem dX0_slideTo_10 : decode cX0_slideTo 10 = .ok (.getfield 26, 3) := by decide +kernel
theorem dX0_slideTo_13 : decode cX0_slideTo 13 = .ok (.isub, 1) := by decide +kernel
theorem dX0_slideTo_14 : decode cX0_slideTo 14 = .ok (.invokevirtual 37, 3) := by decide +kernel
theorem dX0_slideTo_17 : decode cX0_slideTo 17 = .ok (.invokevirtual 45, 3) := by decide +kernel
theorem dX0_slideTo_20 : decode cX0_slideTo 20 = .ok (.aload_n 0, 1) := by decide +kernel
theorem dX0_slideTo_21 : decode cX0_slideTo 21 = .ok (.aload_n 0, 1) := by decide +kernel
theorem dX0_slideTo_22 : decode cX0_slideTo 22 = .ok (.getfield 19, 3) := by decide +kernel
theorem dX0_slideTo_25 : decode cX0_slideTo 25 = .ok (.iload_n 1, 1) := by decide +kernel
theorem dX0_slideTo_26 : decode cX0_slideTo 26 = .ok (.invokevirtual 37, 3) := by decide +kernel
theorem dX0_slideTo_29 : decode cX0_slideTo 29 = .ok (.invokevirtual 41, 3) := by decide +kernel
theorem dX0_slideTo_32 : decode cX0_slideTo 32 = .ok (.return_, 1) := by decide +kernel
theorem dX0_putIn_0 : decode cX0_putIn 0 = .ok (.iload_n 1, 1) := by decide +kernel
theorem dX0_putIn_1 : decode cX0_putIn 1 = .ok (.ldc 48, 2) := by decide +kernel
theorem dX0_putIn_3 : decode cX0_putIn 3 = .ok (.if_icmp .eq 15, 3) := by decide +kernel
theorem dX0_putIn_6 : decode cX0_putIn 6 = .ok (.aload_n 0, 1) := by decide +kernel
theorem dX0_putIn_7 : decode cX0_putIn 7 = .ok (.getfield 15, 3) := by decide +kernel
theorem dX0_putIn_10 : decode cX0_putIn 10 = .ok (.aload_n 0, 1) := by decide +kernel
theorem dX0_putIn_11 : decode cX0_putIn 11 = .ok (.getfield 9, 3) := by decide +kernel
theorem dX0_putIn_14 : decode cX0_putIn 14 = .ok (.arraylength, 1) := by decide +kernel
theorem dX0_putIn_15 : decode cX0_putIn 15 = .ok (.if_icmp .lt 4, 3) := by decide +kernel
theorem dX0_putIn_18 : decode cX0_putIn 18 = .ok (.return_, 1) := by decide +kernel
theorem dX0_putIn_19 : decode cX0_putIn 19 = .ok (.aload_n 0, 1) := by decide +kernel
theorem dX0_putIn_20 : decode cX0_putIn 20 = .ok (.getfield 15, 3) := by decide +kernel
theorem dX0_putIn_23 : decode cX0_putIn 23 = .ok (.istore_n 2, 1) := by decide +kernel
theorem dX0_putIn_24 : decode cX0_putIn 24 = .ok (.iload_n 2, 1) := by decide +kernel
theorem dX0_putIn_25 : decode cX0_putIn 25 = .ok (.ifCond .le 35, 3) := by decide +kernel
theorem dX0_putIn_28 : decode cX0_putIn 28 = .ok (.aload_n 0, 1) := by decide +kernel
theorem dX0_putIn_29 : decode cX0_putIn 29 = .ok (.getfield 9, 3) := by decide +kernel
theorem dX0_putIn_32 : decode cX0_putIn 32 = .ok (.iload_n 2, 1) := by decide +kernel
theorem dX0_putIn_33 : decode cX0_putIn 33 = .ok (.iconst 1, 1) := by decide +kernel
theorem dX0_putIn_34 : decode cX0_putIn 34 = .ok (.isub, 1) := by decide +kernel
theorem dX0_putIn_35 : decode cX0_putIn 35 = .ok (.iaload, 1) := by decide +kernel
theorem dX0_putIn_36 : decode cX0_putIn 36 = .ok (.iload_n 1, 1) := by decide +kernel
theorem dX0_putIn_37 : decode cX0_putIn 37 = .ok (.if_icmp .le 23, 3) := by decide +kernel
theorem dX0_putIn_40 : decode cX0_putIn 40 = .ok (.aload_n 0, 1) := by decide +kernel
theorem dX0_putIn_41 : decode cX0_putIn 41 = .ok (.getfield 9, 3) := by decide +kernel
theorem dX0_putIn_44 : decode cX0_putIn 44 = .ok (.iload_n 2, 1) := by decide +kernel
theorem dX0_putIn_45 : decode cX0_putIn 45 = .ok (.aload_n 0, 1) := by decide +kernel
theorem dX0_putIn_46 : decode cX0_putIn 46 = .ok (.getfield 9, 3) := by decide +kernel
theorem dX0_putIn_49 : decode cX0_putIn 49 = .ok (.iload_n 2, 1) := by decide +kernel
theorem dX0_putIn_50 : decode cX0_putIn 50 = .ok (.iconst 1, 1) := by decide +kernel
theorem dX0_putIn_51 : decode cX0_putIn 51 = .ok (.isub, 1) := by decide +kernel
theorem dX0_putIn_52 : decode cX0_putIn 52 = .ok (.iaload, 1) := by decide +kernel
theorem dX0_putIn_53 : decode cX0_putIn 53 = .ok (.iastore, 1) := by decide +kernel
theorem dX0_putIn_54 : decode cX0_putIn 54 = .ok (.iinc 2 (-1), 3) := by decide +kernel
theorem dX0_putIn_57 : decode cX0_putIn 57 = .ok (.goto (-33), 3) := by decide +kernel
theorem dX0_putIn_60 : decode cX0_putIn 60 = .ok (.aload_n 0, 1) := by decide +kernel
theorem dX0_putIn_61 : decode cX0_putIn 61 = .ok (.getfield 9, 3) := by decide +kernel
theorem dX0_putIn_64 : decode cX0_putIn 64 = .ok (.iload_n 2, 1) := by decide +kernel
theorem dX0_putIn_65 : decode cX0_putIn 65 = .ok (.iload_n 1, 1) := by decide +kernel
theorem dX0_putIn_66 : decode cX0_putIn 66 = .ok (.iastore, 1) := by decide +kernel
theorem dX0_putIn_67 : decode cX0_putIn 67 = .ok (.aload_n 0, 1) := by decide +kernel
theorem dX0_putIn_68 : decode cX0_putIn 68 = .ok (.dup, 1) := by decide +kernel
theorem dX0_putIn_69 : decode cX0_putIn 69 = .ok (.getfield 15, 3) := by decide +kernel
theorem dX0_putIn_72 : decode cX0_putIn 72 = .ok (.iconst 1, 1) := by decide +kernel
theorem dX0_putIn_73 : decode cX0_putIn 73 = .ok (.iadd, 1) := by decide +kernel
theorem dX0_putIn_74 : decode cX0_putIn 74 = .ok (.putfield 15, 3) := by decide +kernel
theorem dX0_putIn_77 : decode cX0_putIn 77 = .ok (.return_, 1) := by decide +kernel
theorem dX0_takeOut_0 : decode cX0_takeOut 0 = .ok (.aload_n 0, 1) := by decide +kernel
theorem dX0_takeOut_1 : decode cX0_takeOut 1 = .ok (.iload_n 1, 1) := by decide +kernel
theorem dX0_takeOut_2 : decode cX0_takeOut 2 = .ok (.invokevirtual 49, 3) := by decide +kernel
theorem dX0_takeOut_5 : decode cX0_takeOut 5 = .ok (.istore_n 2, 1) := by decide +kernel
theorem dX0_takeOut_6 : decode cX0_takeOut 6 = .ok (.iload_n 2, 1) := by decide +kernel
theorem dX0_takeOut_7 : decode cX0_takeOut 7 = .ok (.aload_n 0, 1) := by decide +kernel
theorem dX0_takeOut_8 : decode cX0_takeOut 8 = .ok (.getfield 15, 3) := by decide +kernel
theorem dX0_takeOut_11 : decode cX0_takeOut 11 = .ok (.if_icmp .ge 13, 3) := by decide +kernel
theorem dX0_takeOut_14 : decode cX0_takeOut 14 = .ok (.aload_n 0, 1) := by decide +kernel
theorem dX0_takeOut_15 : decode cX0_takeOut 15 = .ok (.getfield 9, 3) := by decide +kernel
theorem dX0_takeOut_18 : decode cX0_takeOut 18 = .ok (.iload_n 2, 1) := by decide +kernel
theorem dX0_takeOut_19 : decode cX0_takeOut 19 = .ok (.iaload, 1) := by decide +kernel
theorem dX0_takeOut_20 : decode cX0_takeOut 20 = .ok (.iload_n 1, 1) := by decide +kernel
theorem dX0_takeOut_21 : decode cX0_takeOut 21 = .ok (.if_icmp .eq 4, 3) := by decide +kernel
theorem dX0_takeOut_24 : decode cX0_takeOut 24 = .ok (.return_, 1) := by decide +kernel
theorem dX0_takeOut_25 : decode cX0_takeOut 25 = .ok (.aload_n 0, 1) := by decide +kernel
theorem dX0_takeOut_26 : decode cX0_takeOut 26 = .ok (.dup, 1) := by decide +kernel
theorem dX0_takeOut_27 : decode cX0_takeOut 27 = .ok (.getfield 15, 3) := by decide +kernel
theorem dX0_takeOut_30 : decode cX0_takeOut 30 = .ok (.iconst 1, 1) := by decide +kernel
theorem dX0_takeOut_31 : decode cX0_takeOut 31 = .ok (.isub, 1) := by decide +kernel
theorem dX0_takeOut_32 : decode cX0_takeOut 32 = .ok (.putfield 15, 3) := by decide +kernel
theorem dX0_takeOut_35 : decode cX0_takeOut 35 = .ok (.iload_n 2, 1) := by decide +kernel
theorem dX0_takeOut_36 : decode cX0_takeOut 36 = .ok (.aload_n 0, 1) := by decide +kernel
theorem dX0_takeOut_37 : decode cX0_takeOut 37 = .ok (.getfield 15, 3) := by decide +kernel
theorem dX0_takeOut_40 : decode cX0_takeOut 40 = .ok (.if_icmp .ge 23, 3) := by decide +kernel
theorem dX0_takeOut_43 : decode cX0_takeOut 43 = .ok (.aload_n 0, 1) := by decide +kernel
theorem dX0_takeOut_44 : decode cX0_takeOut 44 = .ok (.getfield 9, 3) := by decide +kernel
theorem dX0_takeOut_47 : decode cX0_takeOut 47 = .ok (.iload_n 2, 1) := by decide +kernel
theorem dX0_takeOut_48 : decode cX0_takeOut 48 = .ok (.aload_n 0, 1) := by decide +kernel
theorem dX0_takeOut_49 : decode cX0_takeOut 49 = .ok (.getfield 9, 3) := by decide +kernel
theorem dX0_takeOut_52 : decode cX0_takeOut 52 = .ok (.iload_n 2, 1) := by decide +kernel
theorem dX0_takeOut_53 : decode cX0_takeOut 53 = .ok (.iconst 1, 1) := by decide +kernel
theorem dX0_takeOut_54 : decode cX0_takeOut 54 = .ok (.iadd, 1) := by decide +kernel
theorem dX0_takeOut_55 : decode cX0_takeOut 55 = .ok (.iaload, 1) := by decide +kernel
theorem dX0_takeOut_56 : decode cX0_takeOut 56 = .ok (.iastore, 1) := by decide +kernel
theorem dX0_takeOut_57 : decode cX0_takeOut 57 = .ok (.iinc 2 1, 3) := by decide +kernel
theorem dX0_takeOut_60 : decode cX0_takeOut 60 = .ok (.goto (-25), 3) := by decide +kernel
theorem dX0_takeOut_63 : decode cX0_takeOut 63 = .ok (.return_, 1) := by decide +kernel
theorem dX0_at_0 : decode cX0_at 0 = .ok (.iload_n 1, 1) := by decide +kernel
theorem dX0_at_1 : decode cX0_at 1 = .ok (.ifCond .lt 20, 3) := by decide +kernel
theorem dX0_at_4 : decode cX0_at 4 = .ok (.iload_n 1, 1) := by decide +kernel
theorem dX0_at_5 : decode cX0_at 5 = .ok (.aload_n 0, 1) := by decide +kernel
theorem dX0_at_6 : decode cX0_at 6 = .ok (.getfield 15, 3) := by decide +kernel
theorem dX0_at_9 : decode cX0_at 9 = .ok (.if_icmp .ge 12, 3) := by decide +kernel
theorem dX0_at_12 : decode cX0_at 12 = .ok (.aload_n 0, 1) := by decide +kernel
theorem dX0_at_13 : decode cX0_at 13 = .ok (.getfield 9, 3) := by decide +kernel
theorem dX0_at_16 : decode cX0_at 16 = .ok (.iload_n 1, 1) := by decide +kernel
theorem dX0_at_17 : decode cX0_at 17 = .ok (.iaload, 1) := by decide +kernel
theorem dX0_at_18 : decode cX0_at 18 = .ok (.goto 5, 3) := by decide +kernel
theorem dX0_at_21 : decode cX0_at 21 = .ok (.ldc 48, 2) := by decide +kernel
theorem dX0_at_23 : decode cX0_at 23 = .ok (.ireturn, 1) := by decide +kernel
theorem dX0_countLess_0 : decode cX0_countLess 0 = .ok (.iconst 0, 1) := by decide +kernel
theorem dX0_countLess_1 : decode cX0_countLess 1 = .ok (.istore_n 2, 1) := by decide +kernel
theorem dX0_countLess_2 : decode cX0_countLess 2 = .ok (.iload_n 2, 1) := by decide +kernel
theorem dX0_countLess_3 : decode cX0_countLess 3 = .ok (.aload_n 0, 1) := by decide +kernel
theorem dX0_countLess_4 : decode cX0_countLess 4 = .ok (.getfield 15, 3) := by decide +kernel
theorem dX0_countLess_7 : decode cX0_countLess 7 = .ok (.if_icmp .ge 19, 3) := by decide +kernel
theorem dX0_countLess_10 : decode cX0_countLess 10 = .ok (.aload_n 0, 1) := by decide +kernel
theorem dX0_countLess_11 : decode cX0_countLess 11 = .ok (.getfield 9, 3) := by decide +kernel
theorem dX0_countLess_14 : decode cX0_countLess 14 = .ok (.iload_n 2, 1) := by decide +kernel
theorem dX0_countLess_15 : decode cX0_countLess 15 = .ok (.iaload, 1) := by decide +kernel
theorem dX0_countLess_16 : decode cX0_countLess 16 = .ok (.iload_n 1, 1) := by decide +kernel
theorem dX0_countLess_17 : decode cX0_countLess 17 = .ok (.if_icmp .ge 9, 3) := by decide +kernel
theorem dX0_countLess_20 : decode cX0_countLess 20 = .ok (.iinc 2 1, 3) := by decide +kernel
theorem dX0_countLess_23 : decode cX0_countLess 23 = .ok (.goto (-21), 3) := by decide +kernel
theorem dX0_countLess_26 : decode cX0_countLess 26 = .ok (.iload_n 2, 1) := by decide +kernel
theorem dX0_countLess_27 : decode cX0_countLess 27 = .ok (.ireturn, 1) := by decide +kernel
theorem dX0_countSame_0 : decode cX0_countSame 0 = .ok (.iconst 0, 1) := by decide +kernel
theorem dX0_countSame_1 : decode cX0_countSame 1 = .ok (.istore_n 2, 1) := by decide +kernel
theorem dX0_countSame_2 : decode cX0_countSame 2 = .ok (.iconst 0, 1) := by decide +kernel
theorem dX0_countSame_3 : decode cX0_countSame 3 = .ok (.istore_n 3, 1) := by decide +kernel
theorem dX0_countSame_4 : decode cX0_countSame 4 = .ok (.iload_n 3, 1) := by decide +kernel
theorem dX0_countSame_5 : decode cX0_countSame 5 = .ok (.aload_n 0, 1) := by decide +kernel
theorem dX0_countSame_6 : decode cX0_countSame 6 = .ok (.getfield 15, 3) := by decide +kernel
theorem dX0_countSame_9 : decode cX0_countSame 9 = .ok (.if_icmp .ge 22, 3) := by decide +kernel
theorem dX0_countSame_12 : decode cX0_countSame 12 = .ok (.aload_n 0, 1) := by decide +kernel
theorem dX0_countSame_13 : decode cX0_countSame 13 = .ok (.getfield 9, 3) := by decide +kernel
theorem dX0_countSame_16 : decode cX0_countSame 16 = .ok (.iload_n 3, 1) := by decide +kernel
theorem dX0_countSame_17 : decode cX0_countSame 17 = .ok (.iaload, 1) := by decide +kernel
theorem dX0_countSame_18 : decode cX0_countSame 18 = .ok (.iload_n 1, 1) := by decide +kernel
theorem dX0_countSame_19 : decode cX0_countSame 19 = .ok (.if_icmp .ne 6, 3) := by decide +kernel
theorem dX0_countSame_22 : decode cX0_countSame 22 = .ok (.iinc 2 1, 3) := by decide +kernel
theorem dX0_countSame_25 : decode cX0_countSame 25 = .ok (.iinc 3 1, 3) := by decide +kernel
theorem dX0_countSame_28 : decode cX0_countSame 28 = .ok (.goto (-24), 3) := by decide +kernel
theorem dX0_countSame_31 : decode cX0_countSame 31 = .ok (.iload_n 2, 1) := by decide +kernel
theorem dX0_countSame_32 : decode cX0_countSame 32 = .ok (.ireturn, 1) := by decide +kernel
theorem dX0_hasResult_0 : decode cX0_hasResult 0 = .ok (.aload_n 0, 1) := by decide +kernel
theorem dX0_hasResult_1 : decode cX0_hasResult 1 = .ok (.getfield 15, 3) := by decide +kernel
theorem dX0_hasResult_4 : decode cX0_hasResult 4 = .ok (.ifCond .le 21, 3) := by decide +kernel
theorem dX0_hasResult_7 : decode cX0_hasResult 7 = .ok (.aload_n 0, 1) := by decide +kernel
theorem dX0_hasResult_8 : decode cX0_hasResult 8 = .ok (.getfield 15, 3) := by decide +kernel
theorem dX0_hasResult_11 : decode cX0_hasResult 11 = .ok (.aload_n 0, 1) := by decide +kernel
theorem dX0_hasResult_12 : decode cX0_hasResult 12 = .ok (.getfield 19, 3) := by decide +kernel
theorem dX0_hasResult_15 : decode cX0_hasResult 15 = .ok (.getfield 52, 3) := by decide +kernel
theorem dX0_hasResult_18 : decode cX0_hasResult 18 = .ok (.if_icmp .lt 7, 3) := by decide +kernel
theorem dX0_hasResult_21 : decode cX0_hasResult 21 = .ok (.iconst 1, 1) := by decide +kernel
theorem dX0_hasResult_22 : decode cX0_hasResult 22 = .ok (.goto 4, 3) := by decide +kernel
theorem dX0_hasResult_25 : decode cX0_hasResult 25 = .ok (.iconst 0, 1) := by decide +kernel
theorem dX0_hasResult_26 : decode cX0_hasResult 26 = .ok (.ireturn, 1) := by decide +kernel
theorem dX0_placeWhole_0 : decode cX0_placeWhole 0 = .ok (.aload_n 0, 1) := by decide +kernel
theorem dX0_placeWhole_1 : decode cX0_placeWhole 1 = .ok (.getfield 19, 3) := by decide +kernel
theorem dX0_placeWhole_4 : decode cX0_placeWhole 4 = .ok (.getfield 55, 3) := by decide +kernel
theorem dX0_placeWhole_7 : decode cX0_placeWhole 7 = .ok (.iconst 1, 1) := by decide +kernel
theorem dX0_placeWhole_8 : decode cX0_placeWhole 8 = .ok (.if_icmp .ge 7, 3) := by decide +kernel
theorem dX0_placeWhole_11 : decode cX0_placeWhole 11 = .ok (.iconst 0, 1) := by decide +kernel
theorem dX0_placeWhole_12 : decode cX0_placeWhole 12 = .ok (.goto 25, 3) := by decide +kernel
theorem dX0_placeWhole_15 : decode cX0_placeWhole 15 = .ok (.aload_n 0, 1) := by decide +kernel
theorem dX0_placeWhole_16 : decode cX0_placeWhole 16 = .ok (.getfield 15, 3) := by decide +kernel
theorem dX0_placeWhole_19 : decode cX0_placeWhole 19 = .ok (.iconst 1, 1) := by decide +kernel
theorem dX0_placeWhole_20 : decode cX0_placeWhole 20 = .ok (.isub, 1) := by decide +kernel
theorem dX0_placeWhole_21 : decode cX0_placeWhole 21 = .ok (.aload_n 0, 1) := by decide +kernel
theorem dX0_placeWhole_22 : decode cX0_placeWhole 22 = .ok (.getfield 19, 3) := by decide +kernel
theorem dX0_placeWhole_25 : decode cX0_placeWhole 25 = .ok (.getfield 58, 3) := by decide +kernel
theorem dX0_placeWhole_28 : decode cX0_placeWhole 28 = .ok (.imul, 1) := by decide +kernel
theorem dX0_placeWhole_29 : decode cX0_placeWhole 29 = .ok (.aload_n 0, 1) := by decide +kernel
theorem dX0_placeWhole_30 : decode cX0_placeWhole 30 = .ok (.getfield 19, 3) := by decide +kernel
theorem dX0_placeWhole_33 : decode cX0_placeWhole 33 = .ok (.getfield 55, 3) := by decide +kernel
theorem dX0_placeWhole_36 : decode cX0_placeWhole 36 = .ok (.idiv, 1) := by decide +kernel
theorem dX0_placeWhole_37 : decode cX0_placeWhole 37 = .ok (.ireturn, 1) := by decide +kernel
theorem dX0_placeRest_0 : decode cX0_placeRest 0 = .ok (.aload_n 0, 1) := by decide +kernel
theorem dX0_placeRest_1 : decode cX0_placeRest 1 = .ok (.getfield 19, 3) := by decide +kernel
theorem dX0_placeRest_4 : decode cX0_placeRest 4 = .ok (.getfield 55, 3) := by decide +kernel
theorem dX0_placeRest_7 : decode cX0_placeRest 7 = .ok (.iconst 1, 1) := by decide +kernel
theorem dX0_placeRest_8 : decode cX0_placeRest 8 = .ok (.if_icmp .ge 7, 3) := by decide +kernel
theorem dX0_placeRest_11 : decode cX0_placeRest 11 = .ok (.iconst 0, 1) := by decide +kernel
theorem dX0_placeRest_12 : decode cX0_placeRest 12 = .ok (.goto 25, 3) := by decide +kernel
theorem dX0_placeRest_15 : decode cX0_placeRest 15 = .ok (.aload_n 0, 1) := by decide +kernel
theorem dX0_placeRest_16 : decode cX0_placeRest 16 = .ok (.getfield 15, 3) := by decide +kernel
theorem dX0_placeRest_19 : decode cX0_placeRest 19 = .ok (.iconst 1, 1) := by decide +kernel
theorem dX0_placeRest_20 : decode cX0_placeRest 20 = .ok (.isub, 1) := by decide +kernel
theorem dX0_placeRest_21 : decode cX0_placeRest 21 = .ok (.aload_n 0, 1) := by decide +kernel
theorem dX0_placeRest_22 : decode cX0_placeRest 22 = .ok (.getfield 19, 3) := by decide +kernel
theorem dX0_placeRest_25 : decode cX0_placeRest 25 = .ok (.getfield 58, 3) := by decide +kernel
theorem dX0_placeRest_28 : decode cX0_placeRest 28 = .ok (.imul, 1) := by decide +kernel
theorem dX0_placeRest_29 : decode cX0_placeRest 29 = .ok (.aload_n 0, 1) := by decide +kernel
theorem dX0_placeRest_30 : decode cX0_placeRest 30 = .ok (.getfield 19, 3) := by decide +kernel
theorem dX0_placeRest_33 : decode cX0_placeRest 33 = .ok (.getfield 55, 3) := by decide +kernel
theorem dX0_placeRest_36 : decode cX0_placeRest 36 = .ok (.irem, 1) := by decide +kernel
theorem dX0_placeRest_37 : decode cX0_placeRest 37 = .ok (.ireturn, 1) := by decide +kernel
theorem dX0_numerator_0 : decode cX0_numerator 0 = .ok (.aload_n 0, 1) := by decide +kernel
theorem dX0_numerator_1 : decode cX0_numerator 1 = .ok (.invokevirtual 61, 3) := by decide +kernel
theorem dX0_numerator_4 : decode cX0_numerator 4 = .ok (.istore_n 1, 1) := by decide +kernel
theorem dX0_numerator_5 : decode cX0_numerator 5 = .ok (.aload_n 0, 1) := by decide +kernel
theorem dX0_numerator_6 : decode cX0_numerator 6 = .ok (.invokevirtual 65, 3) := by decide +kernel
theorem dX0_numerator_9 : decode cX0_numerator 9 = .ok (.istore_n 2, 1) := by decide +kernel
theorem dX0_numerator_10 : decode cX0_numerator 10 = .ok (.aload_n 0, 1) := by decide +kernel
theorem dX0_numerator_11 : decode cX0_numerator 11 = .ok (.iload_n 1, 1) := by decide +kernel
theorem dX0_numerator_12 : decode cX0_numerator 12 = .ok (.invokevirtual 68, 3) := by decide +kernel
theorem dX0_numerator_15 : decode cX0_numerator 15 = .ok (.istore_n 3, 1) := by decide +kernel
theorem dX0_numerator_16 : decode cX0_numerator 16 = .ok (.iload_n 2, 1) := by decide +kernel
theorem dX0_numerator_17 : decode cX0_numerator 17 = .ok (.ifCond .le 13, 3) := by decide +kernel
theorem dX0_numerator_20 : decode cX0_numerator 20 = .ok (.aload_n 0, 1) := by decide +kernel
theorem dX0_numerator_21 : decode cX0_numerator 21 = .ok (.iload_n 1, 1) := by decide +kernel
theorem dX0_numerator_22 : decode cX0_numerator 22 = .ok (.iconst 1, 1) := by decide +kernel
theorem dX0_numerator_23 : decode cX0_numerator 23 = .ok (.iadd, 1) := by decide +kernel
theorem dX0_numerator_24 : decode cX0_numerator 24 = .ok (.invokevirtual 68, 3) := by decide +kernel
theorem dX0_numerator_27 : decode cX0_numerator 27 = .ok (.goto 4, 3) := by decide +kernel
theorem dX0_numerator_30 : decode cX0_numerator 30 = .ok (.iload_n 3, 1) := by decide +kernel
theorem dX0_numerator_31 : decode cX0_numerator 31 = .ok (.istore 4, 2) := by decide +kernel
theorem dX0_numerator_33 : decode cX0_numerator 33 = .ok (.aload_n 0, 1) := by decide +kernel
theorem dX0_numerator_34 : decode cX0_numerator 34 = .ok (.getfield 19, 3) := by decide +kernel
theorem dX0_numerator_37 : decode cX0_numerator 37 = .ok (.getfield 71, 3) := by decide +kernel
theorem dX0_numerator_40 : decode cX0_numerator 40 = .ok (.tableswitch 58 0 3 #[32, 34, 37, 53], 32) := by decide +kernel
theorem dX0_numerator_72 : decode cX0_numerator 72 = .ok (.iload_n 3, 1) := by decide +kernel
theorem dX0_numerator_73 : decode cX0_numerator 73 = .ok (.ireturn, 1) := by decide +kernel
theorem dX0_numerator_74 : decode cX0_numerator 74 = .ok (.iload 4, 2) := by decide +kernel
theorem dX0_numerator_76 : decode cX0_numerator 76 = .ok (.ireturn, 1) := by decide +kernel
theorem dX0_numerator_77 : decode cX0_numerator 77 = .ok (.aload_n 0, 1) := by decide +kernel
theorem dX0_numerator_78 : decode cX0_numerator 78 = .ok (.iload_n 1, 1) := by decide +kernel
theorem dX0_numerator_79 : decode cX0_numerator 79 = .ok (.iload_n 2, 1) := by decide +kernel
theorem dX0_numerator_80 : decode cX0_numerator 80 = .ok (.invokevirtual 74, 3) := by decide +kernel
theorem dX0_numerator_83 : decode cX0_numerator 83 = .ok (.ifCond .eq 7, 3) := by decide +kernel
theorem dX0_numerator_86 : decode cX0_numerator 86 = .ok (.iload_n 3, 1) := by decide +kernel
theorem dX0_numerator_87 : decode cX0_numerator 87 = .ok (.goto 5, 3) := by decide +kernel
theorem dX0_numerator_90 : decode cX0_numerator 90 = .ok (.iload 4, 2) := by decide +kernel
theorem dX0_numerator_92 : decode cX0_numerator 92 = .ok (.ireturn, 1) := by decide +kernel
theorem dX0_numerator_93 : decode cX0_numerator 93 = .ok (.iload_n 3, 1) := by decide +kernel
theorem dX0_numerator_94 : decode cX0_numerator 94 = .ok (.iload 4, 2) := by decide +kernel
theorem dX0_numerator_96 : decode cX0_numerator 96 = .ok (.iadd, 1) := by decide +kernel
theorem dX0_numerator_97 : decode cX0_numerator 97 = .ok (.ireturn, 1) := by decide +kernel
theorem dX0_numerator_98 : decode cX0_numerator 98 = .ok (.iload_n 3, 1) := by decide +kernel
theorem dX0_numerator_99 : decode cX0_numerator 99 = .ok (.aload_n 0, 1) := by decide +kernel
theorem dX0_numerator_100 : decode cX0_numerator 100 = .ok (.getfield 19, 3) := by decide +kernel
theorem dX0_numerator_103 : decode cX0_numerator 103 = .ok (.getfield 55, 3) := by decide +kernel
theorem dX0_numerator_106 : decode cX0_numerator 106 = .ok (.iload_n 2, 1) := by decide +kernel
theorem dX0_numerator_107 : decode cX0_numerator 107 = .ok (.isub, 1) := by decide +kernel
theorem dX0_numerator_108 : decode cX0_numerator 108 = .ok (.imul, 1) := by decide +kernel
theorem dX0_numerator_109 : decode cX0_numerator 109 = .ok (.iload 4, 2) := by decide +kernel
theorem dX0_numerator_111 : decode cX0_numerator 111 = .ok (.iload_n 2, 1) := by decide +kernel
theorem dX0_numerator_112 : decode cX0_numerator 112 = .ok (.imul, 1) := by decide +kernel
theorem dX0_numerator_113 : decode cX0_numerator 113 = .ok (.iadd, 1) := by decide +kernel
theorem dX0_numerator_114 : decode cX0_numerator 114 = .ok (.ireturn, 1) := by decide +kernel
theorem dX0_isNearLower_0 : decode cX0_isNearLower 0 = .ok (.iconst 2, 1) := by decide +kernel
theorem dX0_isNearLower_1 : decode cX0_isNearLower 1 = .ok (.iload_n 2, 1) := by decide +kernel
theorem dX0_isNearLower_2 : decode cX0_isNearLower 2 = .ok (.imul, 1) := by decide +kernel
theorem dX0_isNearLower_3 : decode cX0_isNearLower 3 = .ok (.aload_n 0, 1) := by decide +kernel
theorem dX0_isNearLower_4 : decode cX0_isNearLower 4 = .ok (.getfield 19, 3) := by decide +kernel
theorem dX0_isNearLower_7 : decode cX0_isNearLower 7 = .ok (.getfield 55, 3) := by decide +kernel
theorem dX0_isNearLower_10 : decode cX0_isNearLower 10 = .ok (.if_icmp .lt 22, 3) := by decide +kernel
theorem dX0_isNearLower_13 : decode cX0_isNearLower 13 = .ok (.iconst 2, 1) := by decide +kernel
theorem dX0_isNearLower_14 : decode cX0_isNearLower 14 = .ok (.iload_n 2, 1) := by decide +kernel
theorem dX0_isNearLower_15 : decode cX0_isNearLower 15 = .ok (.imul, 1) := by decide +kernel
theorem dX0_isNearLower_16 : decode cX0_isNearLower 16 = .ok (.aload_n 0, 1) := by decide +kernel
theorem dX0_isNearLower_17 : decode cX0_isNearLower 17 = .ok (.getfield 19, 3) := by decide +kernel
theorem dX0_isNearLower_20 : decode cX0_isNearLower 20 = .ok (.getfield 55, 3) := by decide +kernel
theorem dX0_isNearLower_23 : decode cX0_isNearLower 23 = .ok (.if_icmp .ne 13, 3) := by decide +kernel
theorem dX0_isNearLower_26 : decode cX0_isNearLower 26 = .ok (.iload_n 1, 1) := by decide +kernel
theorem dX0_isNearLower_27 : decode cX0_isNearLower 27 = .ok (.iconst 2, 1) := by decide +kernel
theorem dX0_isNearLower_28 : decode cX0_isNearLower 28 = .ok (.irem, 1) := by decide +kernel
theorem dX0_isNearLower_29 : decode cX0_isNearLower 29 = .ok (.ifCond .ne 7, 3) := by decide +kernel
theorem dX0_isNearLower_32 : decode cX0_isNearLower 32 = .ok (.iconst 1, 1) := by decide +kernel
theorem dX0_isNearLower_33 : decode cX0_isNearLower 33 = .ok (.goto 4, 3) := by decide +kernel
theorem dX0_isNearLower_36 : decode cX0_isNearLower 36 = .ok (.iconst 0, 1) := by decide +kernel
theorem dX0_isNearLower_37 : decode cX0_isNearLower 37 = .ok (.ireturn, 1) := by decide +kernel
theorem dX0_denominator_0 : decode cX0_denominator 0 = .ok (.aload_n 0, 1) := by decide +kernel
theorem dX0_denominator_1 : decode cX0_denominator 1 = .ok (.getfield 19, 3) := by decide +kernel
theorem dX0_denominator_4 : decode cX0_denominator 4 = .ok (.getfield 71, 3) := by decide +kernel
theorem dX0_denominator_7 : decode cX0_denominator 7 = .ok (.lookupswitch 35 #[(3, 25), (4, 27)], 25) := by decide +kernel
theorem dX0_denominator_32 : decode cX0_denominator 32 = .ok (.iconst 2, 1) := by decide +kernel
theorem dX0_denominator_33 : decode cX0_denominator 33 = .ok (.ireturn, 1) := by decide +kernel
theorem dX0_denominator_34 : decode cX0_denominator 34 = .ok (.aload_n 0, 1) := by decide +kernel
theorem dX0_denominator_35 : decode cX0_denominator 35 = .ok (.getfield 19, 3) := by decide +kernel
theorem dX0_denominator_38 : decode cX0_denominator 38 = .ok (.getfield 55, 3) := by decide +kernel
theorem dX0_denominator_41 : decode cX0_denominator 41 = .ok (.ireturn, 1) := by decide +kernel
theorem dX0_denominator_42 : decode cX0_denominator 42 = .ok (.iconst 1, 1) := by decide +kernel
theorem dX0_denominator_43 : decode cX0_denominator 43 = .ok (.ireturn, 1) := by decide +kernel
theorem dX0_rounded_0 : decode cX0_rounded 0 = .ok (.aload_n 0, 1) := by decide +kernel
theorem dX0_rounded_1 : decode cX0_rounded 1 = .ok (.invokevirtual 78, 3) := by decide +kernel
theorem dX0_rounded_4 : decode cX0_rounded 4 = .ok (.istore_n 1, 1) := by decide +kernel
theorem dX0_rounded_5 : decode cX0_rounded 5 = .ok (.aload_n 0, 1) := by decide +kernel
theorem dX0_rounded_6 : decode cX0_rounded 6 = .ok (.invokevirtual 81, 3) := by decide +kernel
theorem dX0_rounded_9 : decode cX0_rounded 9 = .ok (.istore_n 2, 1) := by decide +kernel
theorem dX0_rounded_10 : decode cX0_rounded 10 = .ok (.iload_n 2, 1) := by decide +kernel
theorem dX0_rounded_11 : decode cX0_rounded 11 = .ok (.iconst 1, 1) := by decide +kernel
theorem dX0_rounded_12 : decode cX0_rounded 12 = .ok (.if_icmp .ge 5, 3) := by decide +kernel
theorem dX0_rounded_15 : decode cX0_rounded 15 = .ok (.iconst 0, 1) := by decide +kernel
theorem dX0_rounded_16 : decode cX0_rounded 16 = .ok (.ireturn, 1) := by decide +kernel
theorem dX0_rounded_17 : decode cX0_rounded 17 = .ok (.iconst 2, 1) := by decide +kernel
theorem dX0_rounded_18 : decode cX0_rounded 18 = .ok (.iload_n 1, 1) := by decide +kernel
theorem dX0_rounded_19 : decode cX0_rounded 19 = .ok (.invokestatic 84, 3) := by decide +kernel
theorem dX0_rounded_22 : decode cX0_rounded 22 = .ok (.imul, 1) := by decide +kernel
theorem dX0_rounded_23 : decode cX0_rounded 23 = .ok (.iload_n 2, 1) := by decide +kernel
theorem dX0_rounded_24 : decode cX0_rounded 24 = .ok (.iadd, 1) := by decide +kernel
theorem dX0_rounded_25 : decode cX0_rounded 25 = .ok (.iconst 2, 1) := by decide +kernel
theorem dX0_rounded_26 : decode cX0_rounded 26 = .ok (.iload_n 2, 1) := by decide +kernel
theorem dX0_rounded_27 : decode cX0_rounded 27 = .ok (.imul, 1) := by decide +kernel
theorem dX0_rounded_28 : decode cX0_rounded 28 = .ok (.idiv, 1) := by decide +kernel
theorem dX0_rounded_29 : decode cX0_rounded 29 = .ok (.istore_n 3, 1) := by decide +kernel
theorem dX0_rounded_30 : decode cX0_rounded 30 = .ok (.iload_n 1, 1) := by decide +kernel
theorem dX0_rounded_31 : decode cX0_rounded 31 = .ok (.ifCond .ge 8, 3) := by decide +kernel
theorem dX0_rounded_34 : decode cX0_rounded 34 = .ok (.iload_n 3, 1) := by decide +kernel
theorem dX0_rounded_35 : decode cX0_rounded 35 = .ok (.ineg, 1) := by decide +kernel
theorem dX0_rounded_36 : decode cX0_rounded 36 = .ok (.goto 4, 3) := by decide +kernel
theorem dX0_rounded_39 : decode cX0_rounded 39 = .ok (.iload_n 3, 1) := by decide +kernel
theorem dX0_rounded_40 : decode cX0_rounded 40 = .ok (.ireturn, 1) := by decide +kernel
theorem dX0_isAbove_0 : decode cX0_isAbove 0 = .ok (.aload_n 0, 1) := by decide +kernel
theorem dX0_isAbove_1 : decode cX0_isAbove 1 = .ok (.invokevirtual 87, 3) := by decide +kernel
theorem dX0_isAbove_4 : decode cX0_isAbove 4 = .ok (.ifCond .eq 24, 3) := by decide +kernel
theorem dX0_isAbove_7 : decode cX0_isAbove 7 = .ok (.aload_n 0, 1) := by decide +kernel
theorem dX0_isAbove_8 : decode cX0_isAbove 8 = .ok (.invokevirtual 78, 3) := by decide +kernel
theorem dX0_isAbove_11 : decode cX0_isAbove 11 = .ok (.i2l, 1) := by decide +kernel
theorem dX0_isAbove_12 : decode cX0_isAbove 12 = .ok (.iload_n 1, 1) := by decide +kernel
theorem dX0_isAbove_13 : decode cX0_isAbove 13 = .ok (.i2l, 1) := by decide +kernel
theorem dX0_isAbove_14 : decode cX0_isAbove 14 = .ok (.aload_n 0, 1) := by decide +kernel
theorem dX0_isAbove_15 : decode cX0_isAbove 15 = .ok (.invokevirtual 81, 3) := by decide +kernel
theorem dX0_isAbove_18 : decode cX0_isAbove 18 = .ok (.i2l, 1) := by decide +kernel
theorem dX0_isAbove_19 : decode cX0_isAbove 19 = .ok (.lmul, 1) := by decide +kernel
theorem dX0_isAbove_20 : decode cX0_isAbove 20 = .ok (.lcmp, 1) := by decide +kernel
theorem dX0_isAbove_21 : decode cX0_isAbove 21 = .ok (.ifCond .le 7, 3) := by decide +kernel
theorem dX0_isAbove_24 : decode cX0_isAbove 24 = .ok (.iconst 1, 1) := by decide +kernel
theorem dX0_isAbove_25 : decode cX0_isAbove 25 = .ok (.goto 4, 3) := by decide +kernel
theorem dX0_isAbove_28 : decode cX0_isAbove 28 = .ok (.iconst 0, 1) := by decide +kernel
theorem dX0_isAbove_29 : decode cX0_isAbove 29 = .ok (.ireturn, 1) := by decide +kernel
theorem dX0_middleValue_0 : decode cX0_middleValue 0 = .ok (.aload_n 0, 1) := by decide +kernel
theorem dX0_middleValue_1 : decode cX0_middleValue 1 = .ok (.aload_n 0, 1) := by decide +kernel
theorem dX0_middleValue_2 : decode cX0_middleValue 2 = .ok (.getfield 15, 3) := by decide +kernel
theorem dX0_middleValue_5 : decode cX0_middleValue 5 = .ok (.iconst 1, 1) := by decide +kernel
theorem dX0_middleValue_6 : decode cX0_middleValue 6 = .ok (.isub, 1) := by decide +kernel
theorem dX0_middleValue_7 : decode cX0_middleValue 7 = .ok (.iconst 2, 1) := by decide +kernel
theorem dX0_middleValue_8 : decode cX0_middleValue 8 = .ok (.idiv, 1) := by decide +kernel
theorem dX0_middleValue_9 : decode cX0_middleValue 9 = .ok (.invokevirtual 68, 3) := by decide +kernel
theorem dX0_middleValue_12 : decode cX0_middleValue 12 = .ok (.ireturn, 1) := by decide +kernel
theorem dX0_spread_0 : decode cX0_spread 0 = .ok (.aload_n 0, 1) := by decide +kernel
theorem dX0_spread_1 : decode cX0_spread 1 = .ok (.getfield 15, 3) := by decide +kernel
theorem dX0_spread_4 : decode cX0_spread 4 = .ok (.iconst 1, 1) := by decide +kernel
theorem dX0_spread_5 : decode cX0_spread 5 = .ok (.isub, 1) := by decide +kernel
theorem dX0_spread_6 : decode cX0_spread 6 = .ok (.iconst 2, 1) := by decide +kernel
theorem dX0_spread_7 : decode cX0_spread 7 = .ok (.idiv, 1) := by decide +kernel
theorem dX0_spread_8 : decode cX0_spread 8 = .ok (.istore_n 1, 1) := by decide +kernel
theorem dX0_spread_9 : decode cX0_spread 9 = .ok (.iload_n 1, 1) := by decide +kernel
theorem dX0_spread_10 : decode cX0_spread 10 = .ok (.iconst 1, 1) := by decide +kernel
theorem dX0_spread_11 : decode cX0_spread 11 = .ok (.isub, 1) := by decide +kernel
theorem dX0_spread_12 : decode cX0_spread 12 = .ok (.istore_n 2, 1) := by decide +kernel
theorem dX0_spread_13 : decode cX0_spread 13 = .ok (.iload_n 1, 1) := by decide +kernel
theorem dX0_spread_14 : decode cX0_spread 14 = .ok (.iconst 1, 1) := by decide +kernel
theorem dX0_spread_15 : decode cX0_spread 15 = .ok (.iadd, 1) := by decide +kernel
theorem dX0_spread_16 : decode cX0_spread 16 = .ok (.istore_n 3, 1) := by decide +kernel
theorem dX0_spread_17 : decode cX0_spread 17 = .ok (.iconst 0, 1) := by decide +kernel
theorem dX0_spread_18 : decode cX0_spread 18 = .ok (.istore 4, 2) := by decide +kernel
theorem dX0_spread_20 : decode cX0_spread 20 = .ok (.iconst 0, 1) := by decide +kernel
theorem dX0_spread_21 : decode cX0_spread 21 = .ok (.istore 5, 2) := by decide +kernel
theorem dX0_spread_23 : decode cX0_spread 23 = .ok (.iload 5, 2) := by decide +kernel
theorem dX0_spread_25 : decode cX0_spread 25 = .ok (.iload_n 1, 1) := by decide +kernel
theorem dX0_spread_26 : decode cX0_spread 26 = .ok (.if_icmp .ge 81, 3) := by decide +kernel
theorem dX0_spread_29 : decode cX0_spread 29 = .ok (.iload_n 2, 1) := by decide +kernel
theorem dX0_spread_30 : decode cX0_spread 30 = .ok (.ifCond .lt 17, 3) := by decide +kernel
theorem dX0_spread_33 : decode cX0_spread 33 = .ok (.aload_n 0, 1) := by decide +kernel
theorem dX0_spread_34 : decode cX0_spread 34 = .ok (.iload_n 1, 1) := by decide +kernel
theorem dX0_spread_35 : decode cX0_spread 35 = .ok (.invokevirtual 68, 3) := by decide +kernel
theorem dX0_spread_38 : decode cX0_spread 38 = .ok (.aload_n 0, 1) := by decide +kernel
theorem dX0_spread_39 : decode cX0_spread 39 = .ok (.iload_n 2, 1) := by decide +kernel
theorem dX0_spread_40 : decode cX0_spread 40 = .ok (.invokevirtual 68, 3) := by decide +kernel
theorem dX0_spread_43 : decode cX0_spread 43 = .ok (.isub, 1) := by decide +kernel
theorem dX0_spread_44 : decode cX0_spread 44 = .ok (.goto 5, 3) := by decide +kernel
theorem dX0_spread_47 : decode cX0_spread 47 = .ok (.ldc 48, 2) := by decide +kernel
theorem dX0_spread_49 : decode cX0_spread 49 = .ok (.istore 6, 2) := by decide +kernel
theorem dX0_spread_51 : decode cX0_spread 51 = .ok (.iload_n 3, 1) := by decide +kernel
theorem dX0_spread_52 : decode cX0_spread 52 = .ok (.aload_n 0, 1) := by decide +kernel
theorem dX0_spread_53 : decode cX0_spread 53 = .ok (.getfield 15, 3) := by decide +kernel
theorem dX0_spread_56 : decode cX0_spread 56 = .ok (.if_icmp .ge 17, 3) := by decide +kernel
theorem dX0_spread_59 : decode cX0_spread 59 = .ok (.aload_n 0, 1) := by decide +kernel
theorem dX0_spread_60 : decode cX0_spread 60 = .ok (.iload_n 3, 1) := by decide +kernel
theorem dX0_spread_61 : decode cX0_spread 61 = .ok (.invokevirtual 68, 3) := by decide +kernel
theorem dX0_spread_64 : decode cX0_spread 64 = .ok (.aload_n 0, 1) := by decide +kernel
theorem dX0_spread_65 : decode cX0_spread 65 = .ok (.iload_n 1, 1) := by decide +kernel
theorem dX0_spread_66 : decode cX0_spread 66 = .ok (.invokevirtual 68, 3) := by decide +kernel
theorem dX0_spread_69 : decode cX0_spread 69 = .ok (.isub, 1) := by decide +kernel
theorem dX0_spread_70 : decode cX0_spread 70 = .ok (.goto 5, 3) := by decide +kernel
theorem dX0_spread_73 : decode cX0_spread 73 = .ok (.ldc 48, 2) := by decide +kernel
theorem dX0_spread_75 : decode cX0_spread 75 = .ok (.istore 7, 2) := by decide +kernel
theorem dX0_spread_77 : decode cX0_spread 77 = .ok (.iload 6, 2) := by decide +kernel
theorem dX0_spread_79 : decode cX0_spread 79 = .ok (.iload 7, 2) := by decide +kernel
theorem dX0_spread_81 : decode cX0_spread 81 = .ok (.if_icmp .gt 13, 3) := by decide +kernel
theorem dX0_spread_84 : decode cX0_spread 84 = .ok (.iload 6, 2) := by decide +kernel
theorem dX0_spread_86 : decode cX0_spread 86 = .ok (.istore 4, 2) := by decide +kernel
theorem dX0_spread_88 : decode cX0_spread 88 = .ok (.iinc 2 (-1), 3) := by decide +kernel
theorem dX0_spread_91 : decode cX0_spread 91 = .ok (.goto 10, 3) := by decide +kernel
theorem dX0_spread_94 : decode cX0_spread 94 = .ok (.iload 7, 2) := by decide +kernel
theorem dX0_spread_96 : decode cX0_spread 96 = .ok (.istore 4, 2) := by decide +kernel
theorem dX0_spread_98 : decode cX0_spread 98 = .ok (.iinc 3 1, 3) := by decide +kernel
theorem dX0_spread_101 : decode cX0_spread 101 = .ok (.iinc 5 1, 3) := by decide +kernel
theorem dX0_spread_104 : decode cX0_spread 104 = .ok (.goto (-81), 3) := by decide +kernel
theorem dX0_spread_107 : decode cX0_spread 107 = .ok (.iload 4, 2) := by decide +kernel
theorem dX0_spread_109 : decode cX0_spread 109 = .ok (.ireturn, 1) := by decide +kernel
theorem dX0_isFar_0 : decode cX0_isFar 0 = .ok (.iload_n 1, 1) := by decide +kernel
theorem dX0_isFar_1 : decode cX0_isFar 1 = .ok (.ldc 48, 2) := by decide +kernel
theorem dX0_isFar_3 : decode cX0_isFar 3 = .ok (.if_icmp .eq 25, 3) := by decide +kernel
theorem dX0_isFar_6 : decode cX0_isFar 6 = .ok (.iload_n 1, 1) := by decide +kernel
theorem dX0_isFar_7 : decode cX0_isFar 7 = .ok (.aload_n 0, 1) := by decide +kernel
theorem dX0_isFar_8 : decode cX0_isFar 8 = .ok (.invokevirtual 91, 3) := by decide +kernel
theorem dX0_isFar_11 : decode cX0_isFar 11 = .ok (.isub, 1) := by decide +kernel
theorem dX0_isFar_12 : decode cX0_isFar 12 = .ok (.invokestatic 84, 3) := by decide +kernel
theorem dX0_isFar_15 : decode cX0_isFar 15 = .ok (.iload_n 2, 1) := by decide +kernel
theorem dX0_isFar_16 : decode cX0_isFar 16 = .ok (.aload_n 0, 1) := by decide +kernel
theorem dX0_isFar_17 : decode cX0_isFar 17 = .ok (.invokevirtual 94, 3) := by decide +kernel
theorem dX0_isFar_20 : decode cX0_isFar 20 = .ok (.imul, 1) := by decide +kernel
theorem dX0_isFar_21 : decode cX0_isFar 21 = .ok (.if_icmp .le 7, 3) := by decide +kernel
theorem dX0_isFar_24 : decode cX0_isFar 24 = .ok (.iconst 1, 1) := by decide +kernel
theorem dX0_isFar_25 : decode cX0_isFar 25 = .ok (.goto 4, 3) := by decide +kernel
theorem dX0_isFar_28 : decode cX0_isFar 28 = .ok (.iconst 0, 1) := by decide +kernel
theorem dX0_isFar_29 : decode cX0_isFar 29 = .ok (.ireturn, 1) := by decide +kernel
theorem dX1_init_0 : decode cX1_init 0 = .ok (.aload_n 0, 1) := by decide +kernel
theorem dX1_init_1 : decode cX1_init 1 = .ok (.invokespecial 3, 3) := by decide +kernel
theorem dX1_init_4 : decode cX1_init 4 = .ok (.aload_n 0, 1) := by decide +kernel
theorem dX1_init_5 : decode cX1_init 5 = .ok (.bipush 96, 2) := by decide +kernel
theorem dX1_init_7 : decode cX1_init 7 = .ok (.newarray .int, 2) := by decide +kernel
theorem dX1_init_9 : decode cX1_init 9 = .ok (.putfield 9, 3) := by decide +kernel
theorem dX1_init_12 : decode cX1_init 12 = .ok (.aload_n 0, 1) := by decide +kernel
theorem dX1_init_13 : decode cX1_init 13 = .ok (.invokevirtual 15, 3) := by decide +kernel
theorem dX1_init_16 : decode cX1_init 16 = .ok (.return_, 1) := by decide +kernel
theorem dX1_reset_0 : decode cX1_reset 0 = .ok (.aload_n 0, 1) := by decide +kernel
theorem dX1_reset_1 : decode cX1_reset 1 = .ok (.iconst 0, 1) := by decide +kernel
theorem dX1_reset_2 : decode cX1_reset 2 = .ok (.putfield 18, 3) := by decide +kernel
theorem dX1_reset_5 : decode cX1_reset 5 = .ok (.aload_n 0, 1) := by decide +kernel
theorem dX1_reset_6 : decode cX1_reset 6 = .ok (.iconst 5, 1) := by decide +kernel
theorem dX1_reset_7 : decode cX1_reset 7 = .ok (.putfield 22, 3) := by decide +kernel
theorem dX1_reset_10 : decode cX1_reset 10 = .ok (.aload_n 0, 1) := by decide +kernel
theorem dX1_reset_11 : decode cX1_reset 11 = .ok (.iconst 1, 1) := by decide +kernel
theorem dX1_reset_12 : decode cX1_reset 12 = .ok (.putfield 25, 3) := by decide +kernel
theorem dX1_reset_15 : decode cX1_reset 15 = .ok (.aload_n 0, 1) := by decide +kernel
theorem dX1_reset_16 : decode cX1_reset 16 = .ok (.iconst 1, 1) := by decide +kernel
theorem dX1_reset_17 : decode cX1_reset 17 = .ok (.putfield 28, 3) := by decide +kernel
theorem dX1_reset_20 : decode cX1_reset 20 = .ok (.aload_n 0, 1) := by decide +kernel
theorem dX1_reset_21 : decode cX1_reset 21 = .ok (.iconst 2, 1) := by decide +kernel
theorem dX1_reset_22 : decode cX1_reset 22 = .ok (.putfield 31, 3) := by decide +kernel
theorem dX1_reset_25 : decode cX1_reset 25 = .ok (.aload_n 0, 1) := by decide +kernel
theorem dX1_reset_26 : decode cX1_reset 26 = .ok (.iconst 0, 1) := by decide +kernel
theorem dX1_reset_27 : decode cX1_reset 27 = .ok (.putfield 34, 3) := by decide +kernel
theorem dX1_reset_30 : decode cX1_reset 30 = .ok (.aload_n 0, 1) := by decide +kernel
theorem dX1_reset_31 : decode cX1_reset 31 = .ok (.iconst 0, 1) := by decide +kernel
theorem dX1_reset_32 : decode cX1_reset 32 = .ok (.putfield 37, 3) := by decide +kernel
theorem dX1_reset_35 : decode cX1_reset 35 = .ok (.return_, 1) := by decide +kernel
theorem dX1_copyFrom_0 : decode cX1_copyFrom 0 = .ok (.aload_n 1, 1) := by decide +kernel
theorem dX1_copyFrom_1 : decode cX1_copyFrom 1 = .ok (.getfield 9, 3) := by decide +kernel
theorem dX1_copyFrom_4 : decode cX1_copyFrom 4 = .ok (.iconst 0, 1) := by decide +kernel
theorem dX1_copyFrom_5 : decode cX1_copyFrom 5 = .ok (.aload_n 0, 1) := by decide +kernel
theorem dX1_copyFrom_6 : decode cX1_copyFrom 6 = .ok (.getfield 9, 3) := by decide +kernel
theorem dX1_copyFrom_9 : decode cX1_copyFrom 9 = .ok (.iconst 0, 1) := by decide +kernel
theorem dX1_copyFrom_10 : decode cX1_copyFrom 10 = .ok (.aload_n 1, 1) := by decide +kernel
theorem dX1_copyFrom_11 : decode cX1_copyFrom 11 = .ok (.getfield 18, 3) := by decide +kernel
theorem dX1_copyFrom_14 : decode cX1_copyFrom 14 = .ok (.invokestatic 40, 3) := by decide +kernel
theorem dX1_copyFrom_17 : decode cX1_copyFrom 17 = .ok (.aload_n 0, 1) := by decide +kernel
theorem dX1_copyFrom_18 : decode cX1_copyFrom 18 = .ok (.aload_n 1, 1) := by decide +kernel
theorem dX1_copyFrom_19 : decode cX1_copyFrom 19 = .ok (.getfield 18, 3) := by decide +kernel
theorem dX1_copyFrom_22 : decode cX1_copyFrom 22 = .ok (.putfield 18, 3) := by decide +kernel
theorem dX1_copyFrom_25 : decode cX1_copyFrom 25 = .ok (.aload_n 0, 1) := by decide +kernel
theorem dX1_copyFrom_26 : decode cX1_copyFrom 26 = .ok (.aload_n 1, 1) := by decide +kernel
theorem dX1_copyFrom_27 : decode cX1_copyFrom 27 = .ok (.getfield 22, 3) := by decide +kernel
theorem dX1_copyFrom_30 : decode cX1_copyFrom 30 = .ok (.putfield 22, 3) := by decide +kernel
theorem dX1_copyFrom_33 : decode cX1_copyFrom 33 = .ok (.aload_n 0, 1) := by decide +kernel
theorem dX1_copyFrom_34 : decode cX1_copyFrom 34 = .ok (.aload_n 1, 1) := by decide +kernel
theorem dX1_copyFrom_35 : decode cX1_copyFrom 35 = .ok (.getfield 25, 3) := by decide +kernel
theorem dX1_copyFrom_38 : decode cX1_copyFrom 38 = .ok (.putfield 25, 3) := by decide +kernel
theorem dX1_copyFrom_41 : decode cX1_copyFrom 41 = .ok (.aload_n 0, 1) := by decide +kernel
theorem dX1_copyFrom_42 : decode cX1_copyFrom 42 = .ok (.aload_n 1, 1) := by decide +kernel
theorem dX1_copyFrom_43 : decode cX1_copyFrom 43 = .ok (.getfield 28, 3) := by decide +kernel
theorem dX1_copyFrom_46 : decode cX1_copyFrom 46 = .ok (.putfield 28, 3) := by decide +kernel
theorem dX1_copyFrom_49 : decode cX1_copyFrom 49 = .ok (.aload_n 0, 1) := by decide +kernel
theorem dX1_copyFrom_50 : decode cX1_copyFrom 50 = .ok (.aload_n 1, 1) := by decide +kernel
theorem dX1_copyFrom_51 : decode cX1_copyFrom 51 = .ok (.getfield 31, 3) := by decide +kernel
theorem dX1_copyFrom_54 : decode cX1_copyFrom 54 = .ok (.putfield 31, 3) := by decide +kernel
theorem dX1_copyFrom_57 : decode cX1_copyFrom 57 = .ok (.aload_n 0, 1) := by decide +kernel
theorem dX1_copyFrom_58 : decode cX1_copyFrom 58 = .ok (.aload_n 1, 1) := by decide +kernel
theorem dX1_copyFrom_59 : decode cX1_copyFrom 59 = .ok (.getfield 34, 3) := by decide +kernel
theorem dX1_copyFrom_62 : decode cX1_copyFrom 62 = .ok (.putfield 34, 3) := by decide +kernel
theorem dX1_copyFrom_65 : decode cX1_copyFrom 65 = .ok (.aload_n 0, 1) := by decide +kernel
theorem dX1_copyFrom_66 : decode cX1_copyFrom 66 = .ok (.aload_n 1, 1) := by decide +kernel
theorem dX1_copyFrom_67 : decode cX1_copyFrom 67 = .ok (.getfield 37, 3) := by decide +kernel
theorem dX1_copyFrom_70 : decode cX1_copyFrom 70 = .ok (.putfield 37, 3) := by decide +kernel
theorem dX1_copyFrom_73 : decode cX1_copyFrom 73 = .ok (.return_, 1) := by decide +kernel
theorem dX1_has_0 : decode cX1_has 0 = .ok (.iload_n 1, 1) := by decide +kernel
theorem dX1_has_1 : decode cX1_has 1 = .ok (.ifCond .lt 15, 3) := by decide +kernel
theorem dX1_has_4 : decode cX1_has 4 = .ok (.iload_n 1, 1) := by decide +kernel
theorem dX1_has_5 : decode cX1_has 5 = .ok (.aload_n 0, 1) := by decide +kernel
theorem dX1_has_6 : decode cX1_has 6 = .ok (.getfield 18, 3) := by decide +kernel
theorem dX1_has_9 : decode cX1_has 9 = .ok (.if_icmp .ge 7, 3) := by decide +kernel
theorem dX1_has_12 : decode cX1_has 12 = .ok (.iconst 1, 1) := by decide +kernel
theorem dX1_has_13 : decode cX1_has 13 = .ok (.goto 4, 3) := by decide +kernel
theorem dX1_has_16 : decode cX1_has 16 = .ok (.iconst 0, 1) := by decide +kernel
theorem dX1_has_17 : decode cX1_has 17 = .ok (.ireturn, 1) := by decide +kernel
theorem dX1_isFull_0 : decode cX1_isFull 0 = .ok (.aload_n 0, 1) := by decide +kernel
theorem dX1_isFull_1 : decode cX1_isFull 1 = .ok (.getfield 18, 3) := by decide +kernel
theorem dX1_isFull_4 : decode cX1_isFull 4 = .ok (.bipush 96, 2) := by decide +kernel
theorem dX1_isFull_6 : decode cX1_isFull 6 = .ok (.if_icmp .lt 7, 3) := by decide +kernel
theorem dX1_isFull_9 : decode cX1_isFull 9 = .ok (.iconst 1, 1) := by decide +kernel
theorem dX1_isFull_10 : decode cX1_isFull 10 = .ok (.goto 4, 3) := by decide +kernel
theorem dX1_isFull_13 : decode cX1_isFull 13 = .ok (.iconst 0, 1) := by decide +kernel
theorem dX1_isFull_14 : decode cX1_isFull 14 = .ok (.ireturn, 1) := by decide +kernel
theorem dX1_valueAt_0 : decode cX1_valueAt 0 = .ok (.aload_n 0, 1) := by decide +kernel
theorem dX1_valueAt_1 : decode cX1_valueAt 1 = .ok (.iload_n 1, 1) := by decide +kernel
theorem dX1_valueAt_2 : decode cX1_valueAt 2 = .ok (.invokevirtual 46, 3) := by decide +kernel
theorem dX1_valueAt_5 : decode cX1_valueAt 5 = .ok (.ifCond .eq 12, 3) := by decide +kernel
theorem dX1_valueAt_8 : decode cX1_valueAt 8 = .ok (.aload_n 0, 1) := by decide +kernel
theorem dX1_valueAt_9 : decode cX1_valueAt 9 = .ok (.getfield 9, 3) := by decide +kernel
theorem dX1_valueAt_12 : decode cX1_valueAt 12 = .ok (.iload_n 1, 1) := by decide +kernel
theorem dX1_valueAt_13 : decode cX1_valueAt 13 = .ok (.iaload, 1) := by decide +kernel
theorem dX1_valueAt_14 : decode cX1_valueAt 14 = .ok (.goto 5, 3) := by decide +kernel
theorem dX1_valueAt_17 : decode cX1_valueAt 17 = .ok (.ldc 50, 2) := by decide +kernel
theorem dX1_valueAt_19 : decode cX1_valueAt 19 = .ok (.ireturn, 1) := by decide +kernel
theorem dX1_append_0 : decode cX1_append 0 = .ok (.aload_n 0, 1) := by decide +kernel
theorem dX1_append_1 : decode cX1_append 1 = .ok (.invokevirtual 51, 3) := by decide +kernel
theorem dX1_append_4 : decode cX1_append 4 = .ok (.ifCond .ne 23, 3) := by decide +kernel
theorem dX1_append_7 : decode cX1_append 7 = .ok (.aload_n 0, 1) := by decide +kernel
theorem dX1_append_8 : decode cX1_append 8 = .ok (.getfield 9, 3) := by decide +kernel
theorem dX1_append_11 : decode cX1_append 11 = .ok (.aload_n 0, 1) := by decide +kernel
theorem dX1_append_12 : decode cX1_append 12 = .ok (.getfield 18, 3) := by decide +kernel
theorem dX1_append_15 : decode cX1_append 15 = .ok (.iload_n 1, 1) := by decide +kernel
theorem dX1_append_16 : decode cX1_append 16 = .ok (.iastore, 1) := by decide +kernel
theorem dX1_append_17 : decode cX1_append 17 = .ok (.aload_n 0, 1) := by decide +kernel
theorem dX1_append_18 : decode cX1_append 18 = .ok (.dup, 1) := by decide +kernel
theorem dX1_append_19 : decode cX1_append 19 = .ok (.getfield 18, 3) := by decide +kernel
theorem dX1_append_22 : decode cX1_append 22 = .ok (.iconst 1, 1) := by decide +kernel
theorem dX1_append_23 : decode cX1_append 23 = .ok (.iadd, 1) := by decide +kernel
theorem dX1_append_24 : decode cX1_append 24 = .ok (.putfield 18, 3) := by decide +kernel
theorem dX1_append_27 : decode cX1_append 27 = .ok (.return_, 1) := by decide +kernel
theorem dX1_change_0 : decode cX1_change 0 = .ok (.aload_n 0, 1) := by decide +kernel
theorem dX1_change_1 : decode cX1_change 1 = .ok (.iload_n 1, 1) := by decide +kernel
theorem dX1_change_2 : decode cX1_change 2 = .ok (.invokevirtual 46, 3) := by decide +kernel
theorem dX1_change_5 : decode cX1_change 5 = .ok (.ifCond .eq 10, 3) := by decide +kernel
theorem dX1_change_8 : decode cX1_change 8 = .ok (.aload_n 0, 1) := by decide +kernel
theorem dX1_change_9 : decode cX1_change 9 = .ok (.getfield 9, 3) := by decide +kernel
theorem dX1_change_12 : decode cX1_change 12 = .ok (.iload_n 1, 1) := by decide +kernel
theorem dX1_change_13 : decode cX1_change 13 = .ok (.iload_n 2, 1) := by decide +kernel
theorem dX1_change_14 : decode cX1_change 14 = .ok (.iastore, 1) := by decide +kernel
theorem dX1_change_15 : decode cX1_change 15 = .ok (.return_, 1) := by decide +kernel
theorem dX1_dropFirst_0 : decode cX1_dropFirst 0 = .ok (.iload_n 1, 1) := by decide +kernel
theorem dX1_dropFirst_1 : decode cX1_dropFirst 1 = .ok (.ifCond .lt 40, 3) := by decide +kernel
theorem dX1_dropFirst_4 : decode cX1_dropFirst 4 = .ok (.iload_n 1, 1) := by decide +kernel
theorem dX1_dropFirst_5 : decode cX1_dropFirst 5 = .ok (.aload_n 0, 1) := by decide +kernel
theorem dX1_dropFirst_6 : decode cX1_dropFirst 6 = .ok (.getfield 18, 3) := by decide +kernel
theorem dX1_dropFirst_9 : decode cX1_dropFirst 9 = .ok (.if_icmp .gt 32, 3) := by decide +kernel
theorem dX1_dropFirst_12 : decode cX1_dropFirst 12 = .ok (.aload_n 0, 1) := by decide +kernel
theorem dX1_dropFirst_13 : decode cX1_dropFirst 13 = .ok (.getfield 9, 3) := by decide +kernel
theorem dX1_dropFirst_16 : decode cX1_dropFirst 16 = .ok (.iload_n 1, 1) := by decide +kernel
theorem dX1_dropFirst_17 : decode cX1_dropFirst 17 = .ok (.aload_n 0, 1) := by decide +kernel
theorem dX1_dropFirst_18 : decode cX1_dropFirst 18 = .ok (.getfield 9, 3) := by decide +kernel
theorem dX1_dropFirst_21 : decode cX1_dropFirst 21 = .ok (.iconst 0, 1) := by decide +kernel
theorem dX1_dropFirst_22 : decode cX1_dropFirst 22 = .ok (.aload_n 0, 1) := by decide +kernel
theorem dX1_dropFirst_23 : decode cX1_dropFirst 23 = .ok (.getfield 18, 3) := by decide +kernel
theorem dX1_dropFirst_26 : decode cX1_dropFirst 26 = .ok (.iload_n 1, 1) := by decide +kernel
theorem dX1_dropFirst_27 : decode cX1_dropFirst 27 = .ok (.isub, 1) := by decide +kernel
theorem dX1_dropFirst_28 : decode cX1_dropFirst 28 = .ok (.invokestatic 40, 3) := by decide +kernel
theorem dX1_dropFirst_31 : decode cX1_dropFirst 31 = .ok (.aload_n 0, 1) := by decide +kernel
theorem dX1_dropFirst_32 : decode cX1_dropFirst 32 = .ok (.dup, 1) := by decide +kernel
theorem dX1_dropFirst_33 : decode cX1_dropFirst 33 = .ok (.getfield 18, 3) := by decide +kernel
theorem dX1_dropFirst_36 : decode cX1_dropFirst 36 = .ok (.iload_n 1, 1) := by decide +kernel
theorem dX1_dropFirst_37 : decode cX1_dropFirst 37 = .ok (.isub, 1) := by decide +kernel
theorem dX1_dropFirst_38 : decode cX1_dropFirst 38 = .ok (.putfield 18, 3) := by decide +kernel
theorem dX1_dropFirst_41 : decode cX1_dropFirst 41 = .ok (.return_, 1) := by decide +kernel
theorem dX1_countMissing_0 : decode cX1_countMissing 0 = .ok (.iconst 0, 1) := by decide +kernel
theorem dX1_countMissing_1 : decode cX1_countMissing 1 = .ok (.istore_n 1, 1) := by decide +kernel
theorem dX1_countMissing_2 : decode cX1_countMissing 2 = .ok (.iconst 0, 1) := by decide +kernel
theorem dX1_countMissing_3 : decode cX1_countMissing 3 = .ok (.istore_n 2, 1) := by decide +kernel
theorem dX1_countMissing_4 : decode cX1_countMissing 4 = .ok (.iload_n 2, 1) := by decide +kernel
theorem dX1_countMissing_5 : decode cX1_countMissing 5 = .ok (.aload_n 0, 1) := by decide +kernel
theorem dX1_countMissing_6 : decode cX1_countMissing 6 = .ok (.getfield 18, 3) := by decide +kernel
theorem dX1_countMissing_9 : decode cX1_countMissing 9 = .ok (.if_icmp .ge 23, 3) := by decide +kernel
theorem dX1_countMissing_12 : decode cX1_countMissing 12 = .ok (.aload_n 0, 1) := by decide +kernel
theorem dX1_countMissing_13 : decode cX1_countMissing 13 = .ok (.getfield 9, 3) := by decide +kernel
theorem dX1_countMissing_16 : decode cX1_countMissing 16 = .ok (.iload_n 2, 1) := by decide +kernel
theorem dX1_countMissing_17 : decode cX1_countMissing 17 = .ok (.iaload, 1) := by decide +kernel
theorem dX1_countMissing_18 : decode cX1_countMissing 18 = .ok (.ldc 50, 2) := by decide +kernel
theorem dX1_countMissing_20 : decode cX1_countMissing 20 = .ok (.if_icmp .ne 6, 3) := by decide +kernel
theorem dX1_countMissing_23 : decode cX1_countMissing 23 = .ok (.iinc 1 1, 3) := by decide +kernel
theorem dX1_countMissing_26 : decode cX1_countMissing 26 = .ok (.iinc 2 1, 3) := by decide +kernel
theorem dX1_countMissing_29 : decode cX1_countMissing 29 = .ok (.goto (-25), 3) := by decide +kernel
theorem dX1_countMissing_32 : decode cX1_countMissing 32 = .ok (.iload_n 1, 1) := by decide +kernel
theorem dX1_countMissing_33 : decode cX1_countMissing 33 = .ok (.ireturn, 1) := by decide +kernel
theorem dX1_latestValue_0 : decode cX1_latestValue 0 = .ok (.aload_n 0, 1) := by decide +kernel
theorem dX1_latestValue_1 : decode cX1_latestValue 1 = .ok (.getfield 18, 3) := by decide +kernel
theorem dX1_latestValue_4 : decode cX1_latestValue 4 = .ok (.iconst 1, 1) := by decide +kernel
theorem dX1_latestValue_5 : decode cX1_latestValue 5 = .ok (.isub, 1) := by decide +kernel
theorem dX1_latestValue_6 : decode cX1_latestValue 6 = .ok (.istore_n 1, 1) := by decide +kernel
theorem dX1_latestValue_7 : decode cX1_latestValue 7 = .ok (.iload_n 1, 1) := by decide +kernel
theorem dX1_latestValue_8 : decode cX1_latestValue 8 = .ok (.ifCond .lt 27, 3) := by decide +kernel
theorem dX1_latestValue_11 : decode cX1_latestValue 11 = .ok (.aload_n 0, 1) := by decide +kernel
theorem dX1_latestValue_12 : decode cX1_latestValue 12 = .ok (.getfield 9, 3) := by decide +kernel
theorem dX1_latestValue_15 : decode cX1_latestValue 15 = .ok (.iload_n 1, 1) := by decide +kernel
theorem dX1_latestValue_16 : decode cX1_latestValue 16 = .ok (.iaload, 1) := by decide +kernel
theorem dX1_latestValue_17 : decode cX1_latestValue 17 = .ok (.ldc 50, 2) := by decide +kernel
theorem dX1_latestValue_19 : decode cX1_latestValue 19 = .ok (.if_icmp .eq 10, 3) := by decide +kernel
theorem dX1_latestValue_22 : decode cX1_latestValue 22 = .ok (.aload_n 0, 1) := by decide +kernel
theorem dX1_latestValue_23 : decode cX1_latestValue 23 = .ok (.getfield 9, 3) := by decide +kernel
theorem dX1_latestValue_26 : decode cX1_latestValue 26 = .ok (.iload_n 1, 1) := by decide +kernel
theorem dX1_latestValue_27 : decode cX1_latestValue 27 = .ok (.iaload, 1) := by decide +kernel
theorem dX1_latestValue_28 : decode cX1_latestValue 28 = .ok (.ireturn, 1) := by decide +kernel
theorem dX1_latestValue_29 : decode cX1_latestValue 29 = .ok (.iinc 1 (-1), 3) := by decide +kernel
theorem dX1_latestValue_32 : decode cX1_latestValue 32 = .ok (.goto (-25), 3) := by decide +kernel
theorem dX1_latestValue_35 : decode cX1_latestValue 35 = .ok (.iconst 0, 1) := by decide +kernel
theorem dX1_latestValue_36 : decode cX1_latestValue 36 = .ok (.ireturn, 1) := by decide +kernel
theorem dX2_init_0 : decode cX2_init 0 = .ok (.aload_n 0, 1) := by decide +kernel
theorem dX2_init_1 : decode cX2_init 1 = .ok (.invokespecial 3, 3) := by decide +kernel
theorem dX2_init_4 : decode cX2_init 4 = .ok (.aload_n 0, 1) := by decide +kernel
theorem dX2_init_5 : decode cX2_init 5 = .ok (.bipush 40, 2) := by decide +kernel
theorem dX2_init_7 : decode cX2_init 7 = .ok (.newarray .int, 2) := by decide +kernel
theorem dX2_init_9 : decode cX2_init 9 = .ok (.putfield 9, 3) := by decide +kernel
theorem dX2_init_12 : decode cX2_init 12 = .ok (.aload_n 0, 1) := by decide +kernel
theorem dX2_init_13 : decode cX2_init 13 = .ok (.iconst 0, 1) := by decide +kernel
theorem dX2_init_14 : decode cX2_init 14 = .ok (.putfield 15, 3) := by decide +kernel
theorem dX2_init_17 : decode cX2_init 17 = .ok (.aload_n 0, 1) := by decide +kernel
theorem dX2_init_18 : decode cX2_init 18 = .ok (.iconst (-1), 1) := by decide +kernel
theorem dX2_init_19 : decode cX2_init 19 = .ok (.putfield 19, 3) := by decide +kernel
theorem dX2_init_22 : decode cX2_init 22 = .ok (.return_, 1) := by decide +kernel
theorem dX2_isNothing_0 : decode cX2_isNothing 0 = .ok (.aload_n 0, 1) := by decide +kernel
theorem dX2_isNothing_1 : decode cX2_isNothing 1 = .ok (.getfield 19, 3) := by decide +kernel
theorem dX2_isNothing_4 : decode cX2_isNothing 4 = .ok (.iconst (-1), 1) := by decide +kernel
theorem dX2_isNothing_5 : decode cX2_isNothing 5 = .ok (.if_icmp .ne 7, 3) := by decide +kernel
theorem dX2_isNothing_8 : decode cX2_isNothing 8 = .ok (.iconst 1, 1) := by decide +kernel
theorem dX2_isNothing_9 : decode cX2_isNothing 9 = .ok (.goto 4, 3) := by decide +kernel
theorem dX2_isNothing_12 : decode cX2_isNothing 12 = .ok (.iconst 0, 1) := by decide +kernel
theorem dX2_isNothing_13 : decode cX2_isNothing 13 = .ok (.ireturn, 1) := by decide +kernel
theorem dX2_renew_0 : decode cX2_renew 0 = .ok (.aload_n 0, 1) := by decide +kernel
theorem dX2_renew_1 : decode cX2_renew 1 = .ok (.iload_n 1, 1) := by decide +kernel
theorem dX2_renew_2 : decode cX2_renew 2 = .ok (.putfield 15, 3) := by decide +kernel
theorem dX2_renew_5 : decode cX2_renew 5 = .ok (.aload_n 0, 1) := by decide +kernel
theorem dX2_renew_6 : decode cX2_renew 6 = .ok (.iload_n 2, 1) := by decide +kernel
theorem dX2_renew_7 : decode cX2_renew 7 = .ok (.ifCond .ge 7, 3) := by decide +kernel
theorem dX2_renew_10 : decode cX2_renew 10 = .ok (.iconst (-1), 1) := by decide +kernel
theorem dX2_renew_11 : decode cX2_renew 11 = .ok (.goto 12, 3) := by decide +kernel
theorem dX2_renew_14 : decode cX2_renew 14 = .ok (.iload_n 2, 1) := by decide +kernel
theorem dX2_renew_15 : decode cX2_renew 15 = .ok (.aload_n 0, 1) := by decide +kernel
theorem dX2_renew_16 : decode cX2_renew 16 = .ok (.getfield 9, 3) := by decide +kernel
theorem dX2_renew_19 : decode cX2_renew 19 = .ok (.arraylength, 1) := by decide +kernel
theorem dX2_renew_20 : decode cX2_renew 20 = .ok (.invokestatic 22, 3) := by decide +kernel
theorem dX2_renew_23 : decode cX2_renew 23 = .ok (.putfield 19, 3) := by decide +kernel
theorem dX2_renew_26 : decode cX2_renew 26 = .ok (.iconst 0, 1) := by decide +kernel
theorem dX2_renew_27 : decode cX2_renew 27 = .ok (.istore_n 3, 1) := by decide +kernel
theorem dX2_renew_28 : decode cX2_renew 28 = .ok (.iload_n 3, 1) := by decide +kernel
theorem dX2_renew_29 : decode cX2_renew 29 = .ok (.aload_n 0, 1) := by decide +kernel
theorem dX2_renew_30 : decode cX2_renew 30 = .ok (.getfield 9, 3) := by decide +kernel
theorem dX2_renew_33 : decode cX2_renew 33 = .ok (.arraylength, 1) := by decide +kernel
theorem dX2_renew_34 : decode cX2_renew 34 = .ok (.if_icmp .ge 16, 3) := by decide +kernel
theorem dX2_renew_37 : decode cX2_renew 37 = .ok (.aload_n 0, 1) := by decide +kernel
theorem dX2_renew_38 : decode cX2_renew 38 = .ok (.getfield 9, 3) := by decide +kernel
theorem dX2_renew_41 : decode cX2_renew 41 = .ok (.iload_n 3, 1) := by decide +kernel
theorem dX2_renew_42 : decode cX2_renew 42 = .ok (.iconst 0, 1) := by decide +kernel
theorem dX2_renew_43 : decode cX2_renew 43 = .ok (.iastore, 1) := by decide +kernel
theorem dX2_renew_44 : decode cX2_renew 44 = .ok (.iinc 3 1, 3) := by decide +kernel
theorem dX2_renew_47 : decode cX2_renew 47 = .ok (.goto (-19), 3) := by decide +kernel
theorem dX2_renew_50 : decode cX2_renew 50 = .ok (.return_, 1) := by decide +kernel
theorem dX2_hasCell_0 : decode cX2_hasCell 0 = .ok (.iload_n 1, 1) := by decide +kernel
theorem dX2_hasCell_1 : decode cX2_hasCell 1 = .ok (.ifCond .lt 24, 3) := by decide +kernel
theorem dX2_hasCell_4 : decode cX2_hasCell 4 = .ok (.iload_n 1, 1) := by decide +kernel
theorem dX2_hasCell_5 : decode cX2_hasCell 5 = .ok (.aload_n 0, 1) := by decide +kernel
theorem dX2_hasCell_6 : decode cX2_hasCell 6 = .ok (.getfield 19, 3) := by decide +kernel
theorem dX2_hasCell_9 : decode cX2_hasCell 9 = .ok (.if_icmp .ge 16, 3) := by decide +kernel
theorem dX2_hasCell_12 : decode cX2_hasCell 12 = .ok (.iload_n 1, 1) := by decide +kernel
theorem dX2_hasCell_13 : decode cX2_hasCell 13 = .ok (.aload_n 0, 1) := by decide +kernel
theorem dX2_hasCell_14 : decode cX2_hasCell 14 = .ok (.getfield 9, 3) := by decide +kernel
theorem dX2_hasCell_17 : decode cX2_hasCell 17 = .ok (.arraylength, 1) := by decide +kernel
theorem dX2_hasCell_18 : decode cX2_hasCell 18 = .ok (.if_icmp .ge 7, 3) := by decide +kernel
theorem dX2_hasCell_21 : decode cX2_hasCell 21 = .ok (.iconst 1, 1) := by decide +kernel
theorem dX2_hasCell_22 : decode cX2_hasCell 22 = .ok (.goto 4, 3) := by decide +kernel
theorem dX2_hasCell_25 : decode cX2_hasCell 25 = .ok (.iconst 0, 1) := by decide +kernel
theorem dX2_hasCell_26 : decode cX2_hasCell 26 = .ok (.ireturn, 1) := by decide +kernel
theorem dX2_valueAt_0 : decode cX2_valueAt 0 = .ok (.aload_n 0, 1) := by decide +kernel
theorem dX2_valueAt_1 : decode cX2_valueAt 1 = .ok (.iload_n 1, 1) := by decide +kernel
theorem dX2_valueAt_2 : decode cX2_valueAt 2 = .ok (.invokevirtual 28, 3) := by decide +kernel
theorem dX2_valueAt_5 : decode cX2_valueAt 5 = .ok (.ifCond .eq 12, 3) := by decide +kernel
theorem dX2_valueAt_8 : decode cX2_valueAt 8 = .ok (.aload_n 0, 1) := by decide +kernel
theorem dX2_valueAt_9 : decode cX2_valueAt 9 = .ok (.getfield 9, 3) := by decide +kernel
theorem dX2_valueAt_12 : decode cX2_valueAt 12 = .ok (.iload_n 1, 1) := by decide +kernel
theorem dX2_valueAt_13 : decode cX2_valueAt 13 = .ok (.iaload, 1) := by decide +kernel
theorem dX2_valueAt_14 : decode cX2_valueAt 14 = .ok (.goto 4, 3) := by decide +kernel
theorem dX2_valueAt_17 : decode cX2_valueAt 17 = .ok (.iconst 0, 1) := by decide +kernel
theorem dX2_valueAt_18 : decode cX2_valueAt 18 = .ok (.ireturn, 1) := by decide +kernel
theorem dX2_write_0 : decode cX2_write 0 = .ok (.aload_n 0, 1) := by decide +kernel
theorem dX2_write_1 : decode cX2_write 1 = .ok (.iload_n 1, 1) := by decide +kernel
theorem dX2_write_2 : decode cX2_write 2 = .ok (.invokevirtual 28, 3) := by decide +kernel
theorem dX2_write_5 : decode cX2_write 5 = .ok (.ifCond .eq 35, 3) := by decide +kernel
theorem dX2_write_8 : decode cX2_write 8 = .ok (.aload_n 0, 1) := by decide +kernel
theorem dX2_write_9 : decode cX2_write 9 = .ok (.getfield 9, 3) := by decide +kernel
theorem dX2_write_12 : decode cX2_write 12 = .ok (.iload_n 1, 1) := by decide +kernel
theorem dX2_write_13 : decode cX2_write 13 = .ok (.aload_n 0, 1) := by decide +kernel
theorem dX2_write_14 : decode cX2_write 14 = .ok (.getfield 15, 3) := by decide +kernel
theorem dX2_write_17 : decode cX2_write 17 = .ok (.ifCond .ne 8, 3) := by decide +kernel
theorem dX2_write_20 : decode cX2_write 20 = .ok (.iload_n 2, 1) := by decide +kernel
theorem dX2_write_21 : decode cX2_write 21 = .ok (.i2b, 1) := by decide +kernel
theorem dX2_write_22 : decode cX2_write 22 = .ok (.goto 17, 3) := by decide +kernel
theorem dX2_write_25 : decode cX2_write 25 = .ok (.aload_n 0, 1) := by decide +kernel
theorem dX2_write_26 : decode cX2_write 26 = .ok (.getfield 15, 3) := by decide +kernel
theorem dX2_write_29 : decode cX2_write 29 = .ok (.iconst 1, 1) := by decide +kernel
theorem dX2_write_30 : decode cX2_write 30 = .ok (.if_icmp .ne 8, 3) := by decide +kernel
theorem dX2_write_33 : decode cX2_write 33 = .ok (.iload_n 2, 1) := by decide +kernel
theorem dX2_write_34 : decode cX2_write 34 = .ok (.i2s, 1) := by decide +kernel
theorem dX2_write_35 : decode cX2_write 35 = .ok (.goto 4, 3) := by decide +kernel
theorem dX2_write_38 : decode cX2_write 38 = .ok (.iload_n 2, 1) := by decide +kernel
theorem dX2_write_39 : decode cX2_write 39 = .ok (.iastore, 1) := by decide +kernel
theorem dX2_write_40 : decode cX2_write 40 = .ok (.return_, 1) := by decide +kernel
theorem dX3_init_0 : decode cX3_init 0 = .ok (.aload_n 0, 1) := by decide +kernel
theorem dX3_init_1 : decode cX3_init 1 = .ok (.invokespecial 3, 3) := by decide +kernel
theorem dX3_init_4 : decode cX3_init 4 = .ok (.aload_n 0, 1) := by decide +kernel
theorem dX3_init_5 : decode cX3_init 5 = .ok (.sipush 320, 3) := by decide +kernel
theorem dX3_init_8 : decode cX3_init 8 = .ok (.newarray .byte, 2) := by decide +kernel
theorem dX3_init_10 : decode cX3_init 10 = .ok (.putfield 9, 3) := by decide +kernel
theorem dX3_init_13 : decode cX3_init 13 = .ok (.aload_n 0, 1) := by decide +kernel
theorem dX3_init_14 : decode cX3_init 14 = .ok (.iconst 0, 1) := by decide +kernel
theorem dX3_init_15 : decode cX3_init 15 = .ok (.putfield 15, 3) := by decide +kernel
theorem dX3_init_18 : decode cX3_init 18 = .ok (.return_, 1) := by decide +kernel
theorem dX3_isFull_0 : decode cX3_isFull 0 = .ok (.aload_n 0, 1) := by decide +kernel
theorem dX3_isFull_1 : decode cX3_isFull 1 = .ok (.getfield 15, 3) := by decide +kernel
theorem dX3_isFull_4 : decode cX3_isFull 4 = .ok (.sipush 320, 3) := by decide +kernel
theorem dX3_isFull_7 : decode cX3_isFull 7 = .ok (.if_icmp .lt 7, 3) := by decide +kernel
theorem dX3_isFull_10 : decode cX3_isFull 10 = .ok (.iconst 1, 1) := by decide +kernel
theorem dX3_isFull_11 : decode cX3_isFull 11 = .ok (.goto 4, 3) := by decide +kernel
theorem dX3_isFull_14 : decode cX3_isFull 14 = .ok (.iconst 0, 1) := by decide +kernel
theorem dX3_isFull_15 : decode cX3_isFull 15 = .ok (.ireturn, 1) := by decide +kernel
theorem dX3_append_0 : decode cX3_append 0 = .ok (.aload_n 0, 1) := by decide +kernel
theorem dX3_append_1 : decode cX3_append 1 = .ok (.invokevirtual 19, 3) := by decide +kernel
theorem dX3_append_4 : decode cX3_append 4 = .ok (.ifCond .ne 24, 3) := by decide +kernel
theorem dX3_append_7 : decode cX3_append 7 = .ok (.aload_n 0, 1) := by decide +kernel
theorem dX3_append_8 : decode cX3_append 8 = .ok (.getfield 9, 3) := by decide +kernel
theorem dX3_append_11 : decode cX3_append 11 = .ok (.aload_n 0, 1) := by decide +kernel
theorem dX3_append_12 : decode cX3_append 12 = .ok (.getfield 15, 3) := by decide +kernel
theorem dX3_append_15 : decode cX3_append 15 = .ok (.iload_n 1, 1) := by decide +kernel
theorem dX3_append_16 : decode cX3_append 16 = .ok (.i2b, 1) := by decide +kernel
theorem dX3_append_17 : decode cX3_append 17 = .ok (.bastore, 1) := by decide +kernel
theorem dX3_append_18 : decode cX3_append 18 = .ok (.aload_n 0, 1) := by decide +kernel
theorem dX3_append_19 : decode cX3_append 19 = .ok (.dup, 1) := by decide +kernel
theorem dX3_append_20 : decode cX3_append 20 = .ok (.getfield 15, 3) := by decide +kernel
theorem dX3_append_23 : decode cX3_append 23 = .ok (.iconst 1, 1) := by decide +kernel
theorem dX3_append_24 : decode cX3_append 24 = .ok (.iadd, 1) := by decide +kernel
theorem dX3_append_25 : decode cX3_append 25 = .ok (.putfield 15, 3) := by decide +kernel
theorem dX3_append_28 : decode cX3_append 28 = .ok (.return_, 1) := by decide +kernel
theorem dX3_byteAt_0 : decode cX3_byteAt 0 = .ok (.iload_n 1, 1) := by decide +kernel
theorem dX3_byteAt_1 : decode cX3_byteAt 1 = .ok (.ifCond .lt 20, 3) := by decide +kernel
theorem dX3_byteAt_4 : decode cX3_byteAt 4 = .ok (.iload_n 1, 1) := by decide +kernel
theorem dX3_byteAt_5 : decode cX3_byteAt 5 = .ok (.aload_n 0, 1) := by decide +kernel
theorem dX3_byteAt_6 : decode cX3_byteAt 6 = .ok (.getfield 15, 3) := by decide +kernel
theorem dX3_byteAt_9 : decode cX3_byteAt 9 = .ok (.if_icmp .ge 12, 3) := by decide +kernel
theorem dX3_byteAt_12 : decode cX3_byteAt 12 = .ok (.aload_n 0, 1) := by decide +kernel
theorem dX3_byteAt_13 : decode cX3_byteAt 13 = .ok (.getfield 9, 3) := by decide +kernel
theorem dX3_byteAt_16 : decode cX3_byteAt 16 = .ok (.iload_n 1, 1) := by decide +kernel
theorem dX3_byteAt_17 : decode cX3_byteAt 17 = .ok (.baload, 1) := by decide +kernel
theorem dX3_byteAt_18 : decode cX3_byteAt 18 = .ok (.goto 4, 3) := by decide +kernel
theorem dX3_byteAt_21 : decode cX3_byteAt 21 = .ok (.iconst (-1), 1) := by decide +kernel
theorem dX3_byteAt_22 : decode cX3_byteAt 22 = .ok (.ireturn, 1) := by decide +kernel
theorem dX4_init_0 : decode cX4_init 0 = .ok (.aload_n 0, 1) := by decide +kernel
theorem dX4_init_1 : decode cX4_init 1 = .ok (.invokespecial 3, 3) := by decide +kernel
theorem dX4_init_4 : decode cX4_init 4 = .ok (.aload_n 0, 1) := by decide +kernel
theorem dX4_init_5 : decode cX4_init 5 = .ok (.new 9, 3) := by decide +kernel
theorem dX4_init_8 : decode cX4_init 8 = .ok (.dup, 1) := by decide +kernel
theorem dX4_init_9 : decode cX4_init 9 = .ok (.invokespecial 11, 3) := by decide +kernel
theorem dX4_init_12 : decode cX4_init 12 = .ok (.putfield 12, 3) := by decide +kernel
theorem dX4_init_15 : decode cX4_init 15 = .ok (.aload_n 0, 1) := by decide +kernel
theorem dX4_init_16 : decode cX4_init 16 = .ok (.bipush 12, 2) := by decide +kernel
theorem dX4_init_18 : decode cX4_init 18 = .ok (.putfield 18, 3) := by decide +kernel
theorem dX4_init_21 : decode cX4_init 21 = .ok (.aload_n 0, 1) := by decide +kernel
theorem dX4_init_22 : decode cX4_init 22 = .ok (.iconst 0, 1) := by decide +kernel
theorem dX4_init_23 : decode cX4_init 23 = .ok (.putfield 22, 3) := by decide +kernel
theorem dX4_init_26 : decode cX4_init 26 = .ok (.aload_n 0, 1) := by decide +kernel
theorem dX4_init_27 : decode cX4_init 27 = .ok (.iconst 0, 1) := by decide +kernel
theorem dX4_init_28 : decode cX4_init 28 = .ok (.putfield 25, 3) := by decide +kernel
theorem dX4_init_31 : decode cX4_init 31 = .ok (.aload_n 0, 1) := by decide +kernel
theorem dX4_init_32 : decode cX4_init 32 = .ok (.iconst 0, 1) := by decide +kernel
theorem dX4_init_33 : decode cX4_init 33 = .ok (.putfield 29, 3) := by decide +kernel
theorem dX4_init_36 : decode cX4_init 36 = .ok (.aload_n 0, 1) := by decide +kernel
theorem dX4_init_37 : decode cX4_init 37 = .ok (.iconst 0, 1) := by decide +kernel
theorem dX4_init_38 : decode cX4_init 38 = .ok (.putfield 32, 3) := by decide +kernel
theorem dX4_init_41 : decode cX4_init 41 = .ok (.aload_n 0, 1) := by decide +kernel
theorem dX4_init_42 : decode cX4_init 42 = .ok (.iconst 0, 1) := by decide +kernel
theorem dX4_init_43 : decode cX4_init 43 = .ok (.putfield 35, 3) := by decide +kernel
theorem dX4_init_46 : decode cX4_init 46 = .ok (.aload_n 0, 1) := by decide +kernel
theorem dX4_init_47 : decode cX4_init 47 = .ok (.iconst 0, 1) := by decide +kernel
theorem dX4_init_48 : decode cX4_init 48 = .ok (.putfield 38, 3) := by decide +kernel
theorem dX4_init_51 : decode cX4_init 51 = .ok (.aload_n 0, 1) := by decide +kernel
theorem dX4_init_52 : decode cX4_init 52 = .ok (.bipush (-4), 2) := by decide +kernel
theorem dX4_init_54 : decode cX4_init 54 = .ok (.putfield 41, 3) := by decide +kernel
theorem dX4_init_57 : decode cX4_init 57 = .ok (.aload_n 0, 1) := by decide +kernel
theorem dX4_init_58 : decode cX4_init 58 = .ok (.iconst 0, 1) := by decide +kernel
theorem dX4_init_59 : decode cX4_init 59 = .ok (.putfield 44, 3) := by decide +kernel
theorem dX4_init_62 : decode cX4_init 62 = .ok (.aload_n 0, 1) := by decide +kernel
theorem dX4_init_63 : decode cX4_init 63 = .ok (.iconst 0, 1) := by decide +kernel
theorem dX4_init_64 : decode cX4_init 64 = .ok (.putfield 47, 3) := by decide +kernel
theorem dX4_init_67 : decode cX4_init 67 = .ok (.aload_n 0, 1) := by decide +kernel
theorem dX4_init_68 : decode cX4_init 68 = .ok (.iconst 0, 1) := by decide +kernel
theorem dX4_init_69 : decode cX4_init 69 = .ok (.putfield 50, 3) := by decide +kernel
theorem dX4_init_72 : decode cX4_init 72 = .ok (.return_, 1) := by decide +kernel
theorem dX4_tell_0 : decode cX4_tell 0 = .ok (.aload_n 0, 1) := by decide +kernel
theorem dX4_tell_1 : decode cX4_tell 1 = .ok (.getfield 12, 3) := by decide +kernel
theorem dX4_tell_4 : decode cX4_tell 4 = .ok (.invokevirtual 53, 3) := by decide +kernel
theorem dX4_tell_7 : decode cX4_tell 7 = .ok (.aload_n 0, 1) := by decide +kernel
theorem dX4_tell_8 : decode cX4_tell 8 = .ok (.bipush 12, 2) := by decide +kernel
theorem dX4_tell_10 : decode cX4_tell 10 = .ok (.putfield 18, 3) := by decide +kernel
theorem dX4_tell_13 : decode cX4_tell 13 = .ok (.aload_n 0, 1) := by decide +kernel
theorem dX4_tell_14 : decode cX4_tell 14 = .ok (.iconst 0, 1) := by decide +kernel
theorem dX4_tell_15 : decode cX4_tell 15 = .ok (.putfield 22, 3) := by decide +kernel
theorem dX4_tell_18 : decode cX4_tell 18 = .ok (.aload_n 0, 1) := by decide +kernel
theorem dX4_tell_19 : decode cX4_tell 19 = .ok (.iconst 0, 1) := by decide +kernel
theorem dX4_tell_20 : decode cX4_tell 20 = .ok (.putfield 38, 3) := by decide +kernel
theorem dX4_tell_23 : decode cX4_tell 23 = .ok (.aload_n 0, 1) := by decide +kernel
theorem dX4_tell_24 : decode cX4_tell 24 = .ok (.iconst 0, 1) := by decide +kernel
theorem dX4_tell_25 : decode cX4_tell 25 = .ok (.putfield 47, 3) := by decide +kernel
theorem dX4_tell_28 : decode cX4_tell 28 = .ok (.aload_n 0, 1) := by decide +kernel
theorem dX4_tell_29 : decode cX4_tell 29 = .ok (.iconst 0, 1) := by decide +kernel
theorem dX4_tell_30 : decode cX4_tell 30 = .ok (.putfield 50, 3) := by decide +kernel
theorem dX4_tell_33 : decode cX4_tell 33 = .ok (.aload_n 0, 1) := by decide +kernel
theorem dX4_tell_34 : decode cX4_tell 34 = .ok (.aload_n 1, 1) := by decide +kernel
theorem dX4_tell_35 : decode cX4_tell 35 = .ok (.invokevirtual 56, 3) := by decide +kernel
theorem dX4_tell_38 : decode cX4_tell 38 = .ok (.iconst 0, 1) := by decide +kernel
theorem dX4_tell_39 : decode cX4_tell 39 = .ok (.istore_n 2, 1) := by decide +kernel
theorem dX4_tell_40 : decode cX4_tell 40 = .ok (.iload_n 2, 1) := by decide +kernel
theorem dX4_tell_41 : decode cX4_tell 41 = .ok (.sipush 320, 3) := by decide +kernel
theorem dX4_tell_44 : decode cX4_tell 44 = .ok (.if_icmp .ge 47, 3) := by decide +kernel
theorem dX4_tell_47 : decode cX4_tell 47 = .ok (.aload_n 0, 1) := by decide +kernel
theorem dX4_tell_48 : decode cX4_tell 48 = .ok (.getfield 47, 3) := by decide +kernel
theorem dX4_tell_51 : decode cX4_tell 51 = .ok (.ifCond .ne 40, 3) := by decide +kernel
theorem dX4_tell_54 : decode cX4_tell 54 = .ok (.aload_n 0, 1) := by decide +kernel
theorem dX4_tell_55 : decode cX4_tell 55 = .ok (.getfield 32, 3) := by decide +kernel
theorem dX4_tell_58 : decode cX4_tell 58 = .ok (.ifCond .eq 33, 3) := by decide +kernel
theorem dX4_tell_61 : decode cX4_tell 61 = .ok (.aload_n 0, 1) := by decide +kernel
theorem dX4_tell_62 : decode cX4_tell 62 = .ok (.aload_n 1, 1) := by decide +kernel
theorem dX4_tell_63 : decode cX4_tell 63 = .ok (.aload_n 0, 1) := by decide +kernel
theorem dX4_tell_64 : decode cX4_tell 64 = .ok (.getfield 35, 3) := by decide +kernel
theorem dX4_tell_67 : decode cX4_tell 67 = .ok (.invokevirtual 60, 3) := by decide +kernel
theorem dX4_tell_70 : decode cX4_tell 70 = .ok (.invokevirtual 66, 3) := by decide +kernel
theorem dX4_tell_73 : decode cX4_tell 73 = .ok (.aload_n 0, 1) := by decide +kernel
theorem dX4_tell_74 : decode cX4_tell 74 = .ok (.getfield 47, 3) := by decide +kernel
theorem dX4_tell_77 : decode cX4_tell 77 = .ok (.ifCond .ne 8, 3) := by decide +kernel
theorem dX4_tell_80 : decode cX4_tell 80 = .ok (.aload_n 0, 1) := by decide +kernel
theorem dX4_tell_81 : decode cX4_tell 81 = .ok (.aload_n 1, 1) := by decide +kernel
theorem dX4_tell_82 : decode cX4_tell 82 = .ok (.invokevirtual 56, 3) := by decide +kernel
theorem dX4_tell_85 : decode cX4_tell 85 = .ok (.iinc 2 1, 3) := by decide +kernel
theorem dX4_tell_88 : decode cX4_tell 88 = .ok (.goto (-48), 3) := by decide +kernel
theorem dX4_tell_91 : decode cX4_tell 91 = .ok (.aload_n 0, 1) := by decide +kernel
theorem dX4_tell_92 : decode cX4_tell 92 = .ok (.getfield 47, 3) := by decide +kernel
theorem dX4_tell_95 : decode cX4_tell 95 = .ok (.ifCond .ne 17, 3) := by decide +kernel
theorem dX4_tell_98 : decode cX4_tell 98 = .ok (.aload_n 0, 1) := by decide +kernel
theorem dX4_tell_99 : decode cX4_tell 99 = .ok (.getfield 18, 3) := by decide +kernel
theorem dX4_tell_102 : decode cX4_tell 102 = .ok (.bipush 12, 2) := by decide +kernel
theorem dX4_tell_104 : decode cX4_tell 104 = .ok (.if_icmp .eq 8, 3) := by decide +kernel
theorem dX4_tell_107 : decode cX4_tell 107 = .ok (.aload_n 0, 1) := by decide +kernel
theorem dX4_tell_108 : decode cX4_tell 108 = .ok (.iconst 2, 1) := by decide +kernel
theorem dX4_tell_109 : decode cX4_tell 109 = .ok (.invokevirtual 70, 3) := by decide +kernel
theorem dX4_tell_112 : decode cX4_tell 112 = .ok (.aload_n 0, 1) := by decide +kernel
theorem dX4_tell_113 : decode cX4_tell 113 = .ok (.getfield 47, 3) := by decide +kernel
theorem dX4_tell_116 : decode cX4_tell 116 = .ok (.ifCond .ne 7, 3) := by decide +kernel
theorem dX4_tell_119 : decode cX4_tell 119 = .ok (.iconst 1, 1) := by decide +kernel
theorem dX4_tell_120 : decode cX4_tell 120 = .ok (.goto 4, 3) := by decide +kernel
theorem dX4_tell_123 : decode cX4_tell 123 = .ok (.iconst 0, 1) := by decide +kernel
theorem dX4_tell_124 : decode cX4_tell 124 = .ok (.ireturn, 1) := by decide +kernel
theorem dX4_refuse_0 : decode cX4_refuse 0 = .ok (.aload_n 0, 1) := by decide +kernel
theorem dX4_refuse_1 : decode cX4_refuse 1 = .ok (.iload_n 1, 1) := by decide +kernel
theorem dX4_refuse_2 : decode cX4_refuse 2 = .ok (.putfield 47, 3) := by decide +kernel
theorem dX4_refuse_5 : decode cX4_refuse 5 = .ok (.aload_n 0, 1) := by decide +kernel
theorem dX4_refuse_6 : decode cX4_refuse 6 = .ok (.aload_n 0, 1) := by decide +kernel
theorem dX4_refuse_7 : decode cX4_refuse 7 = .ok (.getfield 35, 3) := by decide +kernel
theorem dX4_refuse_10 : decode cX4_refuse 10 = .ok (.putfield 50, 3) := by decide +kernel
theorem dX4_refuse_13 : decode cX4_refuse 13 = .ok (.return_, 1) := by decide +kernel
theorem dX4_takeToken_0 : decode cX4_takeToken 0 = .ok (.aload_n 0, 1) := by decide +kernel
theorem dX4_takeToken_1 : decode cX4_takeToken 1 = .ok (.getfield 18, 3) := by decide +kernel
theorem dX4_takeToken_4 : decode cX4_takeToken 4 = .ok (.tableswitch 219 0 12 #[75, 94, 113, 161, 179, 219, 132, 205, 219, 212, 219, 197, 68], 68) := by decide +kernel
theorem dX4_takeToken_72 : decode cX4_takeToken 72 = .ok (.aload_n 0, 1) := by decide +kernel
theorem dX4_takeToken_73 : decode cX4_takeToken 73 = .ok (.invokevirtual 73, 3) := by decide +kernel
theorem dX4_takeToken_76 : decode cX4_takeToken 76 = .ok (.goto 152, 3) := by decide +kernel
theorem dX4_takeToken_79 : decode cX4_takeToken 79 = .ok (.aload_n 0, 1) := by decide +kernel
theorem dX4_takeToken_80 : decode cX4_takeToken 80 = .ok (.getfield 12, 3) := by decide +kernel
theorem dX4_takeToken_83 : decode cX4_takeToken 83 = .ok (.aload_n 0, 1) := by decide +kernel
theorem dX4_takeToken_84 : decode cX4_takeToken 84 = .ok (.iconst 1, 1) := by decide +kernel
theorem dX4_takeToken_85 : decode cX4_takeToken 85 = .ok (.bipush 24, 2) := by decide +kernel
theorem dX4_takeToken_87 : decode cX4_takeToken 87 = .ok (.bipush 11, 2) := by decide +kernel
theorem dX4_takeToken_89 : decode cX4_takeToken 89 = .ok (.invokevirtual 76, 3) := by decide +kernel
theorem dX4_takeToken_92 : decode cX4_takeToken 92 = .ok (.putfield 80, 3) := by decide +kernel
theorem dX4_takeToken_95 : decode cX4_takeToken 95 = .ok (.goto 133, 3) := by decide +kernel
theorem dX4_takeToken_98 : decode cX4_takeToken 98 = .ok (.aload_n 0, 1) := by decide +kernel
theorem dX4_takeToken_99 : decode cX4_takeToken 99 = .ok (.getfield 12, 3) := by decide +kernel
theorem dX4_takeToken_102 : decode cX4_takeToken 102 = .ok (.aload_n 0, 1) := by decide +kernel
theorem dX4_takeToken_103 : decode cX4_takeToken 103 = .ok (.iconst 1, 1) := by decide +kernel
theorem dX4_takeToken_104 : decode cX4_takeToken 104 = .ok (.bipush 24, 2) := by decide +kernel
theorem dX4_takeToken_106 : decode cX4_takeToken 106 = .ok (.bipush 11, 2) := by decide +kernel
theorem dX4_takeToken_108 : decode cX4_takeToken 108 = .ok (.invokevirtual 76, 3) := by decide +kernel
theorem dX4_takeToken_111 : decode cX4_takeToken 111 = .ok (.putfield 83, 3) := by decide +kernel
theorem dX4_takeToken_114 : decode cX4_takeToken 114 = .ok (.goto 114, 3) := by decide +kernel
theorem dX4_takeToken_117 : decode cX4_takeToken 117 = .ok (.aload_n 0, 1) := by decide +kernel
theorem dX4_takeToken_118 : decode cX4_takeToken 118 = .ok (.getfield 12, 3) := by decide +kernel
theorem dX4_takeToken_121 : decode cX4_takeToken 121 = .ok (.aload_n 0, 1) := by decide +kernel
theorem dX4_takeToken_122 : decode cX4_takeToken 122 = .ok (.iconst 0, 1) := by decide +kernel
theorem dX4_takeToken_123 : decode cX4_takeToken 123 = .ok (.bipush 100, 2) := by decide +kernel
theorem dX4_takeToken_125 : decode cX4_takeToken 125 = .ok (.bipush 6, 2) := by decide +kernel
theorem dX4_takeToken_127 : decode cX4_takeToken 127 = .ok (.invokevirtual 76, 3) := by decide +kernel
theorem dX4_takeToken_130 : decode cX4_takeToken 130 = .ok (.putfield 86, 3) := by decide +kernel
theorem dX4_takeToken_133 : decode cX4_takeToken 133 = .ok (.goto 95, 3) := by decide +kernel
theorem dX4_takeToken_136 : decode cX4_takeToken 136 = .ok (.aload_n 0, 1) := by decide +kernel
theorem dX4_takeToken_137 : decode cX4_takeToken 137 = .ok (.getfield 12, 3) := by decide +kernel
theorem dX4_takeToken_140 : decode cX4_takeToken 140 = .ok (.aload_n 0, 1) := by decide +kernel
theorem dX4_takeToken_141 : decode cX4_takeToken 141 = .ok (.iconst 1, 1) := by decide +kernel
theorem dX4_takeToken_142 : decode cX4_takeToken 142 = .ok (.aload_n 0, 1) := by decide +kernel
theorem dX4_takeToken_143 : decode cX4_takeToken 143 = .ok (.getfield 12, 3) := by decide +kernel
theorem dX4_takeToken_146 : decode cX4_takeToken 146 = .ok (.getfield 86, 3) := by decide +kernel
theorem dX4_takeToken_149 : decode cX4_takeToken 149 = .ok (.invokestatic 89, 3) := by decide +kernel
theorem dX4_takeToken_152 : decode cX4_takeToken 152 = .ok (.bipush 100, 2) := by decide +kernel
theorem dX4_takeToken_154 : decode cX4_takeToken 154 = .ok (.bipush 11, 2) := by decide +kernel
theorem dX4_takeToken_156 : decode cX4_takeToken 156 = .ok (.invokevirtual 76, 3) := by decide +kernel
theorem dX4_takeToken_159 : decode cX4_takeToken 159 = .ok (.putfield 95, 3) := by decide +kernel
theorem dX4_takeToken_162 : decode cX4_takeToken 162 = .ok (.goto 66, 3) := by decide +kernel
theorem dX4_takeToken_165 : decode cX4_takeToken 165 = .ok (.aload_n 0, 1) := by decide +kernel
theorem dX4_takeToken_166 : decode cX4_takeToken 166 = .ok (.getfield 12, 3) := by decide +kernel
theorem dX4_takeToken_169 : decode cX4_takeToken 169 = .ok (.aload_n 0, 1) := by decide +kernel
theorem dX4_takeToken_170 : decode cX4_takeToken 170 = .ok (.bipush 7, 2) := by decide +kernel
theorem dX4_takeToken_172 : decode cX4_takeToken 172 = .ok (.bipush 11, 2) := by decide +kernel
theorem dX4_takeToken_174 : decode cX4_takeToken 174 = .ok (.invokevirtual 98, 3) := by decide +kernel
theorem dX4_takeToken_177 : decode cX4_takeToken 177 = .ok (.putfield 101, 3) := by decide +kernel
theorem dX4_takeToken_180 : decode cX4_takeToken 180 = .ok (.goto 48, 3) := by decide +kernel
theorem dX4_takeToken_183 : decode cX4_takeToken 183 = .ok (.aload_n 0, 1) := by decide +kernel
theorem dX4_takeToken_184 : decode cX4_takeToken 184 = .ok (.getfield 12, 3) := by decide +kernel
theorem dX4_takeToken_187 : decode cX4_takeToken 187 = .ok (.aload_n 0, 1) := by decide +kernel
theorem dX4_takeToken_188 : decode cX4_takeToken 188 = .ok (.bipush 12, 2) := by decide +kernel
theorem dX4_takeToken_190 : decode cX4_takeToken 190 = .ok (.bipush 14, 2) := by decide +kernel
theorem dX4_takeToken_192 : decode cX4_takeToken 192 = .ok (.invokevirtual 98, 3) := by decide +kernel
theorem dX4_takeToken_195 : decode cX4_takeToken 195 = .ok (.putfield 104, 3) := by decide +kernel
theorem dX4_takeToken_198 : decode cX4_takeToken 198 = .ok (.goto 30, 3) := by decide +kernel
theorem dX4_takeToken_201 : decode cX4_takeToken 201 = .ok (.aload_n 0, 1) := by decide +kernel
theorem dX4_takeToken_202 : decode cX4_takeToken 202 = .ok (.iload_n 1, 1) := by decide +kernel
theorem dX4_takeToken_203 : decode cX4_takeToken 203 = .ok (.invokevirtual 107, 3) := by decide +kernel
theorem dX4_takeToken_206 : decode cX4_takeToken 206 = .ok (.goto 22, 3) := by decide +kernel
theorem dX4_takeToken_209 : decode cX4_takeToken 209 = .ok (.aload_n 0, 1) := by decide +kernel
theorem dX4_takeToken_210 : decode cX4_takeToken 210 = .ok (.invokevirtual 110, 3) := by decide +kernel
theorem dX4_takeToken_213 : decode cX4_takeToken 213 = .ok (.goto 15, 3) := by decide +kernel
theorem dX4_takeToken_216 : decode cX4_takeToken 216 = .ok (.aload_n 0, 1) := by decide +kernel
theorem dX4_takeToken_217 : decode cX4_takeToken 217 = .ok (.invokevirtual 113, 3) := by decide +kernel
theorem dX4_takeToken_220 : decode cX4_takeToken 220 = .ok (.goto 8, 3) := by decide +kernel
theorem dX4_takeToken_223 : decode cX4_takeToken 223 = .ok (.aload_n 0, 1) := by decide +kernel
theorem dX4_takeToken_224 : decode cX4_takeToken 224 = .ok (.iload_n 1, 1) := by decide +kernel
theorem dX4_takeToken_225 : decode cX4_takeToken 225 = .ok (.invokevirtual 116, 3) := by decide +kernel
theorem dX4_takeToken_228 : decode cX4_takeToken 228 = .ok (.return_, 1) := by decide +kernel
theorem dX4_takeReadingOrMore_0 : decode cX4_takeReadingOrMore 0 = .ok (.iload_n 1, 1) := by decide +kernel
theorem dX4_takeReadingOrMore_1 : decode cX4_takeReadingOrMore 1 = .ok (.bipush 45, 2) := by decide +kernel
theorem dX4_takeReadingOrMore_3 : decode cX4_takeReadingOrMore 3 = .ok (.if_icmp .ne 7, 3) := by decide +kernel
theorem dX4_takeReadingOrMore_6 : decode cX4_takeReadingOrMore 6 = .ok (.iconst 1, 1) := by decide +kernel
theorem dX4_takeReadingOrMore_7 : decode cX4_takeReadingOrMore 7 = .ok (.goto 4, 3) := by decide +kernel
theorem dX4_takeReadingOrMore_10 : decode cX4_takeReadingOrMore 10 = .ok (.iconst 0, 1) := by decide +kernel
theorem dX4_takeReadingOrMore_11 : decode cX4_takeReadingOrMore 11 = .ok (.istore_n 2, 1) := by decide +kernel
theorem dX4_takeReadingOrMore_12 : decode cX4_takeReadingOrMore 12 = .ok (.aload_n 0, 1) := by decide +kernel
theorem dX4_takeReadingOrMore_13 : decode cX4_takeReadingOrMore 13 = .ok (.getfield 18, 3) := by decide +kernel
theorem dX4_takeReadingOrMore_16 : decode cX4_takeReadingOrMore 16 = .ok (.bipush 8, 2) := by decide +kernel
theorem dX4_takeReadingOrMore_18 : decode cX4_takeReadingOrMore 18 = .ok (.if_icmp .ne 18, 3) := by decide +kernel
theorem dX4_takeReadingOrMore_21 : decode cX4_takeReadingOrMore 21 = .ok (.iload_n 1, 1) := by decide +kernel
theorem dX4_takeReadingOrMore_22 : decode cX4_takeReadingOrMore 22 = .ok (.bipush 46, 2) := by decide +kernel
theorem dX4_takeReadingOrMore_24 : decode cX4_takeReadingOrMore 24 = .ok (.if_icmp .ne 12, 3) := by decide +kernel
theorem dX4_takeReadingOrMore_27 : decode cX4_takeReadingOrMore 27 = .ok (.aload_n 0, 1) := by decide +kernel
theorem dX4_takeReadingOrMore_28 : decode cX4_takeReadingOrMore 28 = .ok (.bipush 9, 2) := by decide +kernel
theorem dX4_takeReadingOrMore_30 : decode cX4_takeReadingOrMore 30 = .ok (.putfield 18, 3) := by decide +kernel
theorem dX4_takeReadingOrMore_33 : decode cX4_takeReadingOrMore 33 = .ok (.goto 119, 3) := by decide +kernel
theorem dX4_takeReadingOrMore_36 : decode cX4_takeReadingOrMore 36 = .ok (.aload_n 0, 1) := by decide +kernel
theorem dX4_takeReadingOrMore_37 : decode cX4_takeReadingOrMore 37 = .ok (.getfield 18, 3) := by decide +kernel
theorem dX4_takeReadingOrMore_40 : decode cX4_takeReadingOrMore 40 = .ok (.iconst 5, 1) := by decide +kernel
theorem dX4_takeReadingOrMore_41 : decode cX4_takeReadingOrMore 41 = .ok (.if_icmp .eq 18, 3) := by decide +kernel
theorem dX4_takeReadingOrMore_44 : decode cX4_takeReadingOrMore 44 = .ok (.iload_n 1, 1) := by decide +kernel
theorem dX4_takeReadingOrMore_45 : decode cX4_takeReadingOrMore 45 = .ok (.bipush 59, 2) := by decide +kernel
theorem dX4_takeReadingOrMore_47 : decode cX4_takeReadingOrMore 47 = .ok (.if_icmp .ne 12, 3) := by decide +kernel
theorem dX4_takeReadingOrMore_50 : decode cX4_takeReadingOrMore 50 = .ok (.aload_n 0, 1) := by decide +kernel
theorem dX4_takeReadingOrMore_51 : decode cX4_takeReadingOrMore 51 = .ok (.bipush 12, 2) := by decide +kernel
theorem dX4_takeReadingOrMore_53 : decode cX4_takeReadingOrMore 53 = .ok (.putfield 18, 3) := by decide +kernel
theorem dX4_takeReadingOrMore_56 : decode cX4_takeReadingOrMore 56 = .ok (.goto 96, 3) := by decide +kernel
theorem dX4_takeReadingOrMore_59 : decode cX4_takeReadingOrMore 59 = .ok (.iload_n 2, 1) := by decide +kernel
theorem dX4_takeReadingOrMore_60 : decode cX4_takeReadingOrMore 60 = .ok (.ifCond .ne 28, 3) := by decide +kernel
theorem dX4_takeReadingOrMore_63 : decode cX4_takeReadingOrMore 63 = .ok (.aload_n 0, 1) := by decide +kernel
theorem dX4_takeReadingOrMore_64 : decode cX4_takeReadingOrMore 64 = .ok (.getfield 32, 3) := by decide +kernel
theorem dX4_takeReadingOrMore_67 : decode cX4_takeReadingOrMore 67 = .ok (.iconst 2, 1) := by decide +kernel
theorem dX4_takeReadingOrMore_68 : decode cX4_takeReadingOrMore 68 = .ok (.if_icmp .eq 20, 3) := by decide +kernel
theorem dX4_takeReadingOrMore_71 : decode cX4_takeReadingOrMore 71 = .ok (.aload_n 0, 1) := by decide +kernel
theorem dX4_takeReadingOrMore_72 : decode cX4_takeReadingOrMore 72 = .ok (.getfield 41, 3) := by decide +kernel
theorem dX4_takeReadingOrMore_75 : decode cX4_takeReadingOrMore 75 = .ok (.bipush 6, 2) := by decide +kernel
theorem dX4_takeReadingOrMore_77 : decode cX4_takeReadingOrMore 77 = .ok (.if_icmp .eq 11, 3) := by decide +kernel
theorem dX4_takeReadingOrMore_80 : decode cX4_takeReadingOrMore 80 = .ok (.aload_n 0, 1) := by decide +kernel
theorem dX4_takeReadingOrMore_81 : decode cX4_takeReadingOrMore 81 = .ok (.iconst 2, 1) := by decide +kernel
theorem dX4_takeReadingOrMore_82 : decode cX4_takeReadingOrMore 82 = .ok (.invokevirtual 70, 3) := by decide +kernel
theorem dX4_takeReadingOrMore_85 : decode cX4_takeReadingOrMore 85 = .ok (.goto 67, 3) := by decide +kernel
theorem dX4_takeReadingOrMore_88 : decode cX4_takeReadingOrMore 88 = .ok (.aload_n 0, 1) := by decide +kernel
theorem dX4_takeReadingOrMore_89 : decode cX4_takeReadingOrMore 89 = .ok (.getfield 12, 3) := by decide +kernel
theorem dX4_takeReadingOrMore_92 : decode cX4_takeReadingOrMore 92 = .ok (.invokevirtual 119, 3) := by decide +kernel
theorem dX4_takeReadingOrMore_95 : decode cX4_takeReadingOrMore 95 = .ok (.ifCond .eq 11, 3) := by decide +kernel
theorem dX4_takeReadingOrMore_98 : decode cX4_takeReadingOrMore 98 = .ok (.aload_n 0, 1) := by decide +kernel
theorem dX4_takeReadingOrMore_99 : decode cX4_takeReadingOrMore 99 = .ok (.iconst 5, 1) := by decide +kernel
theorem dX4_takeReadingOrMore_100 : decode cX4_takeReadingOrMore 100 = .ok (.invokevirtual 70, 3) := by decide +kernel
theorem dX4_takeReadingOrMore_103 : decode cX4_takeReadingOrMore 103 = .ok (.goto 49, 3) := by decide +kernel
theorem dX4_takeReadingOrMore_106 : decode cX4_takeReadingOrMore 106 = .ok (.aload_n 0, 1) := by decide +kernel
theorem dX4_takeReadingOrMore_107 : decode cX4_takeReadingOrMore 107 = .ok (.getfield 41, 3) := by decide +kernel
theorem dX4_takeReadingOrMore_110 : decode cX4_takeReadingOrMore 110 = .ok (.bipush 6, 2) := by decide +kernel
theorem dX4_takeReadingOrMore_112 : decode cX4_takeReadingOrMore 112 = .ok (.if_icmp .ne 21, 3) := by decide +kernel
theorem dX4_takeReadingOrMore_115 : decode cX4_takeReadingOrMore 115 = .ok (.aload_n 0, 1) := by decide +kernel
theorem dX4_takeReadingOrMore_116 : decode cX4_takeReadingOrMore 116 = .ok (.getfield 12, 3) := by decide +kernel
theorem dX4_takeReadingOrMore_119 : decode cX4_takeReadingOrMore 119 = .ok (.ldc 123, 2) := by decide +kernel
theorem dX4_takeReadingOrMore_121 : decode cX4_takeReadingOrMore 121 = .ok (.invokevirtual 124, 3) := by decide +kernel
theorem dX4_takeReadingOrMore_124 : decode cX4_takeReadingOrMore 124 = .ok (.aload_n 0, 1) := by decide +kernel
theorem dX4_takeReadingOrMore_125 : decode cX4_takeReadingOrMore 125 = .ok (.bipush 10, 2) := by decide +kernel
theorem dX4_takeReadingOrMore_127 : decode cX4_takeReadingOrMore 127 = .ok (.putfield 18, 3) := by decide +kernel
theorem dX4_takeReadingOrMore_130 : decode cX4_takeReadingOrMore 130 = .ok (.goto 22, 3) := by decide +kernel
theorem dX4_takeReadingOrMore_133 : decode cX4_takeReadingOrMore 133 = .ok (.aload_n 0, 1) := by decide +kernel
theorem dX4_takeReadingOrMore_134 : decode cX4_takeReadingOrMore 134 = .ok (.iload_n 2, 1) := by decide +kernel
theorem dX4_takeReadingOrMore_135 : decode cX4_takeReadingOrMore 135 = .ok (.putfield 25, 3) := by decide +kernel
theorem dX4_takeReadingOrMore_138 : decode cX4_takeReadingOrMore 138 = .ok (.aload_n 0, 1) := by decide +kernel
theorem dX4_takeReadingOrMore_139 : decode cX4_takeReadingOrMore 139 = .ok (.bipush 7, 2) := by decide +kernel
theorem dX4_takeReadingOrMore_141 : decode cX4_takeReadingOrMore 141 = .ok (.putfield 18, 3) := by decide +kernel
theorem dX4_takeReadingOrMore_144 : decode cX4_takeReadingOrMore 144 = .ok (.iload_n 2, 1) := by decide +kernel
theorem dX4_takeReadingOrMore_145 : decode cX4_takeReadingOrMore 145 = .ok (.ifCond .ne 7, 3) := by decide +kernel
theorem dX4_takeReadingOrMore_148 : decode cX4_takeReadingOrMore 148 = .ok (.aload_n 0, 1) := by decide +kernel
theorem dX4_takeReadingOrMore_149 : decode cX4_takeReadingOrMore 149 = .ok (.invokevirtual 110, 3) := by decide +kernel
theorem dX4_takeReadingOrMore_152 : decode cX4_takeReadingOrMore 152 = .ok (.return_, 1) := by decide +kernel
theorem dX4_takeWhole_0 : decode cX4_takeWhole 0 = .ok (.aload_n 0, 1) := by decide +kernel
theorem dX4_takeWhole_1 : decode cX4_takeWhole 1 = .ok (.bipush 100, 2) := by decide +kernel
theorem dX4_takeWhole_3 : decode cX4_takeWhole 3 = .ok (.aload_n 0, 1) := by decide +kernel
theorem dX4_takeWhole_4 : decode cX4_takeWhole 4 = .ok (.iconst 0, 1) := by decide +kernel
theorem dX4_takeWhole_5 : decode cX4_takeWhole 5 = .ok (.sipush 9999, 3) := by decide +kernel
theorem dX4_takeWhole_8 : decode cX4_takeWhole 8 = .ok (.bipush 8, 2) := by decide +kernel
theorem dX4_takeWhole_10 : decode cX4_takeWhole 10 = .ok (.invokevirtual 76, 3) := by decide +kernel
theorem dX4_takeWhole_13 : decode cX4_takeWhole 13 = .ok (.imul, 1) := by decide +kernel
theorem dX4_takeWhole_14 : decode cX4_takeWhole 14 = .ok (.putfield 29, 3) := by decide +kernel
theorem dX4_takeWhole_17 : decode cX4_takeWhole 17 = .ok (.aload_n 0, 1) := by decide +kernel
theorem dX4_takeWhole_18 : decode cX4_takeWhole 18 = .ok (.getfield 12, 3) := by decide +kernel
theorem dX4_takeWhole_21 : decode cX4_takeWhole 21 = .ok (.aload_n 0, 1) := by decide +kernel
theorem dX4_takeWhole_22 : decode cX4_takeWhole 22 = .ok (.getfield 25, 3) := by decide +kernel
theorem dX4_takeWhole_25 : decode cX4_takeWhole 25 = .ok (.ifCond .eq 11, 3) := by decide +kernel
theorem dX4_takeWhole_28 : decode cX4_takeWhole 28 = .ok (.aload_n 0, 1) := by decide +kernel
theorem dX4_takeWhole_29 : decode cX4_takeWhole 29 = .ok (.getfield 29, 3) := by decide +kernel
theorem dX4_takeWhole_32 : decode cX4_takeWhole 32 = .ok (.ineg, 1) := by decide +kernel
theorem dX4_takeWhole_33 : decode cX4_takeWhole 33 = .ok (.goto 7, 3) := by decide +kernel
theorem dX4_takeWhole_36 : decode cX4_takeWhole 36 = .ok (.aload_n 0, 1) := by decide +kernel
theorem dX4_takeWhole_37 : decode cX4_takeWhole 37 = .ok (.getfield 29, 3) := by decide +kernel
theorem dX4_takeWhole_40 : decode cX4_takeWhole 40 = .ok (.invokevirtual 124, 3) := by decide +kernel
theorem dX4_takeWhole_43 : decode cX4_takeWhole 43 = .ok (.return_, 1) := by decide +kernel
theorem dX4_takeFraction_0 : decode cX4_takeFraction 0 = .ok (.aload_n 0, 1) := by decide +kernel
theorem dX4_takeFraction_1 : decode cX4_takeFraction 1 = .ok (.getfield 38, 3) := by decide +kernel
theorem dX4_takeFraction_4 : decode cX4_takeFraction 4 = .ok (.aload_n 0, 1) := by decide +kernel
theorem dX4_takeFraction_5 : decode cX4_takeFraction 5 = .ok (.getfield 35, 3) := by decide +kernel
theorem dX4_takeFraction_8 : decode cX4_takeFraction 8 = .ok (.isub, 1) := by decide +kernel
theorem dX4_takeFraction_9 : decode cX4_takeFraction 9 = .ok (.istore_n 1, 1) := by decide +kernel
theorem dX4_takeFraction_10 : decode cX4_takeFraction 10 = .ok (.aload_n 0, 1) := by decide +kernel
