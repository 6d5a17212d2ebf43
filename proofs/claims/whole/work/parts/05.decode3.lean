theorem dX6_most_72 : decode cX6_most 72 = .ok (.iload_n 3, 1) := by decide +kernel
theorem dX6_most_73 : decode cX6_most 73 = .ok (.if_icmp .ge 7, 3) := by decide +kernel
theorem dX6_most_76 : decode cX6_most 76 = .ok (.iconst 1, 1) := by decide +kernel
theorem dX6_most_77 : decode cX6_most 77 = .ok (.goto 18, 3) := by decide +kernel
theorem dX6_most_80 : decode cX6_most 80 = .ok (.iconst 0, 1) := by decide +kernel
theorem dX6_most_81 : decode cX6_most 81 = .ok (.goto 14, 3) := by decide +kernel
theorem dX6_most_84 : decode cX6_most 84 = .ok (.iload 5, 2) := by decide +kernel
theorem dX6_most_86 : decode cX6_most 86 = .ok (.iload_n 3, 1) := by decide +kernel
theorem dX6_most_87 : decode cX6_most 87 = .ok (.if_icmp .le 7, 3) := by decide +kernel
theorem dX6_most_90 : decode cX6_most 90 = .ok (.iconst 1, 1) := by decide +kernel
theorem dX6_most_91 : decode cX6_most 91 = .ok (.goto 4, 3) := by decide +kernel
theorem dX6_most_94 : decode cX6_most 94 = .ok (.iconst 0, 1) := by decide +kernel
theorem dX6_most_95 : decode cX6_most 95 = .ok (.istore 6, 2) := by decide +kernel
theorem dX6_most_97 : decode cX6_most 97 = .ok (.iload_n 2, 1) := by decide +kernel
theorem dX6_most_98 : decode cX6_most 98 = .ok (.bipush (-4), 2) := by decide +kernel
theorem dX6_most_100 : decode cX6_most 100 = .ok (.if_icmp .eq 8, 3) := by decide +kernel
theorem dX6_most_103 : decode cX6_most 103 = .ok (.iload 6, 2) := by decide +kernel
theorem dX6_most_105 : decode cX6_most 105 = .ok (.ifCond .eq 9, 3) := by decide +kernel
theorem dX6_most_108 : decode cX6_most 108 = .ok (.iload 4, 2) := by decide +kernel
theorem dX6_most_110 : decode cX6_most 110 = .ok (.istore_n 2, 1) := by decide +kernel
theorem dX6_most_111 : decode cX6_most 111 = .ok (.iload 5, 2) := by decide +kernel
theorem dX6_most_113 : decode cX6_most 113 = .ok (.istore_n 3, 1) := by decide +kernel
theorem dX6_most_114 : decode cX6_most 114 = .ok (.iinc 4 1, 3) := by decide +kernel
theorem dX6_most_117 : decode cX6_most 117 = .ok (.goto (-91), 3) := by decide +kernel
theorem dX6_most_120 : decode cX6_most 120 = .ok (.iload_n 2, 1) := by decide +kernel
theorem dX6_most_121 : decode cX6_most 121 = .ok (.ireturn, 1) := by decide +kernel
theorem dX6_add_0 : decode cX6_add 0 = .ok (.iload_n 1, 1) := by decide +kernel
theorem dX6_add_1 : decode cX6_add 1 = .ok (.invokestatic 197, 3) := by decide +kernel
theorem dX6_add_4 : decode cX6_add 4 = .ok (.ifCond .ne 5, 3) := by decide +kernel
theorem dX6_add_7 : decode cX6_add 7 = .ok (.iconst (-1), 1) := by decide +kernel
theorem dX6_add_8 : decode cX6_add 8 = .ok (.ireturn, 1) := by decide +kernel
theorem dX6_add_9 : decode cX6_add 9 = .ok (.aload_n 0, 1) := by decide +kernel
theorem dX6_add_10 : decode cX6_add 10 = .ok (.iload_n 1, 1) := by decide +kernel
theorem dX6_add_11 : decode cX6_add 11 = .ok (.invokevirtual 200, 3) := by decide +kernel
theorem dX6_add_14 : decode cX6_add 14 = .ok (.ireturn, 1) := by decide +kernel
theorem dX6_miss_0 : decode cX6_miss 0 = .ok (.aload_n 0, 1) := by decide +kernel
theorem dX6_miss_1 : decode cX6_miss 1 = .ok (.ldc 143, 2) := by decide +kernel
theorem dX6_miss_3 : decode cX6_miss 3 = .ok (.invokevirtual 200, 3) := by decide +kernel
theorem dX6_miss_6 : decode cX6_miss 6 = .ok (.ireturn, 1) := by decide +kernel
theorem dX6_set_0 : decode cX6_set 0 = .ok (.aload_n 0, 1) := by decide +kernel
theorem dX6_set_1 : decode cX6_set 1 = .ok (.getfield 26, 3) := by decide +kernel
theorem dX6_set_4 : decode cX6_set 4 = .ok (.iload_n 1, 1) := by decide +kernel
theorem dX6_set_5 : decode cX6_set 5 = .ok (.invokevirtual 124, 3) := by decide +kernel
theorem dX6_set_8 : decode cX6_set 8 = .ok (.ifCond .eq 10, 3) := by decide +kernel
theorem dX6_set_11 : decode cX6_set 11 = .ok (.iload_n 2, 1) := by decide +kernel
theorem dX6_set_12 : decode cX6_set 12 = .ok (.invokestatic 197, 3) := by decide +kernel
theorem dX6_set_15 : decode cX6_set 15 = .ok (.ifCond .ne 5, 3) := by decide +kernel
theorem dX6_set_18 : decode cX6_set 18 = .ok (.iconst (-1), 1) := by decide +kernel
theorem dX6_set_19 : decode cX6_set 19 = .ok (.ireturn, 1) := by decide +kernel
theorem dX6_set_20 : decode cX6_set 20 = .ok (.aload_n 0, 1) := by decide +kernel
theorem dX6_set_21 : decode cX6_set 21 = .ok (.iload_n 1, 1) := by decide +kernel
theorem dX6_set_22 : decode cX6_set 22 = .ok (.iload_n 2, 1) := by decide +kernel
theorem dX6_set_23 : decode cX6_set 23 = .ok (.invokevirtual 203, 3) := by decide +kernel
theorem dX6_set_26 : decode cX6_set 26 = .ok (.ireturn, 1) := by decide +kernel
theorem dX6_lose_0 : decode cX6_lose 0 = .ok (.aload_n 0, 1) := by decide +kernel
theorem dX6_lose_1 : decode cX6_lose 1 = .ok (.getfield 26, 3) := by decide +kernel
theorem dX6_lose_4 : decode cX6_lose 4 = .ok (.iload_n 1, 1) := by decide +kernel
theorem dX6_lose_5 : decode cX6_lose 5 = .ok (.invokevirtual 124, 3) := by decide +kernel
theorem dX6_lose_8 : decode cX6_lose 8 = .ok (.ifCond .ne 5, 3) := by decide +kernel
theorem dX6_lose_11 : decode cX6_lose 11 = .ok (.iconst (-1), 1) := by decide +kernel
theorem dX6_lose_12 : decode cX6_lose 12 = .ok (.ireturn, 1) := by decide +kernel
theorem dX6_lose_13 : decode cX6_lose 13 = .ok (.aload_n 0, 1) := by decide +kernel
theorem dX6_lose_14 : decode cX6_lose 14 = .ok (.iload_n 1, 1) := by decide +kernel
theorem dX6_lose_15 : decode cX6_lose 15 = .ok (.ldc 143, 2) := by decide +kernel
theorem dX6_lose_17 : decode cX6_lose 17 = .ok (.invokevirtual 203, 3) := by decide +kernel
theorem dX6_lose_20 : decode cX6_lose 20 = .ok (.ireturn, 1) := by decide +kernel
theorem dX6_drop_0 : decode cX6_drop 0 = .ok (.iload_n 1, 1) := by decide +kernel
theorem dX6_drop_1 : decode cX6_drop 1 = .ok (.ifCond .lt 14, 3) := by decide +kernel
theorem dX6_drop_4 : decode cX6_drop 4 = .ok (.iload_n 1, 1) := by decide +kernel
theorem dX6_drop_5 : decode cX6_drop 5 = .ok (.aload_n 0, 1) := by decide +kernel
theorem dX6_drop_6 : decode cX6_drop 6 = .ok (.getfield 26, 3) := by decide +kernel
theorem dX6_drop_9 : decode cX6_drop 9 = .ok (.getfield 89, 3) := by decide +kernel
theorem dX6_drop_12 : decode cX6_drop 12 = .ok (.if_icmp .le 5, 3) := by decide +kernel
theorem dX6_drop_15 : decode cX6_drop 15 = .ok (.iconst (-1), 1) := by decide +kernel
theorem dX6_drop_16 : decode cX6_drop 16 = .ok (.ireturn, 1) := by decide +kernel
theorem dX6_drop_17 : decode cX6_drop 17 = .ok (.aload_n 0, 1) := by decide +kernel
theorem dX6_drop_18 : decode cX6_drop 18 = .ok (.getfield 26, 3) := by decide +kernel
theorem dX6_drop_21 : decode cX6_drop 21 = .ok (.iload_n 1, 1) := by decide +kernel
theorem dX6_drop_22 : decode cX6_drop 22 = .ok (.invokevirtual 206, 3) := by decide +kernel
theorem dX6_drop_25 : decode cX6_drop 25 = .ok (.aload_n 0, 1) := by decide +kernel
theorem dX6_drop_26 : decode cX6_drop 26 = .ok (.getfield 26, 3) := by decide +kernel
theorem dX6_drop_29 : decode cX6_drop 29 = .ok (.getfield 89, 3) := by decide +kernel
theorem dX6_drop_32 : decode cX6_drop 32 = .ok (.ireturn, 1) := by decide +kernel
theorem dX6_width_0 : decode cX6_width 0 = .ok (.iload_n 1, 1) := by decide +kernel
theorem dX6_width_1 : decode cX6_width 1 = .ok (.iconst 1, 1) := by decide +kernel
theorem dX6_width_2 : decode cX6_width 2 = .ok (.if_icmp .lt 9, 3) := by decide +kernel
theorem dX6_width_5 : decode cX6_width 5 = .ok (.iload_n 1, 1) := by decide +kernel
theorem dX6_width_6 : decode cX6_width 6 = .ok (.bipush 24, 2) := by decide +kernel
theorem dX6_width_8 : decode cX6_width 8 = .ok (.if_icmp .le 5, 3) := by decide +kernel
theorem dX6_width_11 : decode cX6_width 11 = .ok (.iconst (-1), 1) := by decide +kernel
theorem dX6_width_12 : decode cX6_width 12 = .ok (.ireturn, 1) := by decide +kernel
theorem dX6_width_13 : decode cX6_width 13 = .ok (.aload_n 0, 1) := by decide +kernel
theorem dX6_width_14 : decode cX6_width 14 = .ok (.getfield 26, 3) := by decide +kernel
theorem dX6_width_17 : decode cX6_width 17 = .ok (.getfield 99, 3) := by decide +kernel
theorem dX6_width_20 : decode cX6_width 20 = .ok (.istore_n 2, 1) := by decide +kernel
theorem dX6_width_21 : decode cX6_width 21 = .ok (.aload_n 0, 1) := by decide +kernel
theorem dX6_width_22 : decode cX6_width 22 = .ok (.getfield 26, 3) := by decide +kernel
theorem dX6_width_25 : decode cX6_width 25 = .ok (.iload_n 1, 1) := by decide +kernel
theorem dX6_width_26 : decode cX6_width 26 = .ok (.putfield 99, 3) := by decide +kernel
theorem dX6_width_29 : decode cX6_width 29 = .ok (.iload_n 2, 1) := by decide +kernel
theorem dX6_width_30 : decode cX6_width 30 = .ok (.ireturn, 1) := by decide +kernel
theorem dX6_need_0 : decode cX6_need 0 = .ok (.iload_n 1, 1) := by decide +kernel
theorem dX6_need_1 : decode cX6_need 1 = .ok (.iconst 1, 1) := by decide +kernel
theorem dX6_need_2 : decode cX6_need 2 = .ok (.if_icmp .lt 9, 3) := by decide +kernel
theorem dX6_need_5 : decode cX6_need 5 = .ok (.iload_n 1, 1) := by decide +kernel
theorem dX6_need_6 : decode cX6_need 6 = .ok (.bipush 24, 2) := by decide +kernel
theorem dX6_need_8 : decode cX6_need 8 = .ok (.if_icmp .le 5, 3) := by decide +kernel
theorem dX6_need_11 : decode cX6_need 11 = .ok (.iconst (-1), 1) := by decide +kernel
theorem dX6_need_12 : decode cX6_need 12 = .ok (.ireturn, 1) := by decide +kernel
theorem dX6_need_13 : decode cX6_need 13 = .ok (.aload_n 0, 1) := by decide +kernel
theorem dX6_need_14 : decode cX6_need 14 = .ok (.getfield 26, 3) := by decide +kernel
theorem dX6_need_17 : decode cX6_need 17 = .ok (.getfield 102, 3) := by decide +kernel
theorem dX6_need_20 : decode cX6_need 20 = .ok (.istore_n 2, 1) := by decide +kernel
theorem dX6_need_21 : decode cX6_need 21 = .ok (.aload_n 0, 1) := by decide +kernel
theorem dX6_need_22 : decode cX6_need 22 = .ok (.getfield 26, 3) := by decide +kernel
theorem dX6_need_25 : decode cX6_need 25 = .ok (.iload_n 1, 1) := by decide +kernel
theorem dX6_need_26 : decode cX6_need 26 = .ok (.putfield 102, 3) := by decide +kernel
theorem dX6_need_29 : decode cX6_need 29 = .ok (.iload_n 2, 1) := by decide +kernel
theorem dX6_need_30 : decode cX6_need 30 = .ok (.ireturn, 1) := by decide +kernel
theorem dX6_part_0 : decode cX6_part 0 = .ok (.iload_n 2, 1) := by decide +kernel
theorem dX6_part_1 : decode cX6_part 1 = .ok (.iconst 1, 1) := by decide +kernel
theorem dX6_part_2 : decode cX6_part 2 = .ok (.if_icmp .lt 18, 3) := by decide +kernel
theorem dX6_part_5 : decode cX6_part 5 = .ok (.iload_n 2, 1) := by decide +kernel
theorem dX6_part_6 : decode cX6_part 6 = .ok (.bipush 100, 2) := by decide +kernel
theorem dX6_part_8 : decode cX6_part 8 = .ok (.if_icmp .gt 12, 3) := by decide +kernel
theorem dX6_part_11 : decode cX6_part 11 = .ok (.iload_n 1, 1) := by decide +kernel
theorem dX6_part_12 : decode cX6_part 12 = .ok (.ifCond .lt 8, 3) := by decide +kernel
theorem dX6_part_15 : decode cX6_part 15 = .ok (.iload_n 1, 1) := by decide +kernel
theorem dX6_part_16 : decode cX6_part 16 = .ok (.iload_n 2, 1) := by decide +kernel
theorem dX6_part_17 : decode cX6_part 17 = .ok (.if_icmp .le 5, 3) := by decide +kernel
theorem dX6_part_20 : decode cX6_part 20 = .ok (.iconst (-1), 1) := by decide +kernel
theorem dX6_part_21 : decode cX6_part 21 = .ok (.ireturn, 1) := by decide +kernel
theorem dX6_part_22 : decode cX6_part 22 = .ok (.sipush 1000, 3) := by decide +kernel
theorem dX6_part_25 : decode cX6_part 25 = .ok (.aload_n 0, 1) := by decide +kernel
theorem dX6_part_26 : decode cX6_part 26 = .ok (.getfield 26, 3) := by decide +kernel
theorem dX6_part_29 : decode cX6_part 29 = .ok (.getfield 105, 3) := by decide +kernel
theorem dX6_part_32 : decode cX6_part 32 = .ok (.imul, 1) := by decide +kernel
theorem dX6_part_33 : decode cX6_part 33 = .ok (.aload_n 0, 1) := by decide +kernel
theorem dX6_part_34 : decode cX6_part 34 = .ok (.getfield 26, 3) := by decide +kernel
theorem dX6_part_37 : decode cX6_part 37 = .ok (.getfield 108, 3) := by decide +kernel
theorem dX6_part_40 : decode cX6_part 40 = .ok (.iadd, 1) := by decide +kernel
theorem dX6_part_41 : decode cX6_part 41 = .ok (.istore_n 3, 1) := by decide +kernel
theorem dX6_part_42 : decode cX6_part 42 = .ok (.aload_n 0, 1) := by decide +kernel
theorem dX6_part_43 : decode cX6_part 43 = .ok (.getfield 26, 3) := by decide +kernel
theorem dX6_part_46 : decode cX6_part 46 = .ok (.iload_n 1, 1) := by decide +kernel
theorem dX6_part_47 : decode cX6_part 47 = .ok (.putfield 105, 3) := by decide +kernel
theorem dX6_part_50 : decode cX6_part 50 = .ok (.aload_n 0, 1) := by decide +kernel
theorem dX6_part_51 : decode cX6_part 51 = .ok (.getfield 26, 3) := by decide +kernel
theorem dX6_part_54 : decode cX6_part 54 = .ok (.iload_n 2, 1) := by decide +kernel
theorem dX6_part_55 : decode cX6_part 55 = .ok (.putfield 108, 3) := by decide +kernel
theorem dX6_part_58 : decode cX6_part 58 = .ok (.iload_n 3, 1) := by decide +kernel
theorem dX6_part_59 : decode cX6_part 59 = .ok (.ireturn, 1) := by decide +kernel
theorem dX6_choose_0 : decode cX6_choose 0 = .ok (.iload_n 1, 1) := by decide +kernel
theorem dX6_choose_1 : decode cX6_choose 1 = .ok (.ifCond .lt 8, 3) := by decide +kernel
theorem dX6_choose_4 : decode cX6_choose 4 = .ok (.iload_n 1, 1) := by decide +kernel
theorem dX6_choose_5 : decode cX6_choose 5 = .ok (.iconst 4, 1) := by decide +kernel
theorem dX6_choose_6 : decode cX6_choose 6 = .ok (.if_icmp .le 5, 3) := by decide +kernel
theorem dX6_choose_9 : decode cX6_choose 9 = .ok (.iconst (-1), 1) := by decide +kernel
theorem dX6_choose_10 : decode cX6_choose 10 = .ok (.ireturn, 1) := by decide +kernel
theorem dX6_choose_11 : decode cX6_choose 11 = .ok (.aload_n 0, 1) := by decide +kernel
theorem dX6_choose_12 : decode cX6_choose 12 = .ok (.getfield 26, 3) := by decide +kernel
theorem dX6_choose_15 : decode cX6_choose 15 = .ok (.getfield 111, 3) := by decide +kernel
theorem dX6_choose_18 : decode cX6_choose 18 = .ok (.istore_n 2, 1) := by decide +kernel
theorem dX6_choose_19 : decode cX6_choose 19 = .ok (.aload_n 0, 1) := by decide +kernel
theorem dX6_choose_20 : decode cX6_choose 20 = .ok (.getfield 26, 3) := by decide +kernel
theorem dX6_choose_23 : decode cX6_choose 23 = .ok (.iload_n 1, 1) := by decide +kernel
theorem dX6_choose_24 : decode cX6_choose 24 = .ok (.putfield 111, 3) := by decide +kernel
theorem dX6_choose_27 : decode cX6_choose 27 = .ok (.iload_n 2, 1) := by decide +kernel
theorem dX6_choose_28 : decode cX6_choose 28 = .ok (.ireturn, 1) := by decide +kernel
theorem dX6_form_0 : decode cX6_form 0 = .ok (.iload_n 1, 1) := by decide +kernel
theorem dX6_form_1 : decode cX6_form 1 = .ok (.ifCond .lt 8, 3) := by decide +kernel
theorem dX6_form_4 : decode cX6_form 4 = .ok (.iload_n 1, 1) := by decide +kernel
theorem dX6_form_5 : decode cX6_form 5 = .ok (.iconst 2, 1) := by decide +kernel
theorem dX6_form_6 : decode cX6_form 6 = .ok (.if_icmp .le 5, 3) := by decide +kernel
theorem dX6_form_9 : decode cX6_form 9 = .ok (.iconst (-1), 1) := by decide +kernel
theorem dX6_form_10 : decode cX6_form 10 = .ok (.ireturn, 1) := by decide +kernel
theorem dX6_form_11 : decode cX6_form 11 = .ok (.aload_n 0, 1) := by decide +kernel
theorem dX6_form_12 : decode cX6_form 12 = .ok (.getfield 26, 3) := by decide +kernel
theorem dX6_form_15 : decode cX6_form 15 = .ok (.getfield 114, 3) := by decide +kernel
theorem dX6_form_18 : decode cX6_form 18 = .ok (.istore_n 2, 1) := by decide +kernel
theorem dX6_form_19 : decode cX6_form 19 = .ok (.aload_n 0, 1) := by decide +kernel
theorem dX6_form_20 : decode cX6_form 20 = .ok (.getfield 26, 3) := by decide +kernel
theorem dX6_form_23 : decode cX6_form 23 = .ok (.iload_n 1, 1) := by decide +kernel
theorem dX6_form_24 : decode cX6_form 24 = .ok (.putfield 114, 3) := by decide +kernel
theorem dX6_form_27 : decode cX6_form 27 = .ok (.iload_n 2, 1) := by decide +kernel
theorem dX6_form_28 : decode cX6_form 28 = .ok (.ireturn, 1) := by decide +kernel
theorem dX6_drift_0 : decode cX6_drift 0 = .ok (.iload_n 2, 1) := by decide +kernel
theorem dX6_drift_1 : decode cX6_drift 1 = .ok (.iconst 1, 1) := by decide +kernel
theorem dX6_drift_2 : decode cX6_drift 2 = .ok (.if_icmp .lt 9, 3) := by decide +kernel
theorem dX6_drift_5 : decode cX6_drift 5 = .ok (.iload_n 2, 1) := by decide +kernel
theorem dX6_drift_6 : decode cX6_drift 6 = .ok (.bipush 48, 2) := by decide +kernel
theorem dX6_drift_8 : decode cX6_drift 8 = .ok (.if_icmp .le 5, 3) := by decide +kernel
theorem dX6_drift_11 : decode cX6_drift 11 = .ok (.iconst (-1), 1) := by decide +kernel
theorem dX6_drift_12 : decode cX6_drift 12 = .ok (.ireturn, 1) := by decide +kernel
theorem dX6_drift_13 : decode cX6_drift 13 = .ok (.aload_n 0, 1) := by decide +kernel
theorem dX6_drift_14 : decode cX6_drift 14 = .ok (.getfield 26, 3) := by decide +kernel
theorem dX6_drift_17 : decode cX6_drift 17 = .ok (.invokevirtual 209, 3) := by decide +kernel
theorem dX6_drift_20 : decode cX6_drift 20 = .ok (.istore_n 3, 1) := by decide +kernel
theorem dX6_drift_21 : decode cX6_drift 21 = .ok (.iconst 0, 1) := by decide +kernel
theorem dX6_drift_22 : decode cX6_drift 22 = .ok (.istore 4, 2) := by decide +kernel
theorem dX6_drift_24 : decode cX6_drift 24 = .ok (.iconst 0, 1) := by decide +kernel
theorem dX6_drift_25 : decode cX6_drift 25 = .ok (.istore 5, 2) := by decide +kernel
theorem dX6_drift_27 : decode cX6_drift 27 = .ok (.iload 5, 2) := by decide +kernel
theorem dX6_drift_29 : decode cX6_drift 29 = .ok (.iload_n 2, 1) := by decide +kernel
theorem dX6_drift_30 : decode cX6_drift 30 = .ok (.if_icmp .ge 99, 3) := by decide +kernel
theorem dX6_drift_33 : decode cX6_drift 33 = .ok (.aload_n 0, 1) := by decide +kernel
theorem dX6_drift_34 : decode cX6_drift 34 = .ok (.getfield 26, 3) := by decide +kernel
theorem dX6_drift_37 : decode cX6_drift 37 = .ok (.invokevirtual 212, 3) := by decide +kernel
theorem dX6_drift_40 : decode cX6_drift 40 = .ok (.ifCond .ne 89, 3) := by decide +kernel
theorem dX6_drift_43 : decode cX6_drift 43 = .ok (.iload_n 1, 1) := by decide +kernel
theorem dX6_drift_44 : decode cX6_drift 44 = .ok (.ldc 213, 2) := by decide +kernel
theorem dX6_drift_46 : decode cX6_drift 46 = .ok (.imul, 1) := by decide +kernel
theorem dX6_drift_47 : decode cX6_drift 47 = .ok (.sipush 12345, 3) := by decide +kernel
theorem dX6_drift_50 : decode cX6_drift 50 = .ok (.iadd, 1) := by decide +kernel
theorem dX6_drift_51 : decode cX6_drift 51 = .ok (.istore_n 1, 1) := by decide +kernel
theorem dX6_drift_52 : decode cX6_drift 52 = .ok (.iload_n 1, 1) := by decide +kernel
theorem dX6_drift_53 : decode cX6_drift 53 = .ok (.bipush 16, 2) := by decide +kernel
theorem dX6_drift_55 : decode cX6_drift 55 = .ok (.iushr, 1) := by decide +kernel
theorem dX6_drift_56 : decode cX6_drift 56 = .ok (.sipush 32767, 3) := by decide +kernel
theorem dX6_drift_59 : decode cX6_drift 59 = .ok (.iand, 1) := by decide +kernel
theorem dX6_drift_60 : decode cX6_drift 60 = .ok (.istore 6, 2) := by decide +kernel
theorem dX6_drift_62 : decode cX6_drift 62 = .ok (.iload 6, 2) := by decide +kernel
theorem dX6_drift_64 : decode cX6_drift 64 = .ok (.bipush 9, 2) := by decide +kernel
theorem dX6_drift_66 : decode cX6_drift 66 = .ok (.irem, 1) := by decide +kernel
theorem dX6_drift_67 : decode cX6_drift 67 = .ok (.ifCond .ne 15, 3) := by decide +kernel
theorem dX6_drift_70 : decode cX6_drift 70 = .ok (.aload_n 0, 1) := by decide +kernel
theorem dX6_drift_71 : decode cX6_drift 71 = .ok (.getfield 26, 3) := by decide +kernel
theorem dX6_drift_74 : decode cX6_drift 74 = .ok (.ldc 143, 2) := by decide +kernel
theorem dX6_drift_76 : decode cX6_drift 76 = .ok (.invokevirtual 214, 3) := by decide +kernel
theorem dX6_drift_79 : decode cX6_drift 79 = .ok (.goto 41, 3) := by decide +kernel
theorem dX6_drift_82 : decode cX6_drift 82 = .ok (.iload_n 3, 1) := by decide +kernel
theorem dX6_drift_83 : decode cX6_drift 83 = .ok (.iload 6, 2) := by decide +kernel
theorem dX6_drift_85 : decode cX6_drift 85 = .ok (.bipush 16, 2) := by decide +kernel
theorem dX6_drift_87 : decode cX6_drift 87 = .ok (.idiv, 1) := by decide +kernel
theorem dX6_drift_88 : decode cX6_drift 88 = .ok (.sipush 401, 3) := by decide +kernel
theorem dX6_drift_91 : decode cX6_drift 91 = .ok (.irem, 1) := by decide +kernel
theorem dX6_drift_92 : decode cX6_drift 92 = .ok (.iadd, 1) := by decide +kernel
theorem dX6_drift_93 : decode cX6_drift 93 = .ok (.sipush 200, 3) := by decide +kernel
theorem dX6_drift_96 : decode cX6_drift 96 = .ok (.isub, 1) := by decide +kernel
theorem dX6_drift_97 : decode cX6_drift 97 = .ok (.istore 7, 2) := by decide +kernel
theorem dX6_drift_99 : decode cX6_drift 99 = .ok (.ldc 215, 2) := by decide +kernel
theorem dX6_drift_101 : decode cX6_drift 101 = .ok (.ldc 216, 2) := by decide +kernel
theorem dX6_drift_103 : decode cX6_drift 103 = .ok (.iload 7, 2) := by decide +kernel
theorem dX6_drift_105 : decode cX6_drift 105 = .ok (.invokestatic 217, 3) := by decide +kernel
theorem dX6_drift_108 : decode cX6_drift 108 = .ok (.invokestatic 191, 3) := by decide +kernel
theorem dX6_drift_111 : decode cX6_drift 111 = .ok (.istore_n 3, 1) := by decide +kernel
theorem dX6_drift_112 : decode cX6_drift 112 = .ok (.aload_n 0, 1) := by decide +kernel
theorem dX6_drift_113 : decode cX6_drift 113 = .ok (.getfield 26, 3) := by decide +kernel
theorem dX6_drift_116 : decode cX6_drift 116 = .ok (.iload_n 3, 1) := by decide +kernel
theorem dX6_drift_117 : decode cX6_drift 117 = .ok (.invokevirtual 214, 3) := by decide +kernel
theorem dX6_drift_120 : decode cX6_drift 120 = .ok (.iinc 4 1, 3) := by decide +kernel
theorem dX6_drift_123 : decode cX6_drift 123 = .ok (.iinc 5 1, 3) := by decide +kernel
theorem dX6_drift_126 : decode cX6_drift 126 = .ok (.goto (-99), 3) := by decide +kernel
theorem dX6_drift_129 : decode cX6_drift 129 = .ok (.iload 4, 2) := by decide +kernel
theorem dX6_drift_131 : decode cX6_drift 131 = .ok (.ireturn, 1) := by decide +kernel
theorem dX6_keep_0 : decode cX6_keep 0 = .ok (.aload_n 0, 1) := by decide +kernel
theorem dX6_keep_1 : decode cX6_keep 1 = .ok (.iload_n 1, 1) := by decide +kernel
theorem dX6_keep_2 : decode cX6_keep 2 = .ok (.invokevirtual 220, 3) := by decide +kernel
theorem dX6_keep_5 : decode cX6_keep 5 = .ok (.ifCond .ne 5, 3) := by decide +kernel
theorem dX6_keep_8 : decode cX6_keep 8 = .ok (.iconst (-1), 1) := by decide +kernel
theorem dX6_keep_9 : decode cX6_keep 9 = .ok (.ireturn, 1) := by decide +kernel
theorem dX6_keep_10 : decode cX6_keep 10 = .ok (.aload_n 0, 1) := by decide +kernel
theorem dX6_keep_11 : decode cX6_keep 11 = .ok (.getfield 50, 3) := by decide +kernel
theorem dX6_keep_14 : decode cX6_keep 14 = .ok (.iload_n 1, 1) := by decide +kernel
theorem dX6_keep_15 : decode cX6_keep 15 = .ok (.baload, 1) := by decide +kernel
theorem dX6_keep_16 : decode cX6_keep 16 = .ok (.ifCond .eq 7, 3) := by decide +kernel
theorem dX6_keep_19 : decode cX6_keep 19 = .ok (.iconst 1, 1) := by decide +kernel
theorem dX6_keep_20 : decode cX6_keep 20 = .ok (.goto 4, 3) := by decide +kernel
theorem dX6_keep_23 : decode cX6_keep 23 = .ok (.iconst 0, 1) := by decide +kernel
theorem dX6_keep_24 : decode cX6_keep 24 = .ok (.istore_n 2, 1) := by decide +kernel
theorem dX6_keep_25 : decode cX6_keep 25 = .ok (.aload_n 0, 1) := by decide +kernel
theorem dX6_keep_26 : decode cX6_keep 26 = .ok (.getfield 46, 3) := by decide +kernel
theorem dX6_keep_29 : decode cX6_keep 29 = .ok (.iload_n 1, 1) := by decide +kernel
theorem dX6_keep_30 : decode cX6_keep 30 = .ok (.aaload, 1) := by decide +kernel
theorem dX6_keep_31 : decode cX6_keep 31 = .ok (.aload_n 0, 1) := by decide +kernel
theorem dX6_keep_32 : decode cX6_keep 32 = .ok (.getfield 26, 3) := by decide +kernel
theorem dX6_keep_35 : decode cX6_keep 35 = .ok (.invokevirtual 86, 3) := by decide +kernel
theorem dX6_keep_38 : decode cX6_keep 38 = .ok (.aload_n 0, 1) := by decide +kernel
theorem dX6_keep_39 : decode cX6_keep 39 = .ok (.getfield 50, 3) := by decide +kernel
theorem dX6_keep_42 : decode cX6_keep 42 = .ok (.iload_n 1, 1) := by decide +kernel
theorem dX6_keep_43 : decode cX6_keep 43 = .ok (.iconst 1, 1) := by decide +kernel
theorem dX6_keep_44 : decode cX6_keep 44 = .ok (.bastore, 1) := by decide +kernel
theorem dX6_keep_45 : decode cX6_keep 45 = .ok (.iload_n 2, 1) := by decide +kernel
theorem dX6_keep_46 : decode cX6_keep 46 = .ok (.ireturn, 1) := by decide +kernel
theorem dX6_back_0 : decode cX6_back 0 = .ok (.aload_n 0, 1) := by decide +kernel
theorem dX6_back_1 : decode cX6_back 1 = .ok (.iload_n 1, 1) := by decide +kernel
theorem dX6_back_2 : decode cX6_back 2 = .ok (.invokevirtual 220, 3) := by decide +kernel
theorem dX6_back_5 : decode cX6_back 5 = .ok (.ifCond .ne 5, 3) := by decide +kernel
theorem dX6_back_8 : decode cX6_back 8 = .ok (.iconst (-1), 1) := by decide +kernel
theorem dX6_back_9 : decode cX6_back 9 = .ok (.ireturn, 1) := by decide +kernel
theorem dX6_back_10 : decode cX6_back 10 = .ok (.aload_n 0, 1) := by decide +kernel
theorem dX6_back_11 : decode cX6_back 11 = .ok (.getfield 50, 3) := by decide +kernel
theorem dX6_back_14 : decode cX6_back 14 = .ok (.iload_n 1, 1) := by decide +kernel
theorem dX6_back_15 : decode cX6_back 15 = .ok (.baload, 1) := by decide +kernel
theorem dX6_back_16 : decode cX6_back 16 = .ok (.ifCond .ne 6, 3) := by decide +kernel
theorem dX6_back_19 : decode cX6_back 19 = .ok (.bipush (-2), 2) := by decide +kernel
theorem dX6_back_21 : decode cX6_back 21 = .ok (.ireturn, 1) := by decide +kernel
theorem dX6_back_22 : decode cX6_back 22 = .ok (.aload_n 0, 1) := by decide +kernel
theorem dX6_back_23 : decode cX6_back 23 = .ok (.getfield 26, 3) := by decide +kernel
theorem dX6_back_26 : decode cX6_back 26 = .ok (.aload_n 0, 1) := by decide +kernel
theorem dX6_back_27 : decode cX6_back 27 = .ok (.getfield 46, 3) := by decide +kernel
theorem dX6_back_30 : decode cX6_back 30 = .ok (.iload_n 1, 1) := by decide +kernel
theorem dX6_back_31 : decode cX6_back 31 = .ok (.aaload, 1) := by decide +kernel
theorem dX6_back_32 : decode cX6_back 32 = .ok (.invokevirtual 86, 3) := by decide +kernel
theorem dX6_back_35 : decode cX6_back 35 = .ok (.aload_n 0, 1) := by decide +kernel
theorem dX6_back_36 : decode cX6_back 36 = .ok (.getfield 26, 3) := by decide +kernel
theorem dX6_back_39 : decode cX6_back 39 = .ok (.getfield 89, 3) := by decide +kernel
theorem dX6_back_42 : decode cX6_back 42 = .ok (.ireturn, 1) := by decide +kernel
theorem dX6_sheet_0 : decode cX6_sheet 0 = .ok (.aload_n 0, 1) := by decide +kernel
theorem dX6_sheet_1 : decode cX6_sheet 1 = .ok (.iload_n 1, 1) := by decide +kernel
theorem dX6_sheet_2 : decode cX6_sheet 2 = .ok (.invokevirtual 223, 3) := by decide +kernel
theorem dX6_sheet_5 : decode cX6_sheet 5 = .ok (.ifCond .eq 16, 3) := by decide +kernel
theorem dX6_sheet_8 : decode cX6_sheet 8 = .ok (.iload_n 2, 1) := by decide +kernel
theorem dX6_sheet_9 : decode cX6_sheet 9 = .ok (.invokestatic 226, 3) := by decide +kernel
theorem dX6_sheet_12 : decode cX6_sheet 12 = .ok (.ifCond .eq 9, 3) := by decide +kernel
theorem dX6_sheet_15 : decode cX6_sheet 15 = .ok (.iload_n 3, 1) := by decide +kernel
theorem dX6_sheet_16 : decode cX6_sheet 16 = .ok (.bipush 40, 2) := by decide +kernel
theorem dX6_sheet_18 : decode cX6_sheet 18 = .ok (.if_icmp .le 5, 3) := by decide +kernel
theorem dX6_sheet_21 : decode cX6_sheet 21 = .ok (.iconst (-1), 1) := by decide +kernel
theorem dX6_sheet_22 : decode cX6_sheet 22 = .ok (.ireturn, 1) := by decide +kernel
theorem dX6_sheet_23 : decode cX6_sheet 23 = .ok (.iload_n 3, 1) := by decide +kernel
theorem dX6_sheet_24 : decode cX6_sheet 24 = .ok (.ifCond .ge 6, 3) := by decide +kernel
theorem dX6_sheet_27 : decode cX6_sheet 27 = .ok (.bipush (-14), 2) := by decide +kernel
theorem dX6_sheet_29 : decode cX6_sheet 29 = .ok (.ireturn, 1) := by decide +kernel
theorem dX6_sheet_30 : decode cX6_sheet 30 = .ok (.aload_n 0, 1) := by decide +kernel
theorem dX6_sheet_31 : decode cX6_sheet 31 = .ok (.getfield 57, 3) := by decide +kernel
theorem dX6_sheet_34 : decode cX6_sheet 34 = .ok (.iload_n 1, 1) := by decide +kernel
theorem dX6_sheet_35 : decode cX6_sheet 35 = .ok (.aaload, 1) := by decide +kernel
theorem dX6_sheet_36 : decode cX6_sheet 36 = .ok (.iload_n 2, 1) := by decide +kernel
theorem dX6_sheet_37 : decode cX6_sheet 37 = .ok (.iload_n 3, 1) := by decide +kernel
theorem dX6_sheet_38 : decode cX6_sheet 38 = .ok (.invokevirtual 229, 3) := by decide +kernel
theorem dX6_sheet_41 : decode cX6_sheet 41 = .ok (.iconst 1, 1) := by decide +kernel
theorem dX6_sheet_42 : decode cX6_sheet 42 = .ok (.ireturn, 1) := by decide +kernel
theorem dX6_lay_0 : decode cX6_lay 0 = .ok (.aload_n 0, 1) := by decide +kernel
theorem dX6_lay_1 : decode cX6_lay 1 = .ok (.iload_n 1, 1) := by decide +kernel
theorem dX6_lay_2 : decode cX6_lay 2 = .ok (.invokevirtual 223, 3) := by decide +kernel
theorem dX6_lay_5 : decode cX6_lay 5 = .ok (.ifCond .ne 5, 3) := by decide +kernel
theorem dX6_lay_8 : decode cX6_lay 8 = .ok (.iconst (-1), 1) := by decide +kernel
theorem dX6_lay_9 : decode cX6_lay 9 = .ok (.ireturn, 1) := by decide +kernel
theorem dX6_lay_10 : decode cX6_lay 10 = .ok (.aload_n 0, 1) := by decide +kernel
theorem dX6_lay_11 : decode cX6_lay 11 = .ok (.getfield 57, 3) := by decide +kernel
theorem dX6_lay_14 : decode cX6_lay 14 = .ok (.iload_n 1, 1) := by decide +kernel
theorem dX6_lay_15 : decode cX6_lay 15 = .ok (.aaload, 1) := by decide +kernel
theorem dX6_lay_16 : decode cX6_lay 16 = .ok (.astore 4, 2) := by decide +kernel
theorem dX6_lay_18 : decode cX6_lay 18 = .ok (.aload 4, 2) := by decide +kernel
theorem dX6_lay_20 : decode cX6_lay 20 = .ok (.invokevirtual 233, 3) := by decide +kernel
theorem dX6_lay_23 : decode cX6_lay 23 = .ok (.ifCond .eq 6, 3) := by decide +kernel
theorem dX6_lay_26 : decode cX6_lay 26 = .ok (.bipush (-11), 2) := by decide +kernel
theorem dX6_lay_28 : decode cX6_lay 28 = .ok (.ireturn, 1) := by decide +kernel
theorem dX6_lay_29 : decode cX6_lay 29 = .ok (.aload 4, 2) := by decide +kernel
theorem dX6_lay_31 : decode cX6_lay 31 = .ok (.iload_n 2, 1) := by decide +kernel
theorem dX6_lay_32 : decode cX6_lay 32 = .ok (.invokevirtual 236, 3) := by decide +kernel
theorem dX6_lay_35 : decode cX6_lay 35 = .ok (.ifCond .ne 6, 3) := by decide +kernel
theorem dX6_lay_38 : decode cX6_lay 38 = .ok (.bipush (-12), 2) := by decide +kernel
theorem dX6_lay_40 : decode cX6_lay 40 = .ok (.ireturn, 1) := by decide +kernel
theorem dX6_lay_41 : decode cX6_lay 41 = .ok (.aload 4, 2) := by decide +kernel
theorem dX6_lay_43 : decode cX6_lay 43 = .ok (.iload_n 2, 1) := by decide +kernel
theorem dX6_lay_44 : decode cX6_lay 44 = .ok (.iload_n 3, 1) := by decide +kernel
theorem dX6_lay_45 : decode cX6_lay 45 = .ok (.invokevirtual 239, 3) := by decide +kernel
theorem dX6_lay_48 : decode cX6_lay 48 = .ok (.iconst 1, 1) := by decide +kernel
theorem dX6_lay_49 : decode cX6_lay 49 = .ok (.ireturn, 1) := by decide +kernel
theorem dX6_read_0 : decode cX6_read 0 = .ok (.aload_n 0, 1) := by decide +kernel
theorem dX6_read_1 : decode cX6_read 1 = .ok (.iload_n 1, 1) := by decide +kernel
theorem dX6_read_2 : decode cX6_read 2 = .ok (.invokevirtual 223, 3) := by decide +kernel
theorem dX6_read_5 : decode cX6_read 5 = .ok (.ifCond .eq 22, 3) := by decide +kernel
theorem dX6_read_8 : decode cX6_read 8 = .ok (.iload_n 2, 1) := by decide +kernel
theorem dX6_read_9 : decode cX6_read 9 = .ok (.invokestatic 226, 3) := by decide +kernel
theorem dX6_read_12 : decode cX6_read 12 = .ok (.ifCond .eq 15, 3) := by decide +kernel
theorem dX6_read_15 : decode cX6_read 15 = .ok (.iload 4, 2) := by decide +kernel
theorem dX6_read_17 : decode cX6_read 17 = .ok (.ifCond .lt 10, 3) := by decide +kernel
theorem dX6_read_20 : decode cX6_read 20 = .ok (.iload 4, 2) := by decide +kernel
theorem dX6_read_22 : decode cX6_read 22 = .ok (.bipush 40, 2) := by decide +kernel
theorem dX6_read_24 : decode cX6_read 24 = .ok (.if_icmp .le 5, 3) := by decide +kernel
theorem dX6_read_27 : decode cX6_read 27 = .ok (.iconst (-1), 1) := by decide +kernel
theorem dX6_read_28 : decode cX6_read 28 = .ok (.ireturn, 1) := by decide +kernel
theorem dX6_read_29 : decode cX6_read 29 = .ok (.aload_n 0, 1) := by decide +kernel
theorem dX6_read_30 : decode cX6_read 30 = .ok (.getfield 26, 3) := by decide +kernel
theorem dX6_read_33 : decode cX6_read 33 = .ok (.getfield 89, 3) := by decide +kernel
theorem dX6_read_36 : decode cX6_read 36 = .ok (.istore 5, 2) := by decide +kernel
theorem dX6_read_38 : decode cX6_read 38 = .ok (.iconst 0, 1) := by decide +kernel
theorem dX6_read_39 : decode cX6_read 39 = .ok (.istore 6, 2) := by decide +kernel
theorem dX6_read_41 : decode cX6_read 41 = .ok (.iconst 0, 1) := by decide +kernel
theorem dX6_read_42 : decode cX6_read 42 = .ok (.istore 7, 2) := by decide +kernel
theorem dX6_read_44 : decode cX6_read 44 = .ok (.iload 7, 2) := by decide +kernel
theorem dX6_read_46 : decode cX6_read 46 = .ok (.iload 4, 2) := by decide +kernel
theorem dX6_read_48 : decode cX6_read 48 = .ok (.if_icmp .ge 68, 3) := by decide +kernel
theorem dX6_read_51 : decode cX6_read 51 = .ok (.aload_n 0, 1) := by decide +kernel
theorem dX6_read_52 : decode cX6_read 52 = .ok (.getfield 57, 3) := by decide +kernel
theorem dX6_read_55 : decode cX6_read 55 = .ok (.iload_n 1, 1) := by decide +kernel
theorem dX6_read_56 : decode cX6_read 56 = .ok (.aaload, 1) := by decide +kernel
theorem dX6_read_57 : decode cX6_read 57 = .ok (.iload_n 2, 1) := by decide +kernel
theorem dX6_read_58 : decode cX6_read 58 = .ok (.iload_n 3, 1) := by decide +kernel
theorem dX6_read_59 : decode cX6_read 59 = .ok (.iload 7, 2) := by decide +kernel
theorem dX6_read_61 : decode cX6_read 61 = .ok (.iadd, 1) := by decide +kernel
theorem dX6_read_62 : decode cX6_read 62 = .ok (.invokestatic 242, 3) := by decide +kernel
theorem dX6_read_65 : decode cX6_read 65 = .ok (.istore 6, 2) := by decide +kernel
theorem dX6_read_67 : decode cX6_read 67 = .ok (.iload 6, 2) := by decide +kernel
theorem dX6_read_69 : decode cX6_read 69 = .ok (.ifCond .eq 6, 3) := by decide +kernel
theorem dX6_read_72 : decode cX6_read 72 = .ok (.goto 44, 3) := by decide +kernel
theorem dX6_read_75 : decode cX6_read 75 = .ok (.aload_n 0, 1) := by decide +kernel
theorem dX6_read_76 : decode cX6_read 76 = .ok (.aload_n 0, 1) := by decide +kernel
theorem dX6_read_77 : decode cX6_read 77 = .ok (.getfield 57, 3) := by decide +kernel
theorem dX6_read_80 : decode cX6_read 80 = .ok (.iload_n 1, 1) := by decide +kernel
theorem dX6_read_81 : decode cX6_read 81 = .ok (.aaload, 1) := by decide +kernel
theorem dX6_read_82 : decode cX6_read 82 = .ok (.iload_n 3, 1) := by decide +kernel
theorem dX6_read_83 : decode cX6_read 83 = .ok (.iload 7, 2) := by decide +kernel
theorem dX6_read_85 : decode cX6_read 85 = .ok (.iadd, 1) := by decide +kernel
theorem dX6_read_86 : decode cX6_read 86 = .ok (.invokevirtual 246, 3) := by decide +kernel
theorem dX6_read_89 : decode cX6_read 89 = .ok (.invokevirtual 247, 3) := by decide +kernel
theorem dX6_read_92 : decode cX6_read 92 = .ok (.ifCond .ge 18, 3) := by decide +kernel
theorem dX6_read_95 : decode cX6_read 95 = .ok (.aload_n 0, 1) := by decide +kernel
theorem dX6_read_96 : decode cX6_read 96 = .ok (.getfield 26, 3) := by decide +kernel
theorem dX6_read_99 : decode cX6_read 99 = .ok (.iload 5, 2) := by decide +kernel
theorem dX6_read_101 : decode cX6_read 101 = .ok (.putfield 89, 3) := by decide +kernel
theorem dX6_read_104 : decode cX6_read 104 = .ok (.bipush (-20), 2) := by decide +kernel
theorem dX6_read_106 : decode cX6_read 106 = .ok (.iload 7, 2) := by decide +kernel
theorem dX6_read_108 : decode cX6_read 108 = .ok (.isub, 1) := by decide +kernel
theorem dX6_read_109 : decode cX6_read 109 = .ok (.ireturn, 1) := by decide +kernel
theorem dX6_read_110 : decode cX6_read 110 = .ok (.iinc 7 1, 3) := by decide +kernel
theorem dX6_read_113 : decode cX6_read 113 = .ok (.goto (-69), 3) := by decide +kernel
theorem dX6_read_116 : decode cX6_read 116 = .ok (.aload_n 0, 1) := by decide +kernel
theorem dX6_read_117 : decode cX6_read 117 = .ok (.iload 6, 2) := by decide +kernel
theorem dX6_read_119 : decode cX6_read 119 = .ok (.putfield 61, 3) := by decide +kernel
theorem dX6_read_122 : decode cX6_read 122 = .ok (.iload 7, 2) := by decide +kernel
theorem dX6_read_124 : decode cX6_read 124 = .ok (.ireturn, 1) := by decide +kernel
theorem dX6_torn_0 : decode cX6_torn 0 = .ok (.aload_n 0, 1) := by decide +kernel
theorem dX6_torn_1 : decode cX6_torn 1 = .ok (.getfield 61, 3) := by decide +kernel
theorem dX6_torn_4 : decode cX6_torn 4 = .ok (.ireturn, 1) := by decide +kernel
theorem dX6_count_0 : decode cX6_count 0 = .ok (.iload_n 1, 1) := by decide +kernel
theorem dX6_count_1 : decode cX6_count 1 = .ok (.tableswitch 76 0 3 #[31, 36, 44, 71], 31) := by decide +kernel
theorem dX6_count_32 : decode cX6_count 32 = .ok (.aload_n 0, 1) := by decide +kernel
theorem dX6_count_33 : decode cX6_count 33 = .ok (.invokevirtual 250, 3) := by decide +kernel
theorem dX6_count_36 : decode cX6_count 36 = .ok (.ireturn, 1) := by decide +kernel
theorem dX6_count_37 : decode cX6_count 37 = .ok (.aload_n 0, 1) := by decide +kernel
theorem dX6_count_38 : decode cX6_count 38 = .ok (.getfield 10, 3) := by decide +kernel
theorem dX6_count_41 : decode cX6_count 41 = .ok (.getfield 73, 3) := by decide +kernel
theorem dX6_count_44 : decode cX6_count 44 = .ok (.ireturn, 1) := by decide +kernel
theorem dX6_count_45 : decode cX6_count 45 = .ok (.aload_n 0, 1) := by decide +kernel
theorem dX6_count_46 : decode cX6_count 46 = .ok (.getfield 57, 3) := by decide +kernel
theorem dX6_count_49 : decode cX6_count 49 = .ok (.iconst 0, 1) := by decide +kernel
theorem dX6_count_50 : decode cX6_count 50 = .ok (.aaload, 1) := by decide +kernel
theorem dX6_count_51 : decode cX6_count 51 = .ok (.invokevirtual 233, 3) := by decide +kernel
theorem dX6_count_54 : decode cX6_count 54 = .ok (.ifCond .eq 8, 3) := by decide +kernel
theorem dX6_count_57 : decode cX6_count 57 = .ok (.bipush (-4), 2) := by decide +kernel
theorem dX6_count_59 : decode cX6_count 59 = .ok (.goto 12, 3) := by decide +kernel
theorem dX6_count_62 : decode cX6_count 62 = .ok (.aload_n 0, 1) := by decide +kernel
theorem dX6_count_63 : decode cX6_count 63 = .ok (.getfield 57, 3) := by decide +kernel
theorem dX6_count_66 : decode cX6_count 66 = .ok (.iconst 0, 1) := by decide +kernel
theorem dX6_count_67 : decode cX6_count 67 = .ok (.aaload, 1) := by decide +kernel
theorem dX6_count_68 : decode cX6_count 68 = .ok (.getfield 253, 3) := by decide +kernel
theorem dX6_count_71 : decode cX6_count 71 = .ok (.ireturn, 1) := by decide +kernel
theorem dX6_count_72 : decode cX6_count 72 = .ok (.aload_n 0, 1) := by decide +kernel
theorem dX6_count_73 : decode cX6_count 73 = .ok (.invokevirtual 254, 3) := by decide +kernel
theorem dX6_count_76 : decode cX6_count 76 = .ok (.ireturn, 1) := by decide +kernel
theorem dX6_count_77 : decode cX6_count 77 = .ok (.iconst (-1), 1) := by decide +kernel
theorem dX6_count_78 : decode cX6_count 78 = .ok (.ireturn, 1) := by decide +kernel
theorem dX6_isHundredths_0 : decode cX6_isHundredths 0 = .ok (.iload_n 0, 1) := by decide +kernel
theorem dX6_isHundredths_1 : decode cX6_isHundredths 1 = .ok (.ldc 215, 2) := by decide +kernel
theorem dX6_isHundredths_3 : decode cX6_isHundredths 3 = .ok (.if_icmp .lt 13, 3) := by decide +kernel
theorem dX6_isHundredths_6 : decode cX6_isHundredths 6 = .ok (.iload_n 0, 1) := by decide +kernel
theorem dX6_isHundredths_7 : decode cX6_isHundredths 7 = .ok (.ldc 216, 2) := by decide +kernel
theorem dX6_isHundredths_9 : decode cX6_isHundredths 9 = .ok (.if_icmp .gt 7, 3) := by decide +kernel
theorem dX6_isHundredths_12 : decode cX6_isHundredths 12 = .ok (.iconst 1, 1) := by decide +kernel
theorem dX6_isHundredths_13 : decode cX6_isHundredths 13 = .ok (.goto 4, 3) := by decide +kernel
theorem dX6_isHundredths_16 : decode cX6_isHundredths 16 = .ok (.iconst 0, 1) := by decide +kernel
theorem dX6_isHundredths_17 : decode cX6_isHundredths 17 = .ok (.ireturn, 1) := by decide +kernel
theorem dX6_isFactor_0 : decode cX6_isFactor 0 = .ok (.iload_n 0, 1) := by decide +kernel
theorem dX6_isFactor_1 : decode cX6_isFactor 1 = .ok (.iconst 1, 1) := by decide +kernel
theorem dX6_isFactor_2 : decode cX6_isFactor 2 = .ok (.if_icmp .lt 13, 3) := by decide +kernel
theorem dX6_isFactor_5 : decode cX6_isFactor 5 = .ok (.iload_n 0, 1) := by decide +kernel
theorem dX6_isFactor_6 : decode cX6_isFactor 6 = .ok (.bipush 20, 2) := by decide +kernel
theorem dX6_isFactor_8 : decode cX6_isFactor 8 = .ok (.if_icmp .gt 7, 3) := by decide +kernel
theorem dX6_isFactor_11 : decode cX6_isFactor 11 = .ok (.iconst 1, 1) := by decide +kernel
theorem dX6_isFactor_12 : decode cX6_isFactor 12 = .ok (.goto 4, 3) := by decide +kernel
theorem dX6_isFactor_15 : decode cX6_isFactor 15 = .ok (.iconst 0, 1) := by decide +kernel
theorem dX6_isFactor_16 : decode cX6_isFactor 16 = .ok (.ireturn, 1) := by decide +kernel
theorem dX6_isImage_0 : decode cX6_isImage 0 = .ok (.iload_n 1, 1) := by decide +kernel
theorem dX6_isImage_1 : decode cX6_isImage 1 = .ok (.ifCond .lt 25, 3) := by decide +kernel
theorem dX6_isImage_4 : decode cX6_isImage 4 = .ok (.iload_n 1, 1) := by decide +kernel
theorem dX6_isImage_5 : decode cX6_isImage 5 = .ok (.aload_n 0, 1) := by decide +kernel
theorem dX6_isImage_6 : decode cX6_isImage 6 = .ok (.getfield 50, 3) := by decide +kernel
theorem dX6_isImage_9 : decode cX6_isImage 9 = .ok (.arraylength, 1) := by decide +kernel
theorem dX6_isImage_10 : decode cX6_isImage 10 = .ok (.if_icmp .ge 16, 3) := by decide +kernel
theorem dX6_isImage_13 : decode cX6_isImage 13 = .ok (.iload_n 1, 1) := by decide +kernel
theorem dX6_isImage_14 : decode cX6_isImage 14 = .ok (.aload_n 0, 1) := by decide +kernel
theorem dX6_isImage_15 : decode cX6_isImage 15 = .ok (.getfield 46, 3) := by decide +kernel
theorem dX6_isImage_18 : decode cX6_isImage 18 = .ok (.arraylength, 1) := by decide +kernel
theorem dX6_isImage_19 : decode cX6_isImage 19 = .ok (.if_icmp .ge 7, 3) := by decide +kernel
theorem dX6_isImage_22 : decode cX6_isImage 22 = .ok (.iconst 1, 1) := by decide +kernel
theorem dX6_isImage_23 : decode cX6_isImage 23 = .ok (.goto 4, 3) := by decide +kernel
theorem dX6_isImage_26 : decode cX6_isImage 26 = .ok (.iconst 0, 1) := by decide +kernel
theorem dX6_isImage_27 : decode cX6_isImage 27 = .ok (.ireturn, 1) := by decide +kernel
theorem dX6_isSheet_0 : decode cX6_isSheet 0 = .ok (.iload_n 1, 1) := by decide +kernel
theorem dX6_isSheet_1 : decode cX6_isSheet 1 = .ok (.ifCond .lt 16, 3) := by decide +kernel
theorem dX6_isSheet_4 : decode cX6_isSheet 4 = .ok (.iload_n 1, 1) := by decide +kernel
theorem dX6_isSheet_5 : decode cX6_isSheet 5 = .ok (.aload_n 0, 1) := by decide +kernel
theorem dX6_isSheet_6 : decode cX6_isSheet 6 = .ok (.getfield 57, 3) := by decide +kernel
theorem dX6_isSheet_9 : decode cX6_isSheet 9 = .ok (.arraylength, 1) := by decide +kernel
theorem dX6_isSheet_10 : decode cX6_isSheet 10 = .ok (.if_icmp .ge 7, 3) := by decide +kernel
theorem dX6_isSheet_13 : decode cX6_isSheet 13 = .ok (.iconst 1, 1) := by decide +kernel
theorem dX6_isSheet_14 : decode cX6_isSheet 14 = .ok (.goto 4, 3) := by decide +kernel
theorem dX6_isSheet_17 : decode cX6_isSheet 17 = .ok (.iconst 0, 1) := by decide +kernel
theorem dX6_isSheet_18 : decode cX6_isSheet 18 = .ok (.ireturn, 1) := by decide +kernel
theorem dX6_isLane_0 : decode cX6_isLane 0 = .ok (.iload_n 0, 1) := by decide +kernel
theorem dX6_isLane_1 : decode cX6_isLane 1 = .ok (.ifCond .lt 12, 3) := by decide +kernel
theorem dX6_isLane_4 : decode cX6_isLane 4 = .ok (.iload_n 0, 1) := by decide +kernel
theorem dX6_isLane_5 : decode cX6_isLane 5 = .ok (.iconst 2, 1) := by decide +kernel
theorem dX6_isLane_6 : decode cX6_isLane 6 = .ok (.if_icmp .gt 7, 3) := by decide +kernel
theorem dX6_isLane_9 : decode cX6_isLane 9 = .ok (.iconst 1, 1) := by decide +kernel
theorem dX6_isLane_10 : decode cX6_isLane 10 = .ok (.goto 4, 3) := by decide +kernel
theorem dX6_isLane_13 : decode cX6_isLane 13 = .ok (.iconst 0, 1) := by decide +kernel
theorem dX6_isLane_14 : decode cX6_isLane 14 = .ok (.ireturn, 1) := by decide +kernel
theorem dX6_putBehind_0 : decode cX6_putBehind 0 = .ok (.aload_n 0, 1) := by decide +kernel
theorem dX6_putBehind_1 : decode cX6_putBehind 1 = .ok (.getfield 26, 3) := by decide +kernel
theorem dX6_putBehind_4 : decode cX6_putBehind 4 = .ok (.invokevirtual 212, 3) := by decide +kernel
theorem dX6_putBehind_7 : decode cX6_putBehind 7 = .ok (.ifCond .eq 6, 3) := by decide +kernel
theorem dX6_putBehind_10 : decode cX6_putBehind 10 = .ok (.bipush (-3), 2) := by decide +kernel
theorem dX6_putBehind_12 : decode cX6_putBehind 12 = .ok (.ireturn, 1) := by decide +kernel
theorem dX6_putBehind_13 : decode cX6_putBehind 13 = .ok (.aload_n 0, 1) := by decide +kernel
theorem dX6_putBehind_14 : decode cX6_putBehind 14 = .ok (.getfield 26, 3) := by decide +kernel
theorem dX6_putBehind_17 : decode cX6_putBehind 17 = .ok (.iload_n 1, 1) := by decide +kernel
theorem dX6_putBehind_18 : decode cX6_putBehind 18 = .ok (.invokevirtual 214, 3) := by decide +kernel
theorem dX6_putBehind_21 : decode cX6_putBehind 21 = .ok (.aload_n 0, 1) := by decide +kernel
theorem dX6_putBehind_22 : decode cX6_putBehind 22 = .ok (.getfield 26, 3) := by decide +kernel
theorem dX6_putBehind_25 : decode cX6_putBehind 25 = .ok (.getfield 89, 3) := by decide +kernel
theorem dX6_putBehind_28 : decode cX6_putBehind 28 = .ok (.ireturn, 1) := by decide +kernel
theorem dX6_replace_0 : decode cX6_replace 0 = .ok (.aload_n 0, 1) := by decide +kernel
theorem dX6_replace_1 : decode cX6_replace 1 = .ok (.getfield 26, 3) := by decide +kernel
theorem dX6_replace_4 : decode cX6_replace 4 = .ok (.iload_n 1, 1) := by decide +kernel
theorem dX6_replace_5 : decode cX6_replace 5 = .ok (.invokevirtual 120, 3) := by decide +kernel
theorem dX6_replace_8 : decode cX6_replace 8 = .ok (.ldc 143, 2) := by decide +kernel
theorem dX6_replace_10 : decode cX6_replace 10 = .ok (.if_icmp .ne 7, 3) := by decide +kernel
theorem dX6_replace_13 : decode cX6_replace 13 = .ok (.iconst 1, 1) := by decide +kernel
theorem dX6_replace_14 : decode cX6_replace 14 = .ok (.goto 4, 3) := by decide +kernel
theorem dX6_replace_17 : decode cX6_replace 17 = .ok (.iconst 0, 1) := by decide +kernel
theorem dX6_replace_18 : decode cX6_replace 18 = .ok (.istore_n 3, 1) := by decide +kernel
theorem dX6_replace_19 : decode cX6_replace 19 = .ok (.aload_n 0, 1) := by decide +kernel
theorem dX6_replace_20 : decode cX6_replace 20 = .ok (.getfield 26, 3) := by decide +kernel
theorem dX6_replace_23 : decode cX6_replace 23 = .ok (.iload_n 1, 1) := by decide +kernel
theorem dX6_replace_24 : decode cX6_replace 24 = .ok (.iload_n 2, 1) := by decide +kernel
theorem dX6_replace_25 : decode cX6_replace 25 = .ok (.invokevirtual 257, 3) := by decide +kernel
theorem dX6_replace_28 : decode cX6_replace 28 = .ok (.iload_n 3, 1) := by decide +kernel
theorem dX6_replace_29 : decode cX6_replace 29 = .ok (.ireturn, 1) := by decide +kernel
theorem dX6_countResults_0 : decode cX6_countResults 0 = .ok (.iconst 0, 1) := by decide +kernel
theorem dX6_countResults_1 : decode cX6_countResults 1 = .ok (.istore_n 1, 1) := by decide +kernel
theorem dX6_countResults_2 : decode cX6_countResults 2 = .ok (.aload_n 0, 1) := by decide +kernel
theorem dX6_countResults_3 : decode cX6_countResults 3 = .ok (.getfield 35, 3) := by decide +kernel
theorem dX6_countResults_6 : decode cX6_countResults 6 = .ok (.invokevirtual 182, 3) := by decide +kernel
theorem dX6_countResults_9 : decode cX6_countResults 9 = .ok (.iconst 0, 1) := by decide +kernel
theorem dX6_countResults_10 : decode cX6_countResults 10 = .ok (.istore_n 2, 1) := by decide +kernel
theorem dX6_countResults_11 : decode cX6_countResults 11 = .ok (.iload_n 2, 1) := by decide +kernel
theorem dX6_countResults_12 : decode cX6_countResults 12 = .ok (.aload_n 0, 1) := by decide +kernel
theorem dX6_countResults_13 : decode cX6_countResults 13 = .ok (.getfield 26, 3) := by decide +kernel
theorem dX6_countResults_16 : decode cX6_countResults 16 = .ok (.getfield 89, 3) := by decide +kernel
theorem dX6_countResults_19 : decode cX6_countResults 19 = .ok (.if_icmp .ge 30, 3) := by decide +kernel
theorem dX6_countResults_22 : decode cX6_countResults 22 = .ok (.aload_n 0, 1) := by decide +kernel
theorem dX6_countResults_23 : decode cX6_countResults 23 = .ok (.getfield 35, 3) := by decide +kernel
theorem dX6_countResults_26 : decode cX6_countResults 26 = .ok (.iload_n 2, 1) := by decide +kernel
theorem dX6_countResults_27 : decode cX6_countResults 27 = .ok (.invokevirtual 185, 3) := by decide +kernel
theorem dX6_countResults_30 : decode cX6_countResults 30 = .ok (.aload_n 0, 1) := by decide +kernel
theorem dX6_countResults_31 : decode cX6_countResults 31 = .ok (.getfield 35, 3) := by decide +kernel
theorem dX6_countResults_34 : decode cX6_countResults 34 = .ok (.invokevirtual 134, 3) := by decide +kernel
theorem dX6_countResults_37 : decode cX6_countResults 37 = .ok (.ifCond .eq 6, 3) := by decide +kernel
theorem dX6_countResults_40 : decode cX6_countResults 40 = .ok (.iinc 1 1, 3) := by decide +kernel
theorem dX6_countResults_43 : decode cX6_countResults 43 = .ok (.iinc 2 1, 3) := by decide +kernel
theorem dX6_countResults_46 : decode cX6_countResults 46 = .ok (.goto (-35), 3) := by decide +kernel
theorem dX6_countResults_49 : decode cX6_countResults 49 = .ok (.iload_n 1, 1) := by decide +kernel
theorem dX6_countResults_50 : decode cX6_countResults 50 = .ok (.ireturn, 1) := by decide +kernel
theorem dX6_countImages_0 : decode cX6_countImages 0 = .ok (.iconst 0, 1) := by decide +kernel
theorem dX6_countImages_1 : decode cX6_countImages 1 = .ok (.istore_n 1, 1) := by decide +kernel
theorem dX6_countImages_2 : decode cX6_countImages 2 = .ok (.iconst 0, 1) := by decide +kernel
theorem dX6_countImages_3 : decode cX6_countImages 3 = .ok (.istore_n 2, 1) := by decide +kernel
theorem dX6_countImages_4 : decode cX6_countImages 4 = .ok (.iload_n 2, 1) := by decide +kernel
theorem dX6_countImages_5 : decode cX6_countImages 5 = .ok (.aload_n 0, 1) := by decide +kernel
theorem dX6_countImages_6 : decode cX6_countImages 6 = .ok (.getfield 50, 3) := by decide +kernel
theorem dX6_countImages_9 : decode cX6_countImages 9 = .ok (.arraylength, 1) := by decide +kernel
theorem dX6_countImages_10 : decode cX6_countImages 10 = .ok (.if_icmp .ge 21, 3) := by decide +kernel
theorem dX6_countImages_13 : decode cX6_countImages 13 = .ok (.aload_n 0, 1) := by decide +kernel
theorem dX6_countImages_14 : decode cX6_countImages 14 = .ok (.getfield 50, 3) := by decide +kernel
theorem dX6_countImages_17 : decode cX6_countImages 17 = .ok (.iload_n 2, 1) := by decide +kernel
theorem dX6_countImages_18 : decode cX6_countImages 18 = .ok (.baload, 1) := by decide +kernel
theorem dX6_countImages_19 : decode cX6_countImages 19 = .ok (.ifCond .eq 6, 3) := by decide +kernel
theorem dX6_countImages_22 : decode cX6_countImages 22 = .ok (.iinc 1 1, 3) := by decide +kernel
theorem dX6_countImages_25 : decode cX6_countImages 25 = .ok (.iinc 2 1, 3) := by decide +kernel
theorem dX6_countImages_28 : decode cX6_countImages 28 = .ok (.goto (-24), 3) := by decide +kernel
theorem dX6_countImages_31 : decode cX6_countImages 31 = .ok (.iload_n 1, 1) := by decide +kernel
theorem dX6_countImages_32 : decode cX6_countImages 32 = .ok (.ireturn, 1) := by decide +kernel
theorem dX6_countShownBytes_0 : decode cX6_countShownBytes 0 = .ok (.iconst 0, 1) := by decide +kernel
theorem dX6_countShownBytes_1 : decode cX6_countShownBytes 1 = .ok (.istore_n 1, 1) := by decide +kernel
theorem dX6_countShownBytes_2 : decode cX6_countShownBytes 2 = .ok (.aload_n 0, 1) := by decide +kernel
theorem dX6_countShownBytes_3 : decode cX6_countShownBytes 3 = .ok (.getfield 35, 3) := by decide +kernel
theorem dX6_countShownBytes_6 : decode cX6_countShownBytes 6 = .ok (.invokevirtual 182, 3) := by decide +kernel
theorem dX6_countShownBytes_9 : decode cX6_countShownBytes 9 = .ok (.iconst 0, 1) := by decide +kernel
theorem dX6_countShownBytes_10 : decode cX6_countShownBytes 10 = .ok (.istore_n 2, 1) := by decide +kernel
theorem dX6_countShownBytes_11 : decode cX6_countShownBytes 11 = .ok (.iload_n 2, 1) := by decide +kernel
theorem dX6_countShownBytes_12 : decode cX6_countShownBytes 12 = .ok (.aload_n 0, 1) := by decide +kernel
theorem dX6_countShownBytes_13 : decode cX6_countShownBytes 13 = .ok (.getfield 26, 3) := by decide +kernel
theorem dX6_countShownBytes_16 : decode cX6_countShownBytes 16 = .ok (.getfield 89, 3) := by decide +kernel
theorem dX6_countShownBytes_19 : decode cX6_countShownBytes 19 = .ok (.if_icmp .ge 31, 3) := by decide +kernel
theorem dX6_countShownBytes_22 : decode cX6_countShownBytes 22 = .ok (.aload_n 0, 1) := by decide +kernel
theorem dX6_countShownBytes_23 : decode cX6_countShownBytes 23 = .ok (.getfield 35, 3) := by decide +kernel
theorem dX6_countShownBytes_26 : decode cX6_countShownBytes 26 = .ok (.iload_n 2, 1) := by decide +kernel
theorem dX6_countShownBytes_27 : decode cX6_countShownBytes 27 = .ok (.invokevirtual 185, 3) := by decide +kernel
theorem dX6_countShownBytes_30 : decode cX6_countShownBytes 30 = .ok (.aload_n 0, 1) := by decide +kernel
theorem dX6_countShownBytes_31 : decode cX6_countShownBytes 31 = .ok (.invokevirtual 162, 3) := by decide +kernel
theorem dX6_countShownBytes_34 : decode cX6_countShownBytes 34 = .ok (.iload_n 1, 1) := by decide +kernel
theorem dX6_countShownBytes_35 : decode cX6_countShownBytes 35 = .ok (.aload_n 0, 1) := by decide +kernel
theorem dX6_countShownBytes_36 : decode cX6_countShownBytes 36 = .ok (.getfield 42, 3) := by decide +kernel
theorem dX6_countShownBytes_39 : decode cX6_countShownBytes 39 = .ok (.getfield 165, 3) := by decide +kernel
theorem dX6_countShownBytes_42 : decode cX6_countShownBytes 42 = .ok (.iadd, 1) := by decide +kernel
theorem dX6_countShownBytes_43 : decode cX6_countShownBytes 43 = .ok (.istore_n 1, 1) := by decide +kernel
theorem dX6_countShownBytes_44 : decode cX6_countShownBytes 44 = .ok (.iinc 2 1, 3) := by decide +kernel
theorem dX6_countShownBytes_47 : decode cX6_countShownBytes 47 = .ok (.goto (-36), 3) := by decide +kernel
theorem dX6_countShownBytes_50 : decode cX6_countShownBytes 50 = .ok (.iload_n 1, 1) := by decide +kernel
theorem dX6_countShownBytes_51 : decode cX6_countShownBytes 51 = .ok (.ireturn, 1) := by decide +kernel
theorem dX6_writeWords_0 : decode cX6_writeWords 0 = .ok (.aload_n 0, 1) := by decide +kernel
theorem dX6_writeWords_1 : decode cX6_writeWords 1 = .ok (.getfield 35, 3) := by decide +kernel
theorem dX6_writeWords_4 : decode cX6_writeWords 4 = .ok (.invokevirtual 134, 3) := by decide +kernel
theorem dX6_writeWords_7 : decode cX6_writeWords 7 = .ok (.ifCond .eq 27, 3) := by decide +kernel
theorem dX6_writeWords_10 : decode cX6_writeWords 10 = .ok (.aload_n 0, 1) := by decide +kernel
theorem dX6_writeWords_11 : decode cX6_writeWords 11 = .ok (.getfield 42, 3) := by decide +kernel
theorem dX6_writeWords_14 : decode cX6_writeWords 14 = .ok (.aload_n 0, 1) := by decide +kernel
theorem dX6_writeWords_15 : decode cX6_writeWords 15 = .ok (.getfield 35, 3) := by decide +kernel
theorem dX6_writeWords_18 : decode cX6_writeWords 18 = .ok (.invokevirtual 153, 3) := by decide +kernel
theorem dX6_writeWords_21 : decode cX6_writeWords 21 = .ok (.aload_n 0, 1) := by decide +kernel
theorem dX6_writeWords_22 : decode cX6_writeWords 22 = .ok (.getfield 26, 3) := by decide +kernel
theorem dX6_writeWords_25 : decode cX6_writeWords 25 = .ok (.getfield 114, 3) := by decide +kernel
theorem dX6_writeWords_28 : decode cX6_writeWords 28 = .ok (.invokevirtual 260, 3) := by decide +kernel
theorem dX6_writeWords_31 : decode cX6_writeWords 31 = .ok (.goto 10, 3) := by decide +kernel
theorem dX6_writeWords_34 : decode cX6_writeWords 34 = .ok (.aload_n 0, 1) := by decide +kernel
theorem dX6_writeWords_35 : decode cX6_writeWords 35 = .ok (.getfield 42, 3) := by decide +kernel
theorem dX6_writeWords_38 : decode cX6_writeWords 38 = .ok (.invokevirtual 263, 3) := by decide +kernel
theorem dX6_writeWords_41 : decode cX6_writeWords 41 = .ok (.return_, 1) := by decide +kernel
theorem dX6_tearAt_0 : decode cX6_tearAt 0 = .ok (.aload_n 0, 1) := by decide +kernel
theorem dX6_tearAt_1 : decode cX6_tearAt 1 = .ok (.invokevirtual 233, 3) := by decide +kernel
theorem dX6_tearAt_4 : decode cX6_tearAt 4 = .ok (.ifCond .eq 5, 3) := by decide +kernel
theorem dX6_tearAt_7 : decode cX6_tearAt 7 = .ok (.iconst 1, 1) := by decide +kernel
theorem dX6_tearAt_8 : decode cX6_tearAt 8 = .ok (.ireturn, 1) := by decide +kernel
theorem dX6_tearAt_9 : decode cX6_tearAt 9 = .ok (.aload_n 0, 1) := by decide +kernel
theorem dX6_tearAt_10 : decode cX6_tearAt 10 = .ok (.getfield 266, 3) := by decide +kernel
theorem dX6_tearAt_13 : decode cX6_tearAt 13 = .ok (.iload_n 1, 1) := by decide +kernel
theorem dX6_tearAt_14 : decode cX6_tearAt 14 = .ok (.if_icmp .eq 5, 3) := by decide +kernel
theorem dX6_tearAt_17 : decode cX6_tearAt 17 = .ok (.iconst 3, 1) := by decide +kernel
theorem dX6_tearAt_18 : decode cX6_tearAt 18 = .ok (.ireturn, 1) := by decide +kernel
theorem dX6_tearAt_19 : decode cX6_tearAt 19 = .ok (.aload_n 0, 1) := by decide +kernel
theorem dX6_tearAt_20 : decode cX6_tearAt 20 = .ok (.iload_n 2, 1) := by decide +kernel
theorem dX6_tearAt_21 : decode cX6_tearAt 21 = .ok (.invokevirtual 236, 3) := by decide +kernel
theorem dX6_tearAt_24 : decode cX6_tearAt 24 = .ok (.ifCond .eq 7, 3) := by decide +kernel
theorem dX6_tearAt_27 : decode cX6_tearAt 27 = .ok (.iconst 0, 1) := by decide +kernel
theorem dX6_tearAt_28 : decode cX6_tearAt 28 = .ok (.goto 4, 3) := by decide +kernel
theorem dX6_tearAt_31 : decode cX6_tearAt 31 = .ok (.iconst 2, 1) := by decide +kernel
theorem dX6_tearAt_32 : decode cX6_tearAt 32 = .ok (.ireturn, 1) := by decide +kernel
theorem dX7_init_0 : decode cX7_init 0 = .ok (.aload_n 0, 1) := by decide +kernel
theorem dX7_init_1 : decode cX7_init 1 = .ok (.invokespecial 1, 3) := by decide +kernel
theorem dX7_init_4 : decode cX7_init 4 = .ok (.aload_n 0, 1) := by decide +kernel
theorem dX7_init_5 : decode cX7_init 5 = .ok (.sipush 515, 3) := by decide +kernel
theorem dX7_init_8 : decode cX7_init 8 = .ok (.newarray .int, 2) := by decide +kernel
theorem dX7_init_10 : decode cX7_init 10 = .ok (.putfield 7, 3) := by decide +kernel
theorem dX7_init_13 : decode cX7_init 13 = .ok (.aload_n 0, 1) := by decide +kernel
theorem dX7_init_14 : decode cX7_init 14 = .ok (.sipush 320, 3) := by decide +kernel
theorem dX7_init_17 : decode cX7_init 17 = .ok (.newarray .int, 2) := by decide +kernel
theorem dX7_init_19 : decode cX7_init 19 = .ok (.putfield 13, 3) := by decide +kernel
theorem dX7_init_22 : decode cX7_init 22 = .ok (.aload_n 0, 1) := by decide +kernel
theorem dX7_init_23 : decode cX7_init 23 = .ok (.bipush 16, 2) := by decide +kernel
theorem dX7_init_25 : decode cX7_init 25 = .ok (.newarray .int, 2) := by decide +kernel
theorem dX7_init_27 : decode cX7_init 27 = .ok (.dup, 1) := by decide +kernel
theorem dX7_init_28 : decode cX7_init 28 = .ok (.iconst 0, 1) := by decide +kernel
theorem dX7_init_29 : decode cX7_init 29 = .ok (.iconst 0, 1) := by decide +kernel
theorem dX7_init_30 : decode cX7_init 30 = .ok (.iastore, 1) := by decide +kernel
theorem dX7_init_31 : decode cX7_init 31 = .ok (.dup, 1) := by decide +kernel
theorem dX7_init_32 : decode cX7_init 32 = .ok (.iconst 1, 1) := by decide +kernel
theorem dX7_init_33 : decode cX7_init 33 = .ok (.iconst 5, 1) := by decide +kernel
theorem dX7_init_34 : decode cX7_init 34 = .ok (.iastore, 1) := by decide +kernel
theorem dX7_init_35 : decode cX7_init 35 = .ok (.dup, 1) := by decide +kernel
theorem dX7_init_36 : decode cX7_init 36 = .ok (.iconst 2, 1) := by decide +kernel
theorem dX7_init_37 : decode cX7_init 37 = .ok (.bipush 9, 2) := by decide +kernel
theorem dX7_init_39 : decode cX7_init 39 = .ok (.iastore, 1) := by decide +kernel
theorem dX7_init_40 : decode cX7_init 40 = .ok (.dup, 1) := by decide +kernel
theorem dX7_init_41 : decode cX7_init 41 = .ok (.iconst 3, 1) := by decide +kernel
theorem dX7_init_42 : decode cX7_init 42 = .ok (.bipush 13, 2) := by decide +kernel
theorem dX7_init_44 : decode cX7_init 44 = .ok (.iastore, 1) := by decide +kernel
theorem dX7_init_45 : decode cX7_init 45 = .ok (.dup, 1) := by decide +kernel
theorem dX7_init_46 : decode cX7_init 46 = .ok (.iconst 4, 1) := by decide +kernel
theorem dX7_init_47 : decode cX7_init 47 = .ok (.bipush 17, 2) := by decide +kernel
theorem dX7_init_49 : decode cX7_init 49 = .ok (.iastore, 1) := by decide +kernel
theorem dX7_init_50 : decode cX7_init 50 = .ok (.dup, 1) := by decide +kernel
theorem dX7_init_51 : decode cX7_init 51 = .ok (.iconst 5, 1) := by decide +kernel
theorem dX7_init_52 : decode cX7_init 52 = .ok (.bipush 21, 2) := by decide +kernel
theorem dX7_init_54 : decode cX7_init 54 = .ok (.iastore, 1) := by decide +kernel
theorem dX7_init_55 : decode cX7_init 55 = .ok (.dup, 1) := by decide +kernel
theorem dX7_init_56 : decode cX7_init 56 = .ok (.bipush 6, 2) := by decide +kernel
theorem dX7_init_58 : decode cX7_init 58 = .ok (.bipush 24, 2) := by decide +kernel
theorem dX7_init_60 : decode cX7_init 60 = .ok (.iastore, 1) := by decide +kernel
theorem dX7_init_61 : decode cX7_init 61 = .ok (.dup, 1) := by decide +kernel
theorem dX7_init_62 : decode cX7_init 62 = .ok (.bipush 7, 2) := by decide +kernel
theorem dX7_init_64 : decode cX7_init 64 = .ok (.bipush 27, 2) := by decide +kernel
theorem dX7_init_66 : decode cX7_init 66 = .ok (.iastore, 1) := by decide +kernel
theorem dX7_init_67 : decode cX7_init 67 = .ok (.dup, 1) := by decide +kernel
theorem dX7_init_68 : decode cX7_init 68 = .ok (.bipush 8, 2) := by decide +kernel
theorem dX7_init_70 : decode cX7_init 70 = .ok (.bipush 31, 2) := by decide +kernel
theorem dX7_init_72 : decode cX7_init 72 = .ok (.iastore, 1) := by decide +kernel
theorem dX7_init_73 : decode cX7_init 73 = .ok (.dup, 1) := by decide +kernel
theorem dX7_init_74 : decode cX7_init 74 = .ok (.bipush 9, 2) := by decide +kernel
theorem dX7_init_76 : decode cX7_init 76 = .ok (.bipush 35, 2) := by decide +kernel
theorem dX7_init_78 : decode cX7_init 78 = .ok (.iastore, 1) := by decide +kernel
theorem dX7_init_79 : decode cX7_init 79 = .ok (.dup, 1) := by decide +kernel
theorem dX7_init_80 : decode cX7_init 80 = .ok (.bipush 10, 2) := by decide +kernel
theorem dX7_init_82 : decode cX7_init 82 = .ok (.bipush 39, 2) := by decide +kernel
theorem dX7_init_84 : decode cX7_init 84 = .ok (.iastore, 1) := by decide +kernel
theorem dX7_init_85 : decode cX7_init 85 = .ok (.dup, 1) := by decide +kernel
theorem dX7_init_86 : decode cX7_init 86 = .ok (.bipush 11, 2) := by decide +kernel
theorem dX7_init_88 : decode cX7_init 88 = .ok (.bipush 43, 2) := by decide +kernel
theorem dX7_init_90 : decode cX7_init 90 = .ok (.iastore, 1) := by decide +kernel
theorem dX7_init_91 : decode cX7_init 91 = .ok (.dup, 1) := by decide +kernel
theorem dX7_init_92 : decode cX7_init 92 = .ok (.bipush 12, 2) := by decide +kernel
theorem dX7_init_94 : decode cX7_init 94 = .ok (.bipush 48, 2) := by decide +kernel
theorem dX7_init_96 : decode cX7_init 96 = .ok (.iastore, 1) := by decide +kernel
theorem dX7_init_97 : decode cX7_init 97 = .ok (.dup, 1) := by decide +kernel
theorem dX7_init_98 : decode cX7_init 98 = .ok (.bipush 13, 2) := by decide +kernel
theorem dX7_init_100 : decode cX7_init 100 = .ok (.bipush 53, 2) := by decide +kernel
theorem dX7_init_102 : decode cX7_init 102 = .ok (.iastore, 1) := by decide +kernel
theorem dX7_init_103 : decode cX7_init 103 = .ok (.dup, 1) := by decide +kernel
theorem dX7_init_104 : decode cX7_init 104 = .ok (.bipush 14, 2) := by decide +kernel
theorem dX7_init_106 : decode cX7_init 106 = .ok (.bipush 57, 2) := by decide +kernel
theorem dX7_init_108 : decode cX7_init 108 = .ok (.iastore, 1) := by decide +kernel
theorem dX7_init_109 : decode cX7_init 109 = .ok (.dup, 1) := by decide +kernel
theorem dX7_init_110 : decode cX7_init 110 = .ok (.bipush 15, 2) := by decide +kernel
theorem dX7_init_112 : decode cX7_init 112 = .ok (.bipush 61, 2) := by decide +kernel
theorem dX7_init_114 : decode cX7_init 114 = .ok (.iastore, 1) := by decide +kernel
theorem dX7_init_115 : decode cX7_init 115 = .ok (.putfield 16, 3) := by decide +kernel
theorem dX7_init_118 : decode cX7_init 118 = .ok (.aload_n 0, 1) := by decide +kernel
theorem dX7_init_119 : decode cX7_init 119 = .ok (.bipush 61, 2) := by decide +kernel
theorem dX7_init_121 : decode cX7_init 121 = .ok (.newarray .int, 2) := by decide +kernel
theorem dX7_init_123 : decode cX7_init 123 = .ok (.dup, 1) := by decide +kernel
theorem dX7_init_124 : decode cX7_init 124 = .ok (.iconst 0, 1) := by decide +kernel
theorem dX7_init_125 : decode cX7_init 125 = .ok (.bipush 119, 2) := by decide +kernel
theorem dX7_init_127 : decode cX7_init 127 = .ok (.iastore, 1) := by decide +kernel
theorem dX7_init_128 : decode cX7_init 128 = .ok (.dup, 1) := by decide +kernel
theorem dX7_init_129 : decode cX7_init 129 = .ok (.iconst 1, 1) := by decide +kernel
theorem dX7_init_130 : decode cX7_init 130 = .ok (.bipush 105, 2) := by decide +kernel
theorem dX7_init_132 : decode cX7_init 132 = .ok (.iastore, 1) := by decide +kernel
theorem dX7_init_133 : decode cX7_init 133 = .ok (.dup, 1) := by decide +kernel
theorem dX7_init_134 : decode cX7_init 134 = .ok (.iconst 2, 1) := by decide +kernel
theorem dX7_init_135 : decode cX7_init 135 = .ok (.bipush 100, 2) := by decide +kernel
theorem dX7_init_137 : decode cX7_init 137 = .ok (.iastore, 1) := by decide +kernel
theorem dX7_init_138 : decode cX7_init 138 = .ok (.dup, 1) := by decide +kernel
theorem dX7_init_139 : decode cX7_init 139 = .ok (.iconst 3, 1) := by decide +kernel
theorem dX7_init_140 : decode cX7_init 140 = .ok (.bipush 116, 2) := by decide +kernel
theorem dX7_init_142 : decode cX7_init 142 = .ok (.iastore, 1) := by decide +kernel
theorem dX7_init_143 : decode cX7_init 143 = .ok (.dup, 1) := by decide +kernel
theorem dX7_init_144 : decode cX7_init 144 = .ok (.iconst 4, 1) := by decide +kernel
theorem dX7_init_145 : decode cX7_init 145 = .ok (.bipush 104, 2) := by decide +kernel
theorem dX7_init_147 : decode cX7_init 147 = .ok (.iastore, 1) := by decide +kernel
theorem dX7_init_148 : decode cX7_init 148 = .ok (.dup, 1) := by decide +kernel
theorem dX7_init_149 : decode cX7_init 149 = .ok (.iconst 5, 1) := by decide +kernel
theorem dX7_init_150 : decode cX7_init 150 = .ok (.bipush 110, 2) := by decide +kernel
theorem dX7_init_152 : decode cX7_init 152 = .ok (.iastore, 1) := by decide +kernel
theorem dX7_init_153 : decode cX7_init 153 = .ok (.dup, 1) := by decide +kernel
theorem dX7_init_154 : decode cX7_init 154 = .ok (.bipush 6, 2) := by decide +kernel
theorem dX7_init_156 : decode cX7_init 156 = .ok (.bipush 101, 2) := by decide +kernel
theorem dX7_init_158 : decode cX7_init 158 = .ok (.iastore, 1) := by decide +kernel
theorem dX7_init_159 : decode cX7_init 159 = .ok (.dup, 1) := by decide +kernel
theorem dX7_init_160 : decode cX7_init 160 = .ok (.bipush 7, 2) := by decide +kernel
theorem dX7_init_162 : decode cX7_init 162 = .ok (.bipush 101, 2) := by decide +kernel
theorem dX7_init_164 : decode cX7_init 164 = .ok (.iastore, 1) := by decide +kernel
theorem dX7_init_165 : decode cX7_init 165 = .ok (.dup, 1) := by decide +kernel
theorem dX7_init_166 : decode cX7_init 166 = .ok (.bipush 8, 2) := by decide +kernel
theorem dX7_init_168 : decode cX7_init 168 = .ok (.bipush 100, 2) := by decide +kernel
theorem dX7_init_170 : decode cX7_init 170 = .ok (.iastore, 1) := by decide +kernel
theorem dX7_init_171 : decode cX7_init 171 = .ok (.dup, 1) := by decide +kernel
theorem dX7_init_172 : decode cX7_init 172 = .ok (.bipush 9, 2) := by decide +kernel
theorem dX7_init_174 : decode cX7_init 174 = .ok (.bipush 112, 2) := by decide +kernel
theorem dX7_init_176 : decode cX7_init 176 = .ok (.iastore, 1) := by decide +kernel
theorem dX7_init_177 : decode cX7_init 177 = .ok (.dup, 1) := by decide +kernel
theorem dX7_init_178 : decode cX7_init 178 = .ok (.bipush 10, 2) := by decide +kernel
theorem dX7_init_180 : decode cX7_init 180 = .ok (.bipush 97, 2) := by decide +kernel
theorem dX7_init_182 : decode cX7_init 182 = .ok (.iastore, 1) := by decide +kernel
theorem dX7_init_183 : decode cX7_init 183 = .ok (.dup, 1) := by decide +kernel
theorem dX7_init_184 : decode cX7_init 184 = .ok (.bipush 11, 2) := by decide +kernel
theorem dX7_init_186 : decode cX7_init 186 = .ok (.bipush 114, 2) := by decide +kernel
theorem dX7_init_188 : decode cX7_init 188 = .ok (.iastore, 1) := by decide +kernel
theorem dX7_init_189 : decode cX7_init 189 = .ok (.dup, 1) := by decide +kernel
theorem dX7_init_190 : decode cX7_init 190 = .ok (.bipush 12, 2) := by decide +kernel
theorem dX7_init_192 : decode cX7_init 192 = .ok (.bipush 116, 2) := by decide +kernel
theorem dX7_init_194 : decode cX7_init 194 = .ok (.iastore, 1) := by decide +kernel
theorem dX7_init_195 : decode cX7_init 195 = .ok (.dup, 1) := by decide +kernel
theorem dX7_init_196 : decode cX7_init 196 = .ok (.bipush 13, 2) := by decide +kernel
theorem dX7_init_198 : decode cX7_init 198 = .ok (.bipush 114, 2) := by decide +kernel
theorem dX7_init_200 : decode cX7_init 200 = .ok (.iastore, 1) := by decide +kernel
theorem dX7_init_201 : decode cX7_init 201 = .ok (.dup, 1) := by decide +kernel
theorem dX7_init_202 : decode cX7_init 202 = .ok (.bipush 14, 2) := by decide +kernel
theorem dX7_init_204 : decode cX7_init 204 = .ok (.bipush 117, 2) := by decide +kernel
theorem dX7_init_206 : decode cX7_init 206 = .ok (.iastore, 1) := by decide +kernel
theorem dX7_init_207 : decode cX7_init 207 = .ok (.dup, 1) := by decide +kernel
theorem dX7_init_208 : decode cX7_init 208 = .ok (.bipush 15, 2) := by decide +kernel
theorem dX7_init_210 : decode cX7_init 210 = .ok (.bipush 108, 2) := by decide +kernel
theorem dX7_init_212 : decode cX7_init 212 = .ok (.iastore, 1) := by decide +kernel
theorem dX7_init_213 : decode cX7_init 213 = .ok (.dup, 1) := by decide +kernel
theorem dX7_init_214 : decode cX7_init 214 = .ok (.bipush 16, 2) := by decide +kernel
theorem dX7_init_216 : decode cX7_init 216 = .ok (.bipush 101, 2) := by decide +kernel
theorem dX7_init_218 : decode cX7_init 218 = .ok (.iastore, 1) := by decide +kernel
theorem dX7_init_219 : decode cX7_init 219 = .ok (.dup, 1) := by decide +kernel
theorem dX7_init_220 : decode cX7_init 220 = .ok (.bipush 17, 2) := by decide +kernel
theorem dX7_init_222 : decode cX7_init 222 = .ok (.bipush 102, 2) := by decide +kernel
theorem dX7_init_224 : decode cX7_init 224 = .ok (.iastore, 1) := by decide +kernel
theorem dX7_init_225 : decode cX7_init 225 = .ok (.dup, 1) := by decide +kernel
theorem dX7_init_226 : decode cX7_init 226 = .ok (.bipush 18, 2) := by decide +kernel
theorem dX7_init_228 : decode cX7_init 228 = .ok (.bipush 111, 2) := by decide +kernel
theorem dX7_init_230 : decode cX7_init 230 = .ok (.iastore, 1) := by decide +kernel
theorem dX7_init_231 : decode cX7_init 231 = .ok (.dup, 1) := by decide +kernel
theorem dX7_init_232 : decode cX7_init 232 = .ok (.bipush 19, 2) := by decide +kernel
theorem dX7_init_234 : decode cX7_init 234 = .ok (.bipush 114, 2) := by decide +kernel
theorem dX7_init_236 : decode cX7_init 236 = .ok (.iastore, 1) := by decide +kernel
theorem dX7_init_237 : decode cX7_init 237 = .ok (.dup, 1) := by decide +kernel
theorem dX7_init_238 : decode cX7_init 238 = .ok (.bipush 20, 2) := by decide +kernel
theorem dX7_init_240 : decode cX7_init 240 = .ok (.bipush 109, 2) := by decide +kernel
theorem dX7_init_242 : decode cX7_init 242 = .ok (.iastore, 1) := by decide +kernel
theorem dX7_init_243 : decode cX7_init 243 = .ok (.dup, 1) := by decide +kernel
theorem dX7_init_244 : decode cX7_init 244 = .ok (.bipush 21, 2) := by decide +kernel
theorem dX7_init_246 : decode cX7_init 246 = .ok (.bipush 112, 2) := by decide +kernel
theorem dX7_init_248 : decode cX7_init 248 = .ok (.iastore, 1) := by decide +kernel
theorem dX7_init_249 : decode cX7_init 249 = .ok (.dup, 1) := by decide +kernel
theorem dX7_init_250 : decode cX7_init 250 = .ok (.bipush 22, 2) := by decide +kernel
theorem dX7_init_252 : decode cX7_init 252 = .ok (.bipush 117, 2) := by decide +kernel
theorem dX7_init_254 : decode cX7_init 254 = .ok (.iastore, 1) := by decide +kernel
theorem dX7_init_255 : decode cX7_init 255 = .ok (.dup, 1) := by decide +kernel
theorem dX7_init_256 : decode cX7_init 256 = .ok (.bipush 23, 2) := by decide +kernel
theorem dX7_init_258 : decode cX7_init 258 = .ok (.bipush 116, 2) := by decide +kernel
theorem dX7_init_260 : decode cX7_init 260 = .ok (.iastore, 1) := by decide +kernel
theorem dX7_init_261 : decode cX7_init 261 = .ok (.dup, 1) := by decide +kernel
theorem dX7_init_262 : decode cX7_init 262 = .ok (.bipush 24, 2) := by decide +kernel
theorem dX7_init_264 : decode cX7_init 264 = .ok (.bipush 108, 2) := by decide +kernel
theorem dX7_init_266 : decode cX7_init 266 = .ok (.iastore, 1) := by decide +kernel
theorem dX7_init_267 : decode cX7_init 267 = .ok (.dup, 1) := by decide +kernel
theorem dX7_init_268 : decode cX7_init 268 = .ok (.bipush 25, 2) := by decide +kernel
theorem dX7_init_270 : decode cX7_init 270 = .ok (.bipush 111, 2) := by decide +kernel
theorem dX7_init_272 : decode cX7_init 272 = .ok (.iastore, 1) := by decide +kernel
theorem dX7_init_273 : decode cX7_init 273 = .ok (.dup, 1) := by decide +kernel
theorem dX7_init_274 : decode cX7_init 274 = .ok (.bipush 26, 2) := by decide +kernel
theorem dX7_init_276 : decode cX7_init 276 = .ok (.bipush 119, 2) := by decide +kernel
theorem dX7_init_278 : decode cX7_init 278 = .ok (.iastore, 1) := by decide +kernel
theorem dX7_init_279 : decode cX7_init 279 = .ok (.dup, 1) := by decide +kernel
theorem dX7_init_280 : decode cX7_init 280 = .ok (.bipush 27, 2) := by decide +kernel
theorem dX7_init_282 : decode cX7_init 282 = .ok (.bipush 104, 2) := by decide +kernel
theorem dX7_init_284 : decode cX7_init 284 = .ok (.iastore, 1) := by decide +kernel
theorem dX7_init_285 : decode cX7_init 285 = .ok (.dup, 1) := by decide +kernel
theorem dX7_init_286 : decode cX7_init 286 = .ok (.bipush 28, 2) := by decide +kernel
theorem dX7_init_288 : decode cX7_init 288 = .ok (.bipush 105, 2) := by decide +kernel
theorem dX7_init_290 : decode cX7_init 290 = .ok (.iastore, 1) := by decide +kernel
theorem dX7_init_291 : decode cX7_init 291 = .ok (.dup, 1) := by decide +kernel
theorem dX7_init_292 : decode cX7_init 292 = .ok (.bipush 29, 2) := by decide +kernel
theorem dX7_init_294 : decode cX7_init 294 = .ok (.bipush 103, 2) := by decide +kernel
theorem dX7_init_296 : decode cX7_init 296 = .ok (.iastore, 1) := by decide +kernel
theorem dX7_init_297 : decode cX7_init 297 = .ok (.dup, 1) := by decide +kernel
theorem dX7_init_298 : decode cX7_init 298 = .ok (.bipush 30, 2) := by decide +kernel
theorem dX7_init_300 : decode cX7_init 300 = .ok (.bipush 104, 2) := by decide +kernel
theorem dX7_init_302 : decode cX7_init 302 = .ok (.iastore, 1) := by decide +kernel
theorem dX7_init_303 : decode cX7_init 303 = .ok (.dup, 1) := by decide +kernel
theorem dX7_init_304 : decode cX7_init 304 = .ok (.bipush 31, 2) := by decide +kernel
theorem dX7_init_306 : decode cX7_init 306 = .ok (.bipush 110, 2) := by decide +kernel
theorem dX7_init_308 : decode cX7_init 308 = .ok (.iastore, 1) := by decide +kernel
theorem dX7_init_309 : decode cX7_init 309 = .ok (.dup, 1) := by decide +kernel
theorem dX7_init_310 : decode cX7_init 310 = .ok (.bipush 32, 2) := by decide +kernel
theorem dX7_init_312 : decode cX7_init 312 = .ok (.bipush 101, 2) := by decide +kernel
theorem dX7_init_314 : decode cX7_init 314 = .ok (.iastore, 1) := by decide +kernel
theorem dX7_init_315 : decode cX7_init 315 = .ok (.dup, 1) := by decide +kernel
theorem dX7_init_316 : decode cX7_init 316 = .ok (.bipush 33, 2) := by decide +kernel
theorem dX7_init_318 : decode cX7_init 318 = .ok (.bipush 97, 2) := by decide +kernel
theorem dX7_init_320 : decode cX7_init 320 = .ok (.iastore, 1) := by decide +kernel
theorem dX7_init_321 : decode cX7_init 321 = .ok (.dup, 1) := by decide +kernel
theorem dX7_init_322 : decode cX7_init 322 = .ok (.bipush 34, 2) := by decide +kernel
theorem dX7_init_324 : decode cX7_init 324 = .ok (.bipush 114, 2) := by decide +kernel
theorem dX7_init_326 : decode cX7_init 326 = .ok (.iastore, 1) := by decide +kernel
theorem dX7_init_327 : decode cX7_init 327 = .ok (.dup, 1) := by decide +kernel
theorem dX7_init_328 : decode cX7_init 328 = .ok (.bipush 35, 2) := by decide +kernel
theorem dX7_init_330 : decode cX7_init 330 = .ok (.bipush 109, 2) := by decide +kernel
theorem dX7_init_332 : decode cX7_init 332 = .ok (.iastore, 1) := by decide +kernel
theorem dX7_init_333 : decode cX7_init 333 = .ok (.dup, 1) := by decide +kernel
theorem dX7_init_334 : decode cX7_init 334 = .ok (.bipush 36, 2) := by decide +kernel
theorem dX7_init_336 : decode cX7_init 336 = .ok (.bipush 101, 2) := by decide +kernel
theorem dX7_init_338 : decode cX7_init 338 = .ok (.iastore, 1) := by decide +kernel
theorem dX7_init_339 : decode cX7_init 339 = .ok (.dup, 1) := by decide +kernel
theorem dX7_init_340 : decode cX7_init 340 = .ok (.bipush 37, 2) := by decide +kernel
theorem dX7_init_342 : decode cX7_init 342 = .ok (.bipush 97, 2) := by decide +kernel
theorem dX7_init_344 : decode cX7_init 344 = .ok (.iastore, 1) := by decide +kernel
theorem dX7_init_345 : decode cX7_init 345 = .ok (.dup, 1) := by decide +kernel
theorem dX7_init_346 : decode cX7_init 346 = .ok (.bipush 38, 2) := by decide +kernel
theorem dX7_init_348 : decode cX7_init 348 = .ok (.bipush 110, 2) := by decide +kernel
theorem dX7_init_350 : decode cX7_init 350 = .ok (.iastore, 1) := by decide +kernel
theorem dX7_init_351 : decode cX7_init 351 = .ok (.dup, 1) := by decide +kernel
theorem dX7_init_352 : decode cX7_init 352 = .ok (.bipush 39, 2) := by decide +kernel
theorem dX7_init_354 : decode cX7_init 354 = .ok (.bipush 108, 2) := by decide +kernel
theorem dX7_init_356 : decode cX7_init 356 = .ok (.iastore, 1) := by decide +kernel
theorem dX7_init_357 : decode cX7_init 357 = .ok (.dup, 1) := by decide +kernel
theorem dX7_init_358 : decode cX7_init 358 = .ok (.bipush 40, 2) := by decide +kernel
theorem dX7_init_360 : decode cX7_init 360 = .ok (.bipush 105, 2) := by decide +kernel
theorem dX7_init_362 : decode cX7_init 362 = .ok (.iastore, 1) := by decide +kernel
theorem dX7_init_363 : decode cX7_init 363 = .ok (.dup, 1) := by decide +kernel
theorem dX7_init_364 : decode cX7_init 364 = .ok (.bipush 41, 2) := by decide +kernel
theorem dX7_init_366 : decode cX7_init 366 = .ok (.bipush 110, 2) := by decide +kernel
theorem dX7_init_368 : decode cX7_init 368 = .ok (.iastore, 1) := by decide +kernel
theorem dX7_init_369 : decode cX7_init 369 = .ok (.dup, 1) := by decide +kernel
theorem dX7_init_370 : decode cX7_init 370 = .ok (.bipush 42, 2) := by decide +kernel
theorem dX7_init_372 : decode cX7_init 372 = .ok (.bipush 101, 2) := by decide +kernel
theorem dX7_init_374 : decode cX7_init 374 = .ok (.iastore, 1) := by decide +kernel
theorem dX7_init_375 : decode cX7_init 375 = .ok (.dup, 1) := by decide +kernel
theorem dX7_init_376 : decode cX7_init 376 = .ok (.bipush 43, 2) := by decide +kernel
theorem dX7_init_378 : decode cX7_init 378 = .ok (.bipush 112, 2) := by decide +kernel
theorem dX7_init_380 : decode cX7_init 380 = .ok (.iastore, 1) := by decide +kernel
theorem dX7_init_381 : decode cX7_init 381 = .ok (.dup, 1) := by decide +kernel
theorem dX7_init_382 : decode cX7_init 382 = .ok (.bipush 44, 2) := by decide +kernel
theorem dX7_init_384 : decode cX7_init 384 = .ok (.bipush 108, 2) := by decide +kernel
theorem dX7_init_386 : decode cX7_init 386 = .ok (.iastore, 1) := by decide +kernel
theorem dX7_init_387 : decode cX7_init 387 = .ok (.dup, 1) := by decide +kernel
theorem dX7_init_388 : decode cX7_init 388 = .ok (.bipush 45, 2) := by decide +kernel
theorem dX7_init_390 : decode cX7_init 390 = .ok (.bipush 97, 2) := by decide +kernel
theorem dX7_init_392 : decode cX7_init 392 = .ok (.iastore, 1) := by decide +kernel
theorem dX7_init_393 : decode cX7_init 393 = .ok (.dup, 1) := by decide +kernel
theorem dX7_init_394 : decode cX7_init 394 = .ok (.bipush 46, 2) := by decide +kernel
theorem dX7_init_396 : decode cX7_init 396 = .ok (.bipush 105, 2) := by decide +kernel
theorem dX7_init_398 : decode cX7_init 398 = .ok (.iastore, 1) := by decide +kernel
theorem dX7_init_399 : decode cX7_init 399 = .ok (.dup, 1) := by decide +kernel
theorem dX7_init_400 : decode cX7_init 400 = .ok (.bipush 47, 2) := by decide +kernel
theorem dX7_init_402 : decode cX7_init 402 = .ok (.bipush 110, 2) := by decide +kernel
theorem dX7_init_404 : decode cX7_init 404 = .ok (.iastore, 1) := by decide +kernel
theorem dX7_init_405 : decode cX7_init 405 = .ok (.dup, 1) := by decide +kernel
theorem dX7_init_406 : decode cX7_init 406 = .ok (.bipush 48, 2) := by decide +kernel
theorem dX7_init_408 : decode cX7_init 408 = .ok (.bipush 99, 2) := by decide +kernel
theorem dX7_init_410 : decode cX7_init 410 = .ok (.iastore, 1) := by decide +kernel
theorem dX7_init_411 : decode cX7_init 411 = .ok (.dup, 1) := by decide +kernel
theorem dX7_init_412 : decode cX7_init 412 = .ok (.bipush 49, 2) := by decide +kernel
theorem dX7_init_414 : decode cX7_init 414 = .ok (.bipush 101, 2) := by decide +kernel
theorem dX7_init_416 : decode cX7_init 416 = .ok (.iastore, 1) := by decide +kernel
theorem dX7_init_417 : decode cX7_init 417 = .ok (.dup, 1) := by decide +kernel
theorem dX7_init_418 : decode cX7_init 418 = .ok (.bipush 50, 2) := by decide +kernel
theorem dX7_init_420 : decode cX7_init 420 = .ok (.bipush 110, 2) := by decide +kernel
theorem dX7_init_422 : decode cX7_init 422 = .ok (.iastore, 1) := by decide +kernel
theorem dX7_init_423 : decode cX7_init 423 = .ok (.dup, 1) := by decide +kernel
theorem dX7_init_424 : decode cX7_init 424 = .ok (.bipush 51, 2) := by decide +kernel
theorem dX7_init_426 : decode cX7_init 426 = .ok (.bipush 116, 2) := by decide +kernel
theorem dX7_init_428 : decode cX7_init 428 = .ok (.iastore, 1) := by decide +kernel
theorem dX7_init_429 : decode cX7_init 429 = .ok (.dup, 1) := by decide +kernel
theorem dX7_init_430 : decode cX7_init 430 = .ok (.bipush 52, 2) := by decide +kernel
theorem dX7_init_432 : decode cX7_init 432 = .ok (.bipush 115, 2) := by decide +kernel
theorem dX7_init_434 : decode cX7_init 434 = .ok (.iastore, 1) := by decide +kernel
theorem dX7_init_435 : decode cX7_init 435 = .ok (.dup, 1) := by decide +kernel
theorem dX7_init_436 : decode cX7_init 436 = .ok (.bipush 53, 2) := by decide +kernel
theorem dX7_init_438 : decode cX7_init 438 = .ok (.bipush 115, 2) := by decide +kernel
theorem dX7_init_440 : decode cX7_init 440 = .ok (.iastore, 1) := by decide +kernel
theorem dX7_init_441 : decode cX7_init 441 = .ok (.dup, 1) := by decide +kernel
theorem dX7_init_442 : decode cX7_init 442 = .ok (.bipush 54, 2) := by decide +kernel
theorem dX7_init_444 : decode cX7_init 444 = .ok (.bipush 105, 2) := by decide +kernel
theorem dX7_init_446 : decode cX7_init 446 = .ok (.iastore, 1) := by decide +kernel
theorem dX7_init_447 : decode cX7_init 447 = .ok (.dup, 1) := by decide +kernel
theorem dX7_init_448 : decode cX7_init 448 = .ok (.bipush 55, 2) := by decide +kernel
theorem dX7_init_450 : decode cX7_init 450 = .ok (.bipush 103, 2) := by decide +kernel
theorem dX7_init_452 : decode cX7_init 452 = .ok (.iastore, 1) := by decide +kernel
theorem dX7_init_453 : decode cX7_init 453 = .ok (.dup, 1) := by decide +kernel
theorem dX7_init_454 : decode cX7_init 454 = .ok (.bipush 56, 2) := by decide +kernel
theorem dX7_init_456 : decode cX7_init 456 = .ok (.bipush 110, 2) := by decide +kernel
theorem dX7_init_458 : decode cX7_init 458 = .ok (.iastore, 1) := by decide +kernel
theorem dX7_init_459 : decode cX7_init 459 = .ok (.dup, 1) := by decide +kernel
theorem dX7_init_460 : decode cX7_init 460 = .ok (.bipush 57, 2) := by decide +kernel
theorem dX7_init_462 : decode cX7_init 462 = .ok (.bipush 109, 2) := by decide +kernel
theorem dX7_init_464 : decode cX7_init 464 = .ok (.iastore, 1) := by decide +kernel
theorem dX7_init_465 : decode cX7_init 465 = .ok (.dup, 1) := by decide +kernel
theorem dX7_init_466 : decode cX7_init 466 = .ok (.bipush 58, 2) := by decide +kernel
theorem dX7_init_468 : decode cX7_init 468 = .ok (.bipush 105, 2) := by decide +kernel
theorem dX7_init_470 : decode cX7_init 470 = .ok (.iastore, 1) := by decide +kernel
theorem dX7_init_471 : decode cX7_init 471 = .ok (.dup, 1) := by decide +kernel
theorem dX7_init_472 : decode cX7_init 472 = .ok (.bipush 59, 2) := by decide +kernel
theorem dX7_init_474 : decode cX7_init 474 = .ok (.bipush 115, 2) := by decide +kernel
theorem dX7_init_476 : decode cX7_init 476 = .ok (.iastore, 1) := by decide +kernel
theorem dX7_init_477 : decode cX7_init 477 = .ok (.dup, 1) := by decide +kernel
theorem dX7_init_478 : decode cX7_init 478 = .ok (.bipush 60, 2) := by decide +kernel
theorem dX7_init_480 : decode cX7_init 480 = .ok (.bipush 115, 2) := by decide +kernel
theorem dX7_init_482 : decode cX7_init 482 = .ok (.iastore, 1) := by decide +kernel
theorem dX7_init_483 : decode cX7_init 483 = .ok (.putfield 19, 3) := by decide +kernel
theorem dX7_init_486 : decode cX7_init 486 = .ok (.aload_n 0, 1) := by decide +kernel
theorem dX7_init_487 : decode cX7_init 487 = .ok (.bipush 24, 2) := by decide +kernel
theorem dX7_init_489 : decode cX7_init 489 = .ok (.newarray .int, 2) := by decide +kernel
theorem dX7_init_491 : decode cX7_init 491 = .ok (.putfield 22, 3) := by decide +kernel
theorem dX7_init_494 : decode cX7_init 494 = .ok (.aload_n 0, 1) := by decide +kernel
theorem dX7_init_495 : decode cX7_init 495 = .ok (.bipush 24, 2) := by decide +kernel
theorem dX7_init_497 : decode cX7_init 497 = .ok (.newarray .int, 2) := by decide +kernel
theorem dX7_init_499 : decode cX7_init 499 = .ok (.putfield 25, 3) := by decide +kernel
theorem dX7_init_502 : decode cX7_init 502 = .ok (.aload_n 0, 1) := by decide +kernel
theorem dX7_init_503 : decode cX7_init 503 = .ok (.bipush 16, 2) := by decide +kernel
theorem dX7_init_505 : decode cX7_init 505 = .ok (.newarray .int, 2) := by decide +kernel
theorem dX7_init_507 : decode cX7_init 507 = .ok (.putfield 28, 3) := by decide +kernel
theorem dX7_init_510 : decode cX7_init 510 = .ok (.aload_n 0, 1) := by decide +kernel
theorem dX7_init_511 : decode cX7_init 511 = .ok (.iconst 2, 1) := by decide +kernel
theorem dX7_init_512 : decode cX7_init 512 = .ok (.newarray .boolean, 2) := by decide +kernel
theorem dX7_init_514 : decode cX7_init 514 = .ok (.dup, 1) := by decide +kernel
theorem dX7_init_515 : decode cX7_init 515 = .ok (.iconst 0, 1) := by decide +kernel
theorem dX7_init_516 : decode cX7_init 516 = .ok (.iconst 0, 1) := by decide +kernel
theorem dX7_init_517 : decode cX7_init 517 = .ok (.bastore, 1) := by decide +kernel
theorem dX7_init_518 : decode cX7_init 518 = .ok (.dup, 1) := by decide +kernel
theorem dX7_init_519 : decode cX7_init 519 = .ok (.iconst 1, 1) := by decide +kernel
theorem dX7_init_520 : decode cX7_init 520 = .ok (.iconst 0, 1) := by decide +kernel
theorem dX7_init_521 : decode cX7_init 521 = .ok (.bastore, 1) := by decide +kernel
theorem dX7_init_522 : decode cX7_init 522 = .ok (.putfield 31, 3) := by decide +kernel
theorem dX7_init_525 : decode cX7_init 525 = .ok (.aload_n 0, 1) := by decide +kernel
theorem dX7_init_526 : decode cX7_init 526 = .ok (.iconst 4, 1) := by decide +kernel
theorem dX7_init_527 : decode cX7_init 527 = .ok (.newarray .int, 2) := by decide +kernel
theorem dX7_init_529 : decode cX7_init 529 = .ok (.dup, 1) := by decide +kernel
theorem dX7_init_530 : decode cX7_init 530 = .ok (.iconst 0, 1) := by decide +kernel
theorem dX7_init_531 : decode cX7_init 531 = .ok (.bipush (-4), 2) := by decide +kernel
theorem dX7_init_533 : decode cX7_init 533 = .ok (.iastore, 1) := by decide +kernel
theorem dX7_init_534 : decode cX7_init 534 = .ok (.dup, 1) := by decide +kernel
theorem dX7_init_535 : decode cX7_init 535 = .ok (.iconst 1, 1) := by decide +kernel
theorem dX7_init_536 : decode cX7_init 536 = .ok (.bipush (-4), 2) := by decide +kernel
theorem dX7_init_538 : decode cX7_init 538 = .ok (.iastore, 1) := by decide +kernel
theorem dX7_init_539 : decode cX7_init 539 = .ok (.dup, 1) := by decide +kernel
theorem dX7_init_540 : decode cX7_init 540 = .ok (.iconst 2, 1) := by decide +kernel
theorem dX7_init_541 : decode cX7_init 541 = .ok (.bipush (-4), 2) := by decide +kernel
theorem dX7_init_543 : decode cX7_init 543 = .ok (.iastore, 1) := by decide +kernel
theorem dX7_init_544 : decode cX7_init 544 = .ok (.dup, 1) := by decide +kernel
theorem dX7_init_545 : decode cX7_init 545 = .ok (.iconst 3, 1) := by decide +kernel
theorem dX7_init_546 : decode cX7_init 546 = .ok (.bipush (-4), 2) := by decide +kernel
theorem dX7_init_548 : decode cX7_init 548 = .ok (.iastore, 1) := by decide +kernel
theorem dX7_init_549 : decode cX7_init 549 = .ok (.putfield 35, 3) := by decide +kernel
theorem dX7_init_552 : decode cX7_init 552 = .ok (.aload_n 0, 1) := by decide +kernel
theorem dX7_init_553 : decode cX7_init 553 = .ok (.iconst 4, 1) := by decide +kernel
theorem dX7_init_554 : decode cX7_init 554 = .ok (.newarray .int, 2) := by decide +kernel
theorem dX7_init_556 : decode cX7_init 556 = .ok (.dup, 1) := by decide +kernel
theorem dX7_init_557 : decode cX7_init 557 = .ok (.iconst 0, 1) := by decide +kernel
theorem dX7_init_558 : decode cX7_init 558 = .ok (.iconst 0, 1) := by decide +kernel
theorem dX7_init_559 : decode cX7_init 559 = .ok (.iastore, 1) := by decide +kernel
theorem dX7_init_560 : decode cX7_init 560 = .ok (.dup, 1) := by decide +kernel
theorem dX7_init_561 : decode cX7_init 561 = .ok (.iconst 1, 1) := by decide +kernel
theorem dX7_init_562 : decode cX7_init 562 = .ok (.iconst 0, 1) := by decide +kernel
theorem dX7_init_563 : decode cX7_init 563 = .ok (.iastore, 1) := by decide +kernel
theorem dX7_init_564 : decode cX7_init 564 = .ok (.dup, 1) := by decide +kernel
theorem dX7_init_565 : decode cX7_init 565 = .ok (.iconst 2, 1) := by decide +kernel
theorem dX7_init_566 : decode cX7_init 566 = .ok (.iconst 0, 1) := by decide +kernel
theorem dX7_init_567 : decode cX7_init 567 = .ok (.iastore, 1) := by decide +kernel
theorem dX7_init_568 : decode cX7_init 568 = .ok (.dup, 1) := by decide +kernel
theorem dX7_init_569 : decode cX7_init 569 = .ok (.iconst 3, 1) := by decide +kernel
theorem dX7_init_570 : decode cX7_init 570 = .ok (.iconst 0, 1) := by decide +kernel
theorem dX7_init_571 : decode cX7_init 571 = .ok (.iastore, 1) := by decide +kernel
theorem dX7_init_572 : decode cX7_init 572 = .ok (.putfield 38, 3) := by decide +kernel
theorem dX7_init_575 : decode cX7_init 575 = .ok (.aload_n 0, 1) := by decide +kernel
theorem dX7_init_576 : decode cX7_init 576 = .ok (.sipush 160, 3) := by decide +kernel
theorem dX7_init_579 : decode cX7_init 579 = .ok (.newarray .int, 2) := by decide +kernel
theorem dX7_init_581 : decode cX7_init 581 = .ok (.putfield 41, 3) := by decide +kernel
theorem dX7_init_584 : decode cX7_init 584 = .ok (.return_, 1) := by decide +kernel
theorem dX7_in_0 : decode cX7_in 0 = .ok (.lload_n 0, 1) := by decide +kernel
theorem dX7_in_1 : decode cX7_in 1 = .ok (.lload_n 2, 1) := by decide +kernel
theorem dX7_in_2 : decode cX7_in 2 = .ok (.lcmp, 1) := by decide +kernel
theorem dX7_in_3 : decode cX7_in 3 = .ok (.ifCond .lt 14, 3) := by decide +kernel
theorem dX7_in_6 : decode cX7_in 6 = .ok (.lload_n 0, 1) := by decide +kernel
theorem dX7_in_7 : decode cX7_in 7 = .ok (.lload 4, 2) := by decide +kernel
theorem dX7_in_9 : decode cX7_in 9 = .ok (.lcmp, 1) := by decide +kernel
theorem dX7_in_10 : decode cX7_in 10 = .ok (.ifCond .gt 7, 3) := by decide +kernel
theorem dX7_in_13 : decode cX7_in 13 = .ok (.iconst 1, 1) := by decide +kernel
theorem dX7_in_14 : decode cX7_in 14 = .ok (.goto 4, 3) := by decide +kernel
theorem dX7_in_17 : decode cX7_in 17 = .ok (.iconst 0, 1) := by decide +kernel
theorem dX7_in_18 : decode cX7_in 18 = .ok (.ireturn, 1) := by decide +kernel
theorem dX7_begins_0 : decode cX7_begins 0 = .ok (.aload_n 0, 1) := by decide +kernel
theorem dX7_begins_1 : decode cX7_begins 1 = .ok (.getfield 7, 3) := by decide +kernel
theorem dX7_begins_4 : decode cX7_begins 4 = .ok (.iload_n 1, 1) := by decide +kernel
theorem dX7_begins_5 : decode cX7_begins 5 = .ok (.bipush 96, 2) := by decide +kernel
theorem dX7_begins_7 : decode cX7_begins 7 = .ok (.iadd, 1) := by decide +kernel
theorem dX7_begins_8 : decode cX7_begins 8 = .ok (.iconst 5, 1) := by decide +kernel
theorem dX7_begins_9 : decode cX7_begins 9 = .ok (.iastore, 1) := by decide +kernel
theorem dX7_begins_10 : decode cX7_begins 10 = .ok (.aload_n 0, 1) := by decide +kernel
theorem dX7_begins_11 : decode cX7_begins 11 = .ok (.getfield 7, 3) := by decide +kernel
theorem dX7_begins_14 : decode cX7_begins 14 = .ok (.iload_n 1, 1) := by decide +kernel
theorem dX7_begins_15 : decode cX7_begins 15 = .ok (.bipush 97, 2) := by decide +kernel
theorem dX7_begins_17 : decode cX7_begins 17 = .ok (.iadd, 1) := by decide +kernel
theorem dX7_begins_18 : decode cX7_begins 18 = .ok (.iconst 1, 1) := by decide +kernel
theorem dX7_begins_19 : decode cX7_begins 19 = .ok (.iastore, 1) := by decide +kernel
theorem dX7_begins_20 : decode cX7_begins 20 = .ok (.aload_n 0, 1) := by decide +kernel
theorem dX7_begins_21 : decode cX7_begins 21 = .ok (.getfield 7, 3) := by decide +kernel
theorem dX7_begins_24 : decode cX7_begins 24 = .ok (.iload_n 1, 1) := by decide +kernel
theorem dX7_begins_25 : decode cX7_begins 25 = .ok (.bipush 98, 2) := by decide +kernel
theorem dX7_begins_27 : decode cX7_begins 27 = .ok (.iadd, 1) := by decide +kernel
theorem dX7_begins_28 : decode cX7_begins 28 = .ok (.iconst 1, 1) := by decide +kernel
theorem dX7_begins_29 : decode cX7_begins 29 = .ok (.iastore, 1) := by decide +kernel
theorem dX7_begins_30 : decode cX7_begins 30 = .ok (.aload_n 0, 1) := by decide +kernel
theorem dX7_begins_31 : decode cX7_begins 31 = .ok (.getfield 7, 3) := by decide +kernel
theorem dX7_begins_34 : decode cX7_begins 34 = .ok (.iload_n 1, 1) := by decide +kernel
theorem dX7_begins_35 : decode cX7_begins 35 = .ok (.bipush 99, 2) := by decide +kernel
theorem dX7_begins_37 : decode cX7_begins 37 = .ok (.iadd, 1) := by decide +kernel
theorem dX7_begins_38 : decode cX7_begins 38 = .ok (.iconst 2, 1) := by decide +kernel
theorem dX7_begins_39 : decode cX7_begins 39 = .ok (.iastore, 1) := by decide +kernel
theorem dX7_begins_40 : decode cX7_begins 40 = .ok (.aload_n 0, 1) := by decide +kernel
theorem dX7_begins_41 : decode cX7_begins 41 = .ok (.getfield 7, 3) := by decide +kernel
theorem dX7_begins_44 : decode cX7_begins 44 = .ok (.iload_n 1, 1) := by decide +kernel
theorem dX7_begins_45 : decode cX7_begins 45 = .ok (.bipush 100, 2) := by decide +kernel
theorem dX7_begins_47 : decode cX7_begins 47 = .ok (.iadd, 1) := by decide +kernel
theorem dX7_begins_48 : decode cX7_begins 48 = .ok (.iconst 0, 1) := by decide +kernel
