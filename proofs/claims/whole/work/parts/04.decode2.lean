theorem dX4_takeFraction_11 : decode cX4_takeFraction 11 = .ok (.getfield 32, 3) := by decide +kernel
theorem dX4_takeFraction_14 : decode cX4_takeFraction 14 = .ok (.iconst 2, 1) := by decide +kernel
theorem dX4_takeFraction_15 : decode cX4_takeFraction 15 = .ok (.if_icmp .ne 14, 3) := by decide +kernel
theorem dX4_takeFraction_18 : decode cX4_takeFraction 18 = .ok (.iload_n 1, 1) := by decide +kernel
theorem dX4_takeFraction_19 : decode cX4_takeFraction 19 = .ok (.iconst 2, 1) := by decide +kernel
theorem dX4_takeFraction_20 : decode cX4_takeFraction 20 = .ok (.if_icmp .le 9, 3) := by decide +kernel
theorem dX4_takeFraction_23 : decode cX4_takeFraction 23 = .ok (.aload_n 0, 1) := by decide +kernel
theorem dX4_takeFraction_24 : decode cX4_takeFraction 24 = .ok (.iconst 3, 1) := by decide +kernel
theorem dX4_takeFraction_25 : decode cX4_takeFraction 25 = .ok (.invokevirtual 70, 3) := by decide +kernel
theorem dX4_takeFraction_28 : decode cX4_takeFraction 28 = .ok (.return_, 1) := by decide +kernel
theorem dX4_takeFraction_29 : decode cX4_takeFraction 29 = .ok (.aload_n 0, 1) := by decide +kernel
theorem dX4_takeFraction_30 : decode cX4_takeFraction 30 = .ok (.iconst 0, 1) := by decide +kernel
theorem dX4_takeFraction_31 : decode cX4_takeFraction 31 = .ok (.bipush 99, 2) := by decide +kernel
theorem dX4_takeFraction_33 : decode cX4_takeFraction 33 = .ok (.bipush 10, 2) := by decide +kernel
theorem dX4_takeFraction_35 : decode cX4_takeFraction 35 = .ok (.invokevirtual 76, 3) := by decide +kernel
theorem dX4_takeFraction_38 : decode cX4_takeFraction 38 = .ok (.istore_n 2, 1) := by decide +kernel
theorem dX4_takeFraction_39 : decode cX4_takeFraction 39 = .ok (.aload_n 0, 1) := by decide +kernel
theorem dX4_takeFraction_40 : decode cX4_takeFraction 40 = .ok (.dup, 1) := by decide +kernel
theorem dX4_takeFraction_41 : decode cX4_takeFraction 41 = .ok (.getfield 29, 3) := by decide +kernel
theorem dX4_takeFraction_44 : decode cX4_takeFraction 44 = .ok (.iload_n 1, 1) := by decide +kernel
theorem dX4_takeFraction_45 : decode cX4_takeFraction 45 = .ok (.iconst 1, 1) := by decide +kernel
theorem dX4_takeFraction_46 : decode cX4_takeFraction 46 = .ok (.if_icmp .ne 10, 3) := by decide +kernel
theorem dX4_takeFraction_49 : decode cX4_takeFraction 49 = .ok (.bipush 10, 2) := by decide +kernel
theorem dX4_takeFraction_51 : decode cX4_takeFraction 51 = .ok (.iload_n 2, 1) := by decide +kernel
theorem dX4_takeFraction_52 : decode cX4_takeFraction 52 = .ok (.imul, 1) := by decide +kernel
theorem dX4_takeFraction_53 : decode cX4_takeFraction 53 = .ok (.goto 4, 3) := by decide +kernel
theorem dX4_takeFraction_56 : decode cX4_takeFraction 56 = .ok (.iload_n 2, 1) := by decide +kernel
theorem dX4_takeFraction_57 : decode cX4_takeFraction 57 = .ok (.iadd, 1) := by decide +kernel
theorem dX4_takeFraction_58 : decode cX4_takeFraction 58 = .ok (.putfield 29, 3) := by decide +kernel
theorem dX4_takeFraction_61 : decode cX4_takeFraction 61 = .ok (.aload_n 0, 1) := by decide +kernel
theorem dX4_takeFraction_62 : decode cX4_takeFraction 62 = .ok (.getfield 12, 3) := by decide +kernel
theorem dX4_takeFraction_65 : decode cX4_takeFraction 65 = .ok (.aload_n 0, 1) := by decide +kernel
theorem dX4_takeFraction_66 : decode cX4_takeFraction 66 = .ok (.getfield 12, 3) := by decide +kernel
theorem dX4_takeFraction_69 : decode cX4_takeFraction 69 = .ok (.getfield 127, 3) := by decide +kernel
theorem dX4_takeFraction_72 : decode cX4_takeFraction 72 = .ok (.iconst 1, 1) := by decide +kernel
theorem dX4_takeFraction_73 : decode cX4_takeFraction 73 = .ok (.isub, 1) := by decide +kernel
theorem dX4_takeFraction_74 : decode cX4_takeFraction 74 = .ok (.aload_n 0, 1) := by decide +kernel
theorem dX4_takeFraction_75 : decode cX4_takeFraction 75 = .ok (.getfield 25, 3) := by decide +kernel
theorem dX4_takeFraction_78 : decode cX4_takeFraction 78 = .ok (.ifCond .eq 11, 3) := by decide +kernel
theorem dX4_takeFraction_81 : decode cX4_takeFraction 81 = .ok (.aload_n 0, 1) := by decide +kernel
theorem dX4_takeFraction_82 : decode cX4_takeFraction 82 = .ok (.getfield 29, 3) := by decide +kernel
theorem dX4_takeFraction_85 : decode cX4_takeFraction 85 = .ok (.ineg, 1) := by decide +kernel
theorem dX4_takeFraction_86 : decode cX4_takeFraction 86 = .ok (.goto 7, 3) := by decide +kernel
theorem dX4_takeFraction_89 : decode cX4_takeFraction 89 = .ok (.aload_n 0, 1) := by decide +kernel
theorem dX4_takeFraction_90 : decode cX4_takeFraction 90 = .ok (.getfield 29, 3) := by decide +kernel
theorem dX4_takeFraction_93 : decode cX4_takeFraction 93 = .ok (.invokevirtual 130, 3) := by decide +kernel
theorem dX4_takeFraction_96 : decode cX4_takeFraction 96 = .ok (.return_, 1) := by decide +kernel
theorem dX4_takeLineName_0 : decode cX4_takeLineName 0 = .ok (.aload_n 0, 1) := by decide +kernel
theorem dX4_takeLineName_1 : decode cX4_takeLineName 1 = .ok (.getfield 41, 3) := by decide +kernel
theorem dX4_takeLineName_4 : decode cX4_takeLineName 4 = .ok (.ifCond .lt 11, 3) := by decide +kernel
theorem dX4_takeLineName_7 : decode cX4_takeLineName 7 = .ok (.aload_n 0, 1) := by decide +kernel
theorem dX4_takeLineName_8 : decode cX4_takeLineName 8 = .ok (.getfield 41, 3) := by decide +kernel
theorem dX4_takeLineName_11 : decode cX4_takeLineName 11 = .ok (.iconst 5, 1) := by decide +kernel
theorem dX4_takeLineName_12 : decode cX4_takeLineName 12 = .ok (.if_icmp .le 11, 3) := by decide +kernel
theorem dX4_takeLineName_15 : decode cX4_takeLineName 15 = .ok (.aload_n 0, 1) := by decide +kernel
theorem dX4_takeLineName_16 : decode cX4_takeLineName 16 = .ok (.iconst 2, 1) := by decide +kernel
theorem dX4_takeLineName_17 : decode cX4_takeLineName 17 = .ok (.invokevirtual 70, 3) := by decide +kernel
theorem dX4_takeLineName_20 : decode cX4_takeLineName 20 = .ok (.goto 57, 3) := by decide +kernel
theorem dX4_takeLineName_23 : decode cX4_takeLineName 23 = .ok (.aload_n 0, 1) := by decide +kernel
theorem dX4_takeLineName_24 : decode cX4_takeLineName 24 = .ok (.getfield 41, 3) := by decide +kernel
theorem dX4_takeLineName_27 : decode cX4_takeLineName 27 = .ok (.iconst 5, 1) := by decide +kernel
theorem dX4_takeLineName_28 : decode cX4_takeLineName 28 = .ok (.if_icmp .eq 26, 3) := by decide +kernel
theorem dX4_takeLineName_31 : decode cX4_takeLineName 31 = .ok (.aload_n 0, 1) := by decide +kernel
theorem dX4_takeLineName_32 : decode cX4_takeLineName 32 = .ok (.getfield 22, 3) := by decide +kernel
theorem dX4_takeLineName_35 : decode cX4_takeLineName 35 = .ok (.aload_n 0, 1) := by decide +kernel
theorem dX4_takeLineName_36 : decode cX4_takeLineName 36 = .ok (.getfield 41, 3) := by decide +kernel
theorem dX4_takeLineName_39 : decode cX4_takeLineName 39 = .ok (.ishr, 1) := by decide +kernel
theorem dX4_takeLineName_40 : decode cX4_takeLineName 40 = .ok (.iconst 1, 1) := by decide +kernel
theorem dX4_takeLineName_41 : decode cX4_takeLineName 41 = .ok (.iand, 1) := by decide +kernel
theorem dX4_takeLineName_42 : decode cX4_takeLineName 42 = .ok (.iconst 1, 1) := by decide +kernel
theorem dX4_takeLineName_43 : decode cX4_takeLineName 43 = .ok (.if_icmp .ne 11, 3) := by decide +kernel
theorem dX4_takeLineName_46 : decode cX4_takeLineName 46 = .ok (.aload_n 0, 1) := by decide +kernel
theorem dX4_takeLineName_47 : decode cX4_takeLineName 47 = .ok (.iconst 4, 1) := by decide +kernel
theorem dX4_takeLineName_48 : decode cX4_takeLineName 48 = .ok (.invokevirtual 70, 3) := by decide +kernel
theorem dX4_takeLineName_51 : decode cX4_takeLineName 51 = .ok (.goto 26, 3) := by decide +kernel
theorem dX4_takeLineName_54 : decode cX4_takeLineName 54 = .ok (.aload_n 0, 1) := by decide +kernel
theorem dX4_takeLineName_55 : decode cX4_takeLineName 55 = .ok (.dup, 1) := by decide +kernel
theorem dX4_takeLineName_56 : decode cX4_takeLineName 56 = .ok (.getfield 22, 3) := by decide +kernel
theorem dX4_takeLineName_59 : decode cX4_takeLineName 59 = .ok (.iconst 1, 1) := by decide +kernel
theorem dX4_takeLineName_60 : decode cX4_takeLineName 60 = .ok (.aload_n 0, 1) := by decide +kernel
theorem dX4_takeLineName_61 : decode cX4_takeLineName 61 = .ok (.getfield 41, 3) := by decide +kernel
theorem dX4_takeLineName_64 : decode cX4_takeLineName 64 = .ok (.ishl, 1) := by decide +kernel
theorem dX4_takeLineName_65 : decode cX4_takeLineName 65 = .ok (.ior, 1) := by decide +kernel
theorem dX4_takeLineName_66 : decode cX4_takeLineName 66 = .ok (.putfield 22, 3) := by decide +kernel
theorem dX4_takeLineName_69 : decode cX4_takeLineName 69 = .ok (.aload_n 0, 1) := by decide +kernel
theorem dX4_takeLineName_70 : decode cX4_takeLineName 70 = .ok (.aload_n 0, 1) := by decide +kernel
theorem dX4_takeLineName_71 : decode cX4_takeLineName 71 = .ok (.getfield 41, 3) := by decide +kernel
theorem dX4_takeLineName_74 : decode cX4_takeLineName 74 = .ok (.putfield 18, 3) := by decide +kernel
theorem dX4_takeLineName_77 : decode cX4_takeLineName 77 = .ok (.return_, 1) := by decide +kernel
theorem dX4_takeNumber_0 : decode cX4_takeNumber 0 = .ok (.aload_n 0, 1) := by decide +kernel
theorem dX4_takeNumber_1 : decode cX4_takeNumber 1 = .ok (.getfield 32, 3) := by decide +kernel
theorem dX4_takeNumber_4 : decode cX4_takeNumber 4 = .ok (.iconst 2, 1) := by decide +kernel
theorem dX4_takeNumber_5 : decode cX4_takeNumber 5 = .ok (.if_icmp .eq 10, 3) := by decide +kernel
theorem dX4_takeNumber_8 : decode cX4_takeNumber 8 = .ok (.aload_n 0, 1) := by decide +kernel
theorem dX4_takeNumber_9 : decode cX4_takeNumber 9 = .ok (.iconst 2, 1) := by decide +kernel
theorem dX4_takeNumber_10 : decode cX4_takeNumber 10 = .ok (.invokevirtual 70, 3) := by decide +kernel
theorem dX4_takeNumber_13 : decode cX4_takeNumber 13 = .ok (.iload_n 1, 1) := by decide +kernel
theorem dX4_takeNumber_14 : decode cX4_takeNumber 14 = .ok (.ireturn, 1) := by decide +kernel
theorem dX4_takeNumber_15 : decode cX4_takeNumber 15 = .ok (.aload_n 0, 1) := by decide +kernel
theorem dX4_takeNumber_16 : decode cX4_takeNumber 16 = .ok (.getfield 44, 3) := by decide +kernel
theorem dX4_takeNumber_19 : decode cX4_takeNumber 19 = .ok (.iload_n 1, 1) := by decide +kernel
theorem dX4_takeNumber_20 : decode cX4_takeNumber 20 = .ok (.if_icmp .lt 11, 3) := by decide +kernel
theorem dX4_takeNumber_23 : decode cX4_takeNumber 23 = .ok (.aload_n 0, 1) := by decide +kernel
theorem dX4_takeNumber_24 : decode cX4_takeNumber 24 = .ok (.getfield 44, 3) := by decide +kernel
theorem dX4_takeNumber_27 : decode cX4_takeNumber 27 = .ok (.iload_n 2, 1) := by decide +kernel
theorem dX4_takeNumber_28 : decode cX4_takeNumber 28 = .ok (.if_icmp .le 10, 3) := by decide +kernel
theorem dX4_takeNumber_31 : decode cX4_takeNumber 31 = .ok (.aload_n 0, 1) := by decide +kernel
theorem dX4_takeNumber_32 : decode cX4_takeNumber 32 = .ok (.iconst 3, 1) := by decide +kernel
theorem dX4_takeNumber_33 : decode cX4_takeNumber 33 = .ok (.invokevirtual 70, 3) := by decide +kernel
theorem dX4_takeNumber_36 : decode cX4_takeNumber 36 = .ok (.iload_n 1, 1) := by decide +kernel
theorem dX4_takeNumber_37 : decode cX4_takeNumber 37 = .ok (.ireturn, 1) := by decide +kernel
theorem dX4_takeNumber_38 : decode cX4_takeNumber 38 = .ok (.aload_n 0, 1) := by decide +kernel
theorem dX4_takeNumber_39 : decode cX4_takeNumber 39 = .ok (.iload_n 3, 1) := by decide +kernel
theorem dX4_takeNumber_40 : decode cX4_takeNumber 40 = .ok (.putfield 18, 3) := by decide +kernel
theorem dX4_takeNumber_43 : decode cX4_takeNumber 43 = .ok (.aload_n 0, 1) := by decide +kernel
theorem dX4_takeNumber_44 : decode cX4_takeNumber 44 = .ok (.getfield 44, 3) := by decide +kernel
theorem dX4_takeNumber_47 : decode cX4_takeNumber 47 = .ok (.ireturn, 1) := by decide +kernel
theorem dX4_takeChoice_0 : decode cX4_takeChoice 0 = .ok (.aload_n 0, 1) := by decide +kernel
theorem dX4_takeChoice_1 : decode cX4_takeChoice 1 = .ok (.getfield 41, 3) := by decide +kernel
theorem dX4_takeChoice_4 : decode cX4_takeChoice 4 = .ok (.iload_n 1, 1) := by decide +kernel
theorem dX4_takeChoice_5 : decode cX4_takeChoice 5 = .ok (.if_icmp .lt 11, 3) := by decide +kernel
theorem dX4_takeChoice_8 : decode cX4_takeChoice 8 = .ok (.aload_n 0, 1) := by decide +kernel
theorem dX4_takeChoice_9 : decode cX4_takeChoice 9 = .ok (.getfield 41, 3) := by decide +kernel
theorem dX4_takeChoice_12 : decode cX4_takeChoice 12 = .ok (.iload_n 2, 1) := by decide +kernel
theorem dX4_takeChoice_13 : decode cX4_takeChoice 13 = .ok (.if_icmp .le 10, 3) := by decide +kernel
theorem dX4_takeChoice_16 : decode cX4_takeChoice 16 = .ok (.aload_n 0, 1) := by decide +kernel
theorem dX4_takeChoice_17 : decode cX4_takeChoice 17 = .ok (.iconst 2, 1) := by decide +kernel
theorem dX4_takeChoice_18 : decode cX4_takeChoice 18 = .ok (.invokevirtual 70, 3) := by decide +kernel
theorem dX4_takeChoice_21 : decode cX4_takeChoice 21 = .ok (.iconst 0, 1) := by decide +kernel
theorem dX4_takeChoice_22 : decode cX4_takeChoice 22 = .ok (.ireturn, 1) := by decide +kernel
theorem dX4_takeChoice_23 : decode cX4_takeChoice 23 = .ok (.aload_n 0, 1) := by decide +kernel
theorem dX4_takeChoice_24 : decode cX4_takeChoice 24 = .ok (.bipush 11, 2) := by decide +kernel
theorem dX4_takeChoice_26 : decode cX4_takeChoice 26 = .ok (.putfield 18, 3) := by decide +kernel
theorem dX4_takeChoice_29 : decode cX4_takeChoice 29 = .ok (.aload_n 0, 1) := by decide +kernel
theorem dX4_takeChoice_30 : decode cX4_takeChoice 30 = .ok (.getfield 41, 3) := by decide +kernel
theorem dX4_takeChoice_33 : decode cX4_takeChoice 33 = .ok (.iload_n 1, 1) := by decide +kernel
theorem dX4_takeChoice_34 : decode cX4_takeChoice 34 = .ok (.isub, 1) := by decide +kernel
theorem dX4_takeChoice_35 : decode cX4_takeChoice 35 = .ok (.ireturn, 1) := by decide +kernel
theorem dX4_takeLineEnd_0 : decode cX4_takeLineEnd 0 = .ok (.iload_n 1, 1) := by decide +kernel
theorem dX4_takeLineEnd_1 : decode cX4_takeLineEnd 1 = .ok (.bipush 59, 2) := by decide +kernel
theorem dX4_takeLineEnd_3 : decode cX4_takeLineEnd 3 = .ok (.if_icmp .ne 12, 3) := by decide +kernel
theorem dX4_takeLineEnd_6 : decode cX4_takeLineEnd 6 = .ok (.aload_n 0, 1) := by decide +kernel
theorem dX4_takeLineEnd_7 : decode cX4_takeLineEnd 7 = .ok (.bipush 12, 2) := by decide +kernel
theorem dX4_takeLineEnd_9 : decode cX4_takeLineEnd 9 = .ok (.putfield 18, 3) := by decide +kernel
theorem dX4_takeLineEnd_12 : decode cX4_takeLineEnd 12 = .ok (.goto 8, 3) := by decide +kernel
theorem dX4_takeLineEnd_15 : decode cX4_takeLineEnd 15 = .ok (.aload_n 0, 1) := by decide +kernel
theorem dX4_takeLineEnd_16 : decode cX4_takeLineEnd 16 = .ok (.iconst 2, 1) := by decide +kernel
theorem dX4_takeLineEnd_17 : decode cX4_takeLineEnd 17 = .ok (.invokevirtual 70, 3) := by decide +kernel
theorem dX4_takeLineEnd_20 : decode cX4_takeLineEnd 20 = .ok (.return_, 1) := by decide +kernel
theorem dX4_scan_0 : decode cX4_scan 0 = .ok (.aload_n 0, 1) := by decide +kernel
theorem dX4_scan_1 : decode cX4_scan 1 = .ok (.aload_n 0, 1) := by decide +kernel
theorem dX4_scan_2 : decode cX4_scan 2 = .ok (.getfield 38, 3) := by decide +kernel
theorem dX4_scan_5 : decode cX4_scan 5 = .ok (.putfield 35, 3) := by decide +kernel
theorem dX4_scan_8 : decode cX4_scan 8 = .ok (.aload_n 0, 1) := by decide +kernel
theorem dX4_scan_9 : decode cX4_scan 9 = .ok (.getfield 35, 3) := by decide +kernel
theorem dX4_scan_12 : decode cX4_scan 12 = .ok (.aload_n 1, 1) := by decide +kernel
theorem dX4_scan_13 : decode cX4_scan 13 = .ok (.getfield 134, 3) := by decide +kernel
theorem dX4_scan_16 : decode cX4_scan 16 = .ok (.if_icmp .ge 29, 3) := by decide +kernel
theorem dX4_scan_19 : decode cX4_scan 19 = .ok (.aload_n 1, 1) := by decide +kernel
theorem dX4_scan_20 : decode cX4_scan 20 = .ok (.aload_n 0, 1) := by decide +kernel
theorem dX4_scan_21 : decode cX4_scan 21 = .ok (.getfield 35, 3) := by decide +kernel
theorem dX4_scan_24 : decode cX4_scan 24 = .ok (.invokevirtual 60, 3) := by decide +kernel
theorem dX4_scan_27 : decode cX4_scan 27 = .ok (.bipush 32, 2) := by decide +kernel
theorem dX4_scan_29 : decode cX4_scan 29 = .ok (.if_icmp .ne 16, 3) := by decide +kernel
theorem dX4_scan_32 : decode cX4_scan 32 = .ok (.aload_n 0, 1) := by decide +kernel
theorem dX4_scan_33 : decode cX4_scan 33 = .ok (.dup, 1) := by decide +kernel
theorem dX4_scan_34 : decode cX4_scan 34 = .ok (.getfield 35, 3) := by decide +kernel
theorem dX4_scan_37 : decode cX4_scan 37 = .ok (.iconst 1, 1) := by decide +kernel
theorem dX4_scan_38 : decode cX4_scan 38 = .ok (.iadd, 1) := by decide +kernel
theorem dX4_scan_39 : decode cX4_scan 39 = .ok (.putfield 35, 3) := by decide +kernel
theorem dX4_scan_42 : decode cX4_scan 42 = .ok (.goto (-34), 3) := by decide +kernel
theorem dX4_scan_45 : decode cX4_scan 45 = .ok (.aload_n 0, 1) := by decide +kernel
theorem dX4_scan_46 : decode cX4_scan 46 = .ok (.aload_n 0, 1) := by decide +kernel
theorem dX4_scan_47 : decode cX4_scan 47 = .ok (.getfield 35, 3) := by decide +kernel
theorem dX4_scan_50 : decode cX4_scan 50 = .ok (.putfield 38, 3) := by decide +kernel
theorem dX4_scan_53 : decode cX4_scan 53 = .ok (.aload_n 0, 1) := by decide +kernel
theorem dX4_scan_54 : decode cX4_scan 54 = .ok (.bipush (-4), 2) := by decide +kernel
theorem dX4_scan_56 : decode cX4_scan 56 = .ok (.putfield 41, 3) := by decide +kernel
theorem dX4_scan_59 : decode cX4_scan 59 = .ok (.aload_n 1, 1) := by decide +kernel
theorem dX4_scan_60 : decode cX4_scan 60 = .ok (.aload_n 0, 1) := by decide +kernel
theorem dX4_scan_61 : decode cX4_scan 61 = .ok (.getfield 35, 3) := by decide +kernel
theorem dX4_scan_64 : decode cX4_scan 64 = .ok (.invokevirtual 60, 3) := by decide +kernel
theorem dX4_scan_67 : decode cX4_scan 67 = .ok (.istore_n 2, 1) := by decide +kernel
theorem dX4_scan_68 : decode cX4_scan 68 = .ok (.iload_n 2, 1) := by decide +kernel
theorem dX4_scan_69 : decode cX4_scan 69 = .ok (.ifCond .ge 11, 3) := by decide +kernel
theorem dX4_scan_72 : decode cX4_scan 72 = .ok (.aload_n 0, 1) := by decide +kernel
theorem dX4_scan_73 : decode cX4_scan 73 = .ok (.iconst 0, 1) := by decide +kernel
theorem dX4_scan_74 : decode cX4_scan 74 = .ok (.putfield 32, 3) := by decide +kernel
theorem dX4_scan_77 : decode cX4_scan 77 = .ok (.goto 74, 3) := by decide +kernel
theorem dX4_scan_80 : decode cX4_scan 80 = .ok (.iload_n 2, 1) := by decide +kernel
theorem dX4_scan_81 : decode cX4_scan 81 = .ok (.invokestatic 137, 3) := by decide +kernel
theorem dX4_scan_84 : decode cX4_scan 84 = .ok (.ifCond .eq 11, 3) := by decide +kernel
theorem dX4_scan_87 : decode cX4_scan 87 = .ok (.aload_n 0, 1) := by decide +kernel
theorem dX4_scan_88 : decode cX4_scan 88 = .ok (.aload_n 1, 1) := by decide +kernel
theorem dX4_scan_89 : decode cX4_scan 89 = .ok (.invokevirtual 141, 3) := by decide +kernel
theorem dX4_scan_92 : decode cX4_scan 92 = .ok (.goto 59, 3) := by decide +kernel
theorem dX4_scan_95 : decode cX4_scan 95 = .ok (.iload_n 2, 1) := by decide +kernel
theorem dX4_scan_96 : decode cX4_scan 96 = .ok (.invokestatic 144, 3) := by decide +kernel
theorem dX4_scan_99 : decode cX4_scan 99 = .ok (.ifCond .eq 11, 3) := by decide +kernel
theorem dX4_scan_102 : decode cX4_scan 102 = .ok (.aload_n 0, 1) := by decide +kernel
theorem dX4_scan_103 : decode cX4_scan 103 = .ok (.aload_n 1, 1) := by decide +kernel
theorem dX4_scan_104 : decode cX4_scan 104 = .ok (.invokevirtual 147, 3) := by decide +kernel
theorem dX4_scan_107 : decode cX4_scan 107 = .ok (.goto 44, 3) := by decide +kernel
theorem dX4_scan_110 : decode cX4_scan 110 = .ok (.iload_n 2, 1) := by decide +kernel
theorem dX4_scan_111 : decode cX4_scan 111 = .ok (.bipush 45, 2) := by decide +kernel
theorem dX4_scan_113 : decode cX4_scan 113 = .ok (.if_icmp .eq 15, 3) := by decide +kernel
theorem dX4_scan_116 : decode cX4_scan 116 = .ok (.iload_n 2, 1) := by decide +kernel
theorem dX4_scan_117 : decode cX4_scan 117 = .ok (.bipush 46, 2) := by decide +kernel
theorem dX4_scan_119 : decode cX4_scan 119 = .ok (.if_icmp .eq 9, 3) := by decide +kernel
theorem dX4_scan_122 : decode cX4_scan 122 = .ok (.iload_n 2, 1) := by decide +kernel
theorem dX4_scan_123 : decode cX4_scan 123 = .ok (.bipush 59, 2) := by decide +kernel
theorem dX4_scan_125 : decode cX4_scan 125 = .ok (.if_icmp .ne 21, 3) := by decide +kernel
theorem dX4_scan_128 : decode cX4_scan 128 = .ok (.aload_n 0, 1) := by decide +kernel
theorem dX4_scan_129 : decode cX4_scan 129 = .ok (.iconst 3, 1) := by decide +kernel
theorem dX4_scan_130 : decode cX4_scan 130 = .ok (.putfield 32, 3) := by decide +kernel
theorem dX4_scan_133 : decode cX4_scan 133 = .ok (.aload_n 0, 1) := by decide +kernel
theorem dX4_scan_134 : decode cX4_scan 134 = .ok (.aload_n 0, 1) := by decide +kernel
theorem dX4_scan_135 : decode cX4_scan 135 = .ok (.getfield 35, 3) := by decide +kernel
theorem dX4_scan_138 : decode cX4_scan 138 = .ok (.iconst 1, 1) := by decide +kernel
theorem dX4_scan_139 : decode cX4_scan 139 = .ok (.iadd, 1) := by decide +kernel
theorem dX4_scan_140 : decode cX4_scan 140 = .ok (.putfield 38, 3) := by decide +kernel
theorem dX4_scan_143 : decode cX4_scan 143 = .ok (.goto 8, 3) := by decide +kernel
theorem dX4_scan_146 : decode cX4_scan 146 = .ok (.aload_n 0, 1) := by decide +kernel
theorem dX4_scan_147 : decode cX4_scan 147 = .ok (.iconst 1, 1) := by decide +kernel
theorem dX4_scan_148 : decode cX4_scan 148 = .ok (.invokevirtual 70, 3) := by decide +kernel
theorem dX4_scan_151 : decode cX4_scan 151 = .ok (.return_, 1) := by decide +kernel
theorem dX4_scanName_0 : decode cX4_scanName 0 = .ok (.aload_n 0, 1) := by decide +kernel
theorem dX4_scanName_1 : decode cX4_scanName 1 = .ok (.iconst 1, 1) := by decide +kernel
theorem dX4_scanName_2 : decode cX4_scanName 2 = .ok (.putfield 32, 3) := by decide +kernel
theorem dX4_scanName_5 : decode cX4_scanName 5 = .ok (.aload_n 0, 1) := by decide +kernel
theorem dX4_scanName_6 : decode cX4_scanName 6 = .ok (.getfield 38, 3) := by decide +kernel
theorem dX4_scanName_9 : decode cX4_scanName 9 = .ok (.aload_n 1, 1) := by decide +kernel
theorem dX4_scanName_10 : decode cX4_scanName 10 = .ok (.getfield 134, 3) := by decide +kernel
theorem dX4_scanName_13 : decode cX4_scanName 13 = .ok (.if_icmp .ge 30, 3) := by decide +kernel
theorem dX4_scanName_16 : decode cX4_scanName 16 = .ok (.aload_n 1, 1) := by decide +kernel
theorem dX4_scanName_17 : decode cX4_scanName 17 = .ok (.aload_n 0, 1) := by decide +kernel
theorem dX4_scanName_18 : decode cX4_scanName 18 = .ok (.getfield 38, 3) := by decide +kernel
theorem dX4_scanName_21 : decode cX4_scanName 21 = .ok (.invokevirtual 60, 3) := by decide +kernel
theorem dX4_scanName_24 : decode cX4_scanName 24 = .ok (.invokestatic 137, 3) := by decide +kernel
theorem dX4_scanName_27 : decode cX4_scanName 27 = .ok (.ifCond .eq 16, 3) := by decide +kernel
theorem dX4_scanName_30 : decode cX4_scanName 30 = .ok (.aload_n 0, 1) := by decide +kernel
theorem dX4_scanName_31 : decode cX4_scanName 31 = .ok (.dup, 1) := by decide +kernel
theorem dX4_scanName_32 : decode cX4_scanName 32 = .ok (.getfield 38, 3) := by decide +kernel
theorem dX4_scanName_35 : decode cX4_scanName 35 = .ok (.iconst 1, 1) := by decide +kernel
theorem dX4_scanName_36 : decode cX4_scanName 36 = .ok (.iadd, 1) := by decide +kernel
theorem dX4_scanName_37 : decode cX4_scanName 37 = .ok (.putfield 38, 3) := by decide +kernel
theorem dX4_scanName_40 : decode cX4_scanName 40 = .ok (.goto (-35), 3) := by decide +kernel
theorem dX4_scanName_43 : decode cX4_scanName 43 = .ok (.aload_n 0, 1) := by decide +kernel
theorem dX4_scanName_44 : decode cX4_scanName 44 = .ok (.aload_n 0, 1) := by decide +kernel
theorem dX4_scanName_45 : decode cX4_scanName 45 = .ok (.aload_n 1, 1) := by decide +kernel
theorem dX4_scanName_46 : decode cX4_scanName 46 = .ok (.invokevirtual 150, 3) := by decide +kernel
theorem dX4_scanName_49 : decode cX4_scanName 49 = .ok (.putfield 41, 3) := by decide +kernel
theorem dX4_scanName_52 : decode cX4_scanName 52 = .ok (.return_, 1) := by decide +kernel
theorem dX4_numberOfName_0 : decode cX4_numberOfName 0 = .ok (.iconst 0, 1) := by decide +kernel
theorem dX4_numberOfName_1 : decode cX4_numberOfName 1 = .ok (.istore_n 2, 1) := by decide +kernel
theorem dX4_numberOfName_2 : decode cX4_numberOfName 2 = .ok (.aload_n 0, 1) := by decide +kernel
theorem dX4_numberOfName_3 : decode cX4_numberOfName 3 = .ok (.getfield 35, 3) := by decide +kernel
theorem dX4_numberOfName_6 : decode cX4_numberOfName 6 = .ok (.istore_n 3, 1) := by decide +kernel
theorem dX4_numberOfName_7 : decode cX4_numberOfName 7 = .ok (.iconst 1, 1) := by decide +kernel
theorem dX4_numberOfName_8 : decode cX4_numberOfName 8 = .ok (.istore 4, 2) := by decide +kernel
theorem dX4_numberOfName_10 : decode cX4_numberOfName 10 = .ok (.iconst 0, 1) := by decide +kernel
theorem dX4_numberOfName_11 : decode cX4_numberOfName 11 = .ok (.istore 5, 2) := by decide +kernel
theorem dX4_numberOfName_13 : decode cX4_numberOfName 13 = .ok (.iload 5, 2) := by decide +kernel
theorem dX4_numberOfName_15 : decode cX4_numberOfName 15 = .ok (.ldc 154, 2) := by decide +kernel
theorem dX4_numberOfName_17 : decode cX4_numberOfName 17 = .ok (.invokevirtual 156, 3) := by decide +kernel
theorem dX4_numberOfName_20 : decode cX4_numberOfName 20 = .ok (.if_icmp .ge 87, 3) := by decide +kernel
theorem dX4_numberOfName_23 : decode cX4_numberOfName 23 = .ok (.ldc 154, 2) := by decide +kernel
theorem dX4_numberOfName_25 : decode cX4_numberOfName 25 = .ok (.iload 5, 2) := by decide +kernel
theorem dX4_numberOfName_27 : decode cX4_numberOfName 27 = .ok (.invokevirtual 161, 3) := by decide +kernel
theorem dX4_numberOfName_30 : decode cX4_numberOfName 30 = .ok (.istore 6, 2) := by decide +kernel
theorem dX4_numberOfName_32 : decode cX4_numberOfName 32 = .ok (.iload 6, 2) := by decide +kernel
theorem dX4_numberOfName_34 : decode cX4_numberOfName 34 = .ok (.bipush 32, 2) := by decide +kernel
theorem dX4_numberOfName_36 : decode cX4_numberOfName 36 = .ok (.if_icmp .eq 39, 3) := by decide +kernel
theorem dX4_numberOfName_39 : decode cX4_numberOfName 39 = .ok (.iload 4, 2) := by decide +kernel
theorem dX4_numberOfName_41 : decode cX4_numberOfName 41 = .ok (.ifCond .eq 25, 3) := by decide +kernel
theorem dX4_numberOfName_44 : decode cX4_numberOfName 44 = .ok (.iload_n 3, 1) := by decide +kernel
theorem dX4_numberOfName_45 : decode cX4_numberOfName 45 = .ok (.aload_n 0, 1) := by decide +kernel
theorem dX4_numberOfName_46 : decode cX4_numberOfName 46 = .ok (.getfield 38, 3) := by decide +kernel
theorem dX4_numberOfName_49 : decode cX4_numberOfName 49 = .ok (.if_icmp .ge 17, 3) := by decide +kernel
theorem dX4_numberOfName_52 : decode cX4_numberOfName 52 = .ok (.aload_n 1, 1) := by decide +kernel
theorem dX4_numberOfName_53 : decode cX4_numberOfName 53 = .ok (.iload_n 3, 1) := by decide +kernel
theorem dX4_numberOfName_54 : decode cX4_numberOfName 54 = .ok (.invokevirtual 60, 3) := by decide +kernel
theorem dX4_numberOfName_57 : decode cX4_numberOfName 57 = .ok (.iload 6, 2) := by decide +kernel
theorem dX4_numberOfName_59 : decode cX4_numberOfName 59 = .ok (.if_icmp .ne 7, 3) := by decide +kernel
theorem dX4_numberOfName_62 : decode cX4_numberOfName 62 = .ok (.iconst 1, 1) := by decide +kernel
theorem dX4_numberOfName_63 : decode cX4_numberOfName 63 = .ok (.goto 4, 3) := by decide +kernel
theorem dX4_numberOfName_66 : decode cX4_numberOfName 66 = .ok (.iconst 0, 1) := by decide +kernel
theorem dX4_numberOfName_67 : decode cX4_numberOfName 67 = .ok (.istore 4, 2) := by decide +kernel
theorem dX4_numberOfName_69 : decode cX4_numberOfName 69 = .ok (.iinc 3 1, 3) := by decide +kernel
theorem dX4_numberOfName_72 : decode cX4_numberOfName 72 = .ok (.goto 29, 3) := by decide +kernel
theorem dX4_numberOfName_75 : decode cX4_numberOfName 75 = .ok (.iload 4, 2) := by decide +kernel
theorem dX4_numberOfName_77 : decode cX4_numberOfName 77 = .ok (.ifCond .eq 13, 3) := by decide +kernel
theorem dX4_numberOfName_80 : decode cX4_numberOfName 80 = .ok (.iload_n 3, 1) := by decide +kernel
theorem dX4_numberOfName_81 : decode cX4_numberOfName 81 = .ok (.aload_n 0, 1) := by decide +kernel
theorem dX4_numberOfName_82 : decode cX4_numberOfName 82 = .ok (.getfield 38, 3) := by decide +kernel
theorem dX4_numberOfName_85 : decode cX4_numberOfName 85 = .ok (.if_icmp .ne 5, 3) := by decide +kernel
theorem dX4_numberOfName_88 : decode cX4_numberOfName 88 = .ok (.iload_n 2, 1) := by decide +kernel
theorem dX4_numberOfName_89 : decode cX4_numberOfName 89 = .ok (.ireturn, 1) := by decide +kernel
theorem dX4_numberOfName_90 : decode cX4_numberOfName 90 = .ok (.iinc 2 1, 3) := by decide +kernel
theorem dX4_numberOfName_93 : decode cX4_numberOfName 93 = .ok (.aload_n 0, 1) := by decide +kernel
theorem dX4_numberOfName_94 : decode cX4_numberOfName 94 = .ok (.getfield 35, 3) := by decide +kernel
theorem dX4_numberOfName_97 : decode cX4_numberOfName 97 = .ok (.istore_n 3, 1) := by decide +kernel
theorem dX4_numberOfName_98 : decode cX4_numberOfName 98 = .ok (.iconst 1, 1) := by decide +kernel
theorem dX4_numberOfName_99 : decode cX4_numberOfName 99 = .ok (.istore 4, 2) := by decide +kernel
theorem dX4_numberOfName_101 : decode cX4_numberOfName 101 = .ok (.iinc 5 1, 3) := by decide +kernel
theorem dX4_numberOfName_104 : decode cX4_numberOfName 104 = .ok (.goto (-91), 3) := by decide +kernel
theorem dX4_numberOfName_107 : decode cX4_numberOfName 107 = .ok (.bipush (-4), 2) := by decide +kernel
theorem dX4_numberOfName_109 : decode cX4_numberOfName 109 = .ok (.ireturn, 1) := by decide +kernel
theorem dX4_scanNumber_0 : decode cX4_scanNumber 0 = .ok (.aload_n 0, 1) := by decide +kernel
theorem dX4_scanNumber_1 : decode cX4_scanNumber 1 = .ok (.iconst 2, 1) := by decide +kernel
theorem dX4_scanNumber_2 : decode cX4_scanNumber 2 = .ok (.putfield 32, 3) := by decide +kernel
theorem dX4_scanNumber_5 : decode cX4_scanNumber 5 = .ok (.aload_n 0, 1) := by decide +kernel
theorem dX4_scanNumber_6 : decode cX4_scanNumber 6 = .ok (.iconst 0, 1) := by decide +kernel
theorem dX4_scanNumber_7 : decode cX4_scanNumber 7 = .ok (.putfield 44, 3) := by decide +kernel
theorem dX4_scanNumber_10 : decode cX4_scanNumber 10 = .ok (.aload_n 0, 1) := by decide +kernel
theorem dX4_scanNumber_11 : decode cX4_scanNumber 11 = .ok (.getfield 38, 3) := by decide +kernel
theorem dX4_scanNumber_14 : decode cX4_scanNumber 14 = .ok (.aload_n 1, 1) := by decide +kernel
theorem dX4_scanNumber_15 : decode cX4_scanNumber 15 = .ok (.getfield 134, 3) := by decide +kernel
theorem dX4_scanNumber_18 : decode cX4_scanNumber 18 = .ok (.if_icmp .ge 66, 3) := by decide +kernel
theorem dX4_scanNumber_21 : decode cX4_scanNumber 21 = .ok (.aload_n 1, 1) := by decide +kernel
theorem dX4_scanNumber_22 : decode cX4_scanNumber 22 = .ok (.aload_n 0, 1) := by decide +kernel
theorem dX4_scanNumber_23 : decode cX4_scanNumber 23 = .ok (.getfield 38, 3) := by decide +kernel
theorem dX4_scanNumber_26 : decode cX4_scanNumber 26 = .ok (.invokevirtual 60, 3) := by decide +kernel
theorem dX4_scanNumber_29 : decode cX4_scanNumber 29 = .ok (.invokestatic 144, 3) := by decide +kernel
theorem dX4_scanNumber_32 : decode cX4_scanNumber 32 = .ok (.ifCond .eq 52, 3) := by decide +kernel
theorem dX4_scanNumber_35 : decode cX4_scanNumber 35 = .ok (.aload_n 0, 1) := by decide +kernel
theorem dX4_scanNumber_36 : decode cX4_scanNumber 36 = .ok (.getfield 38, 3) := by decide +kernel
theorem dX4_scanNumber_39 : decode cX4_scanNumber 39 = .ok (.aload_n 0, 1) := by decide +kernel
theorem dX4_scanNumber_40 : decode cX4_scanNumber 40 = .ok (.getfield 35, 3) := by decide +kernel
theorem dX4_scanNumber_43 : decode cX4_scanNumber 43 = .ok (.isub, 1) := by decide +kernel
theorem dX4_scanNumber_44 : decode cX4_scanNumber 44 = .ok (.iconst 4, 1) := by decide +kernel
theorem dX4_scanNumber_45 : decode cX4_scanNumber 45 = .ok (.if_icmp .ge 26, 3) := by decide +kernel
theorem dX4_scanNumber_48 : decode cX4_scanNumber 48 = .ok (.aload_n 0, 1) := by decide +kernel
theorem dX4_scanNumber_49 : decode cX4_scanNumber 49 = .ok (.bipush 10, 2) := by decide +kernel
theorem dX4_scanNumber_51 : decode cX4_scanNumber 51 = .ok (.aload_n 0, 1) := by decide +kernel
theorem dX4_scanNumber_52 : decode cX4_scanNumber 52 = .ok (.getfield 44, 3) := by decide +kernel
theorem dX4_scanNumber_55 : decode cX4_scanNumber 55 = .ok (.imul, 1) := by decide +kernel
theorem dX4_scanNumber_56 : decode cX4_scanNumber 56 = .ok (.aload_n 1, 1) := by decide +kernel
theorem dX4_scanNumber_57 : decode cX4_scanNumber 57 = .ok (.aload_n 0, 1) := by decide +kernel
theorem dX4_scanNumber_58 : decode cX4_scanNumber 58 = .ok (.getfield 38, 3) := by decide +kernel
theorem dX4_scanNumber_61 : decode cX4_scanNumber 61 = .ok (.invokevirtual 60, 3) := by decide +kernel
theorem dX4_scanNumber_64 : decode cX4_scanNumber 64 = .ok (.iadd, 1) := by decide +kernel
theorem dX4_scanNumber_65 : decode cX4_scanNumber 65 = .ok (.bipush 48, 2) := by decide +kernel
theorem dX4_scanNumber_67 : decode cX4_scanNumber 67 = .ok (.isub, 1) := by decide +kernel
theorem dX4_scanNumber_68 : decode cX4_scanNumber 68 = .ok (.putfield 44, 3) := by decide +kernel
theorem dX4_scanNumber_71 : decode cX4_scanNumber 71 = .ok (.aload_n 0, 1) := by decide +kernel
theorem dX4_scanNumber_72 : decode cX4_scanNumber 72 = .ok (.dup, 1) := by decide +kernel
theorem dX4_scanNumber_73 : decode cX4_scanNumber 73 = .ok (.getfield 38, 3) := by decide +kernel
theorem dX4_scanNumber_76 : decode cX4_scanNumber 76 = .ok (.iconst 1, 1) := by decide +kernel
theorem dX4_scanNumber_77 : decode cX4_scanNumber 77 = .ok (.iadd, 1) := by decide +kernel
theorem dX4_scanNumber_78 : decode cX4_scanNumber 78 = .ok (.putfield 38, 3) := by decide +kernel
theorem dX4_scanNumber_81 : decode cX4_scanNumber 81 = .ok (.goto (-71), 3) := by decide +kernel
theorem dX4_scanNumber_84 : decode cX4_scanNumber 84 = .ok (.aload_n 0, 1) := by decide +kernel
theorem dX4_scanNumber_85 : decode cX4_scanNumber 85 = .ok (.getfield 38, 3) := by decide +kernel
theorem dX4_scanNumber_88 : decode cX4_scanNumber 88 = .ok (.aload_n 0, 1) := by decide +kernel
theorem dX4_scanNumber_89 : decode cX4_scanNumber 89 = .ok (.getfield 35, 3) := by decide +kernel
theorem dX4_scanNumber_92 : decode cX4_scanNumber 92 = .ok (.isub, 1) := by decide +kernel
theorem dX4_scanNumber_93 : decode cX4_scanNumber 93 = .ok (.iconst 4, 1) := by decide +kernel
theorem dX4_scanNumber_94 : decode cX4_scanNumber 94 = .ok (.if_icmp .le 8, 3) := by decide +kernel
theorem dX4_scanNumber_97 : decode cX4_scanNumber 97 = .ok (.aload_n 0, 1) := by decide +kernel
theorem dX4_scanNumber_98 : decode cX4_scanNumber 98 = .ok (.iconst 1, 1) := by decide +kernel
theorem dX4_scanNumber_99 : decode cX4_scanNumber 99 = .ok (.invokevirtual 70, 3) := by decide +kernel
theorem dX4_scanNumber_102 : decode cX4_scanNumber 102 = .ok (.return_, 1) := by decide +kernel
theorem dX4_isLetter_0 : decode cX4_isLetter 0 = .ok (.iload_n 0, 1) := by decide +kernel
theorem dX4_isLetter_1 : decode cX4_isLetter 1 = .ok (.bipush 97, 2) := by decide +kernel
theorem dX4_isLetter_3 : decode cX4_isLetter 3 = .ok (.if_icmp .lt 13, 3) := by decide +kernel
theorem dX4_isLetter_6 : decode cX4_isLetter 6 = .ok (.iload_n 0, 1) := by decide +kernel
theorem dX4_isLetter_7 : decode cX4_isLetter 7 = .ok (.bipush 122, 2) := by decide +kernel
theorem dX4_isLetter_9 : decode cX4_isLetter 9 = .ok (.if_icmp .gt 7, 3) := by decide +kernel
theorem dX4_isLetter_12 : decode cX4_isLetter 12 = .ok (.iconst 1, 1) := by decide +kernel
theorem dX4_isLetter_13 : decode cX4_isLetter 13 = .ok (.goto 4, 3) := by decide +kernel
theorem dX4_isLetter_16 : decode cX4_isLetter 16 = .ok (.iconst 0, 1) := by decide +kernel
theorem dX4_isLetter_17 : decode cX4_isLetter 17 = .ok (.ireturn, 1) := by decide +kernel
theorem dX4_isFigure_0 : decode cX4_isFigure 0 = .ok (.iload_n 0, 1) := by decide +kernel
theorem dX4_isFigure_1 : decode cX4_isFigure 1 = .ok (.bipush 48, 2) := by decide +kernel
theorem dX4_isFigure_3 : decode cX4_isFigure 3 = .ok (.if_icmp .lt 13, 3) := by decide +kernel
theorem dX4_isFigure_6 : decode cX4_isFigure 6 = .ok (.iload_n 0, 1) := by decide +kernel
theorem dX4_isFigure_7 : decode cX4_isFigure 7 = .ok (.bipush 57, 2) := by decide +kernel
theorem dX4_isFigure_9 : decode cX4_isFigure 9 = .ok (.if_icmp .gt 7, 3) := by decide +kernel
theorem dX4_isFigure_12 : decode cX4_isFigure 12 = .ok (.iconst 1, 1) := by decide +kernel
theorem dX4_isFigure_13 : decode cX4_isFigure 13 = .ok (.goto 4, 3) := by decide +kernel
theorem dX4_isFigure_16 : decode cX4_isFigure 16 = .ok (.iconst 0, 1) := by decide +kernel
theorem dX4_isFigure_17 : decode cX4_isFigure 17 = .ok (.ireturn, 1) := by decide +kernel
theorem dX5_init_0 : decode cX5_init 0 = .ok (.aload_n 0, 1) := by decide +kernel
theorem dX5_init_1 : decode cX5_init 1 = .ok (.invokespecial 3, 3) := by decide +kernel
theorem dX5_init_4 : decode cX5_init 4 = .ok (.aload_n 0, 1) := by decide +kernel
theorem dX5_init_5 : decode cX5_init 5 = .ok (.bipush 8, 2) := by decide +kernel
theorem dX5_init_7 : decode cX5_init 7 = .ok (.newarray .byte, 2) := by decide +kernel
theorem dX5_init_9 : decode cX5_init 9 = .ok (.putfield 11, 3) := by decide +kernel
theorem dX5_init_12 : decode cX5_init 12 = .ok (.aload_n 0, 1) := by decide +kernel
theorem dX5_init_13 : decode cX5_init 13 = .ok (.iconst 0, 1) := by decide +kernel
theorem dX5_init_14 : decode cX5_init 14 = .ok (.putfield 15, 3) := by decide +kernel
theorem dX5_init_17 : decode cX5_init 17 = .ok (.return_, 1) := by decide +kernel
theorem dX5_byteAt_0 : decode cX5_byteAt 0 = .ok (.iload_n 1, 1) := by decide +kernel
theorem dX5_byteAt_1 : decode cX5_byteAt 1 = .ok (.ifCond .lt 20, 3) := by decide +kernel
theorem dX5_byteAt_4 : decode cX5_byteAt 4 = .ok (.iload_n 1, 1) := by decide +kernel
theorem dX5_byteAt_5 : decode cX5_byteAt 5 = .ok (.aload_n 0, 1) := by decide +kernel
theorem dX5_byteAt_6 : decode cX5_byteAt 6 = .ok (.getfield 15, 3) := by decide +kernel
theorem dX5_byteAt_9 : decode cX5_byteAt 9 = .ok (.if_icmp .ge 12, 3) := by decide +kernel
theorem dX5_byteAt_12 : decode cX5_byteAt 12 = .ok (.aload_n 0, 1) := by decide +kernel
theorem dX5_byteAt_13 : decode cX5_byteAt 13 = .ok (.getfield 11, 3) := by decide +kernel
theorem dX5_byteAt_16 : decode cX5_byteAt 16 = .ok (.iload_n 1, 1) := by decide +kernel
theorem dX5_byteAt_17 : decode cX5_byteAt 17 = .ok (.baload, 1) := by decide +kernel
theorem dX5_byteAt_18 : decode cX5_byteAt 18 = .ok (.goto 5, 3) := by decide +kernel
theorem dX5_byteAt_21 : decode cX5_byteAt 21 = .ok (.bipush (-4), 2) := by decide +kernel
theorem dX5_byteAt_23 : decode cX5_byteAt 23 = .ok (.ireturn, 1) := by decide +kernel
theorem dX5_writeNone_0 : decode cX5_writeNone 0 = .ok (.aload_n 0, 1) := by decide +kernel
theorem dX5_writeNone_1 : decode cX5_writeNone 1 = .ok (.iconst 0, 1) := by decide +kernel
theorem dX5_writeNone_2 : decode cX5_writeNone 2 = .ok (.putfield 15, 3) := by decide +kernel
theorem dX5_writeNone_5 : decode cX5_writeNone 5 = .ok (.aload_n 0, 1) := by decide +kernel
theorem dX5_writeNone_6 : decode cX5_writeNone 6 = .ok (.bipush 110, 2) := by decide +kernel
theorem dX5_writeNone_8 : decode cX5_writeNone 8 = .ok (.invokevirtual 19, 3) := by decide +kernel
theorem dX5_writeNone_11 : decode cX5_writeNone 11 = .ok (.aload_n 0, 1) := by decide +kernel
theorem dX5_writeNone_12 : decode cX5_writeNone 12 = .ok (.bipush 111, 2) := by decide +kernel
theorem dX5_writeNone_14 : decode cX5_writeNone 14 = .ok (.invokevirtual 19, 3) := by decide +kernel
theorem dX5_writeNone_17 : decode cX5_writeNone 17 = .ok (.aload_n 0, 1) := by decide +kernel
theorem dX5_writeNone_18 : decode cX5_writeNone 18 = .ok (.bipush 110, 2) := by decide +kernel
theorem dX5_writeNone_20 : decode cX5_writeNone 20 = .ok (.invokevirtual 19, 3) := by decide +kernel
theorem dX5_writeNone_23 : decode cX5_writeNone 23 = .ok (.aload_n 0, 1) := by decide +kernel
theorem dX5_writeNone_24 : decode cX5_writeNone 24 = .ok (.bipush 101, 2) := by decide +kernel
theorem dX5_writeNone_26 : decode cX5_writeNone 26 = .ok (.invokevirtual 19, 3) := by decide +kernel
theorem dX5_writeNone_29 : decode cX5_writeNone 29 = .ok (.return_, 1) := by decide +kernel
theorem dX5_writeNumber_0 : decode cX5_writeNumber 0 = .ok (.aload_n 0, 1) := by decide +kernel
theorem dX5_writeNumber_1 : decode cX5_writeNumber 1 = .ok (.iconst 0, 1) := by decide +kernel
theorem dX5_writeNumber_2 : decode cX5_writeNumber 2 = .ok (.putfield 15, 3) := by decide +kernel
theorem dX5_writeNumber_5 : decode cX5_writeNumber 5 = .ok (.iload_n 1, 1) := by decide +kernel
theorem dX5_writeNumber_6 : decode cX5_writeNumber 6 = .ok (.ifCond .ge 12, 3) := by decide +kernel
theorem dX5_writeNumber_9 : decode cX5_writeNumber 9 = .ok (.aload_n 0, 1) := by decide +kernel
theorem dX5_writeNumber_10 : decode cX5_writeNumber 10 = .ok (.bipush 45, 2) := by decide +kernel
theorem dX5_writeNumber_12 : decode cX5_writeNumber 12 = .ok (.invokevirtual 19, 3) := by decide +kernel
theorem dX5_writeNumber_15 : decode cX5_writeNumber 15 = .ok (.goto 18, 3) := by decide +kernel
theorem dX5_writeNumber_18 : decode cX5_writeNumber 18 = .ok (.iload_n 1, 1) := by decide +kernel
theorem dX5_writeNumber_19 : decode cX5_writeNumber 19 = .ok (.ifCond .le 14, 3) := by decide +kernel
theorem dX5_writeNumber_22 : decode cX5_writeNumber 22 = .ok (.iload_n 2, 1) := by decide +kernel
theorem dX5_writeNumber_23 : decode cX5_writeNumber 23 = .ok (.iconst 2, 1) := by decide +kernel
theorem dX5_writeNumber_24 : decode cX5_writeNumber 24 = .ok (.if_icmp .ne 9, 3) := by decide +kernel
theorem dX5_writeNumber_27 : decode cX5_writeNumber 27 = .ok (.aload_n 0, 1) := by decide +kernel
theorem dX5_writeNumber_28 : decode cX5_writeNumber 28 = .ok (.bipush 43, 2) := by decide +kernel
theorem dX5_writeNumber_30 : decode cX5_writeNumber 30 = .ok (.invokevirtual 19, 3) := by decide +kernel
theorem dX5_writeNumber_33 : decode cX5_writeNumber 33 = .ok (.iload_n 1, 1) := by decide +kernel
theorem dX5_writeNumber_34 : decode cX5_writeNumber 34 = .ok (.invokestatic 23, 3) := by decide +kernel
theorem dX5_writeNumber_37 : decode cX5_writeNumber 37 = .ok (.istore_n 3, 1) := by decide +kernel
theorem dX5_writeNumber_38 : decode cX5_writeNumber 38 = .ok (.aload_n 0, 1) := by decide +kernel
theorem dX5_writeNumber_39 : decode cX5_writeNumber 39 = .ok (.iload_n 3, 1) := by decide +kernel
theorem dX5_writeNumber_40 : decode cX5_writeNumber 40 = .ok (.bipush 100, 2) := by decide +kernel
theorem dX5_writeNumber_42 : decode cX5_writeNumber 42 = .ok (.idiv, 1) := by decide +kernel
theorem dX5_writeNumber_43 : decode cX5_writeNumber 43 = .ok (.invokevirtual 29, 3) := by decide +kernel
theorem dX5_writeNumber_46 : decode cX5_writeNumber 46 = .ok (.iload_n 3, 1) := by decide +kernel
theorem dX5_writeNumber_47 : decode cX5_writeNumber 47 = .ok (.bipush 10, 2) := by decide +kernel
theorem dX5_writeNumber_49 : decode cX5_writeNumber 49 = .ok (.idiv, 1) := by decide +kernel
theorem dX5_writeNumber_50 : decode cX5_writeNumber 50 = .ok (.bipush 10, 2) := by decide +kernel
theorem dX5_writeNumber_52 : decode cX5_writeNumber 52 = .ok (.irem, 1) := by decide +kernel
theorem dX5_writeNumber_53 : decode cX5_writeNumber 53 = .ok (.istore 4, 2) := by decide +kernel
theorem dX5_writeNumber_55 : decode cX5_writeNumber 55 = .ok (.iload_n 3, 1) := by decide +kernel
theorem dX5_writeNumber_56 : decode cX5_writeNumber 56 = .ok (.bipush 10, 2) := by decide +kernel
theorem dX5_writeNumber_58 : decode cX5_writeNumber 58 = .ok (.irem, 1) := by decide +kernel
theorem dX5_writeNumber_59 : decode cX5_writeNumber 59 = .ok (.istore 5, 2) := by decide +kernel
theorem dX5_writeNumber_61 : decode cX5_writeNumber 61 = .ok (.iload_n 2, 1) := by decide +kernel
theorem dX5_writeNumber_62 : decode cX5_writeNumber 62 = .ok (.iconst 1, 1) := by decide +kernel
theorem dX5_writeNumber_63 : decode cX5_writeNumber 63 = .ok (.if_icmp .eq 8, 3) := by decide +kernel
theorem dX5_writeNumber_66 : decode cX5_writeNumber 66 = .ok (.iload 5, 2) := by decide +kernel
theorem dX5_writeNumber_68 : decode cX5_writeNumber 68 = .ok (.ifCond .le 7, 3) := by decide +kernel
theorem dX5_writeNumber_71 : decode cX5_writeNumber 71 = .ok (.iconst 1, 1) := by decide +kernel
theorem dX5_writeNumber_72 : decode cX5_writeNumber 72 = .ok (.goto 4, 3) := by decide +kernel
theorem dX5_writeNumber_75 : decode cX5_writeNumber 75 = .ok (.iconst 0, 1) := by decide +kernel
theorem dX5_writeNumber_76 : decode cX5_writeNumber 76 = .ok (.istore 6, 2) := by decide +kernel
theorem dX5_writeNumber_78 : decode cX5_writeNumber 78 = .ok (.iload 6, 2) := by decide +kernel
theorem dX5_writeNumber_80 : decode cX5_writeNumber 80 = .ok (.ifCond .ne 8, 3) := by decide +kernel
theorem dX5_writeNumber_83 : decode cX5_writeNumber 83 = .ok (.iload 4, 2) := by decide +kernel
theorem dX5_writeNumber_85 : decode cX5_writeNumber 85 = .ok (.ifCond .le 18, 3) := by decide +kernel
theorem dX5_writeNumber_88 : decode cX5_writeNumber 88 = .ok (.aload_n 0, 1) := by decide +kernel
theorem dX5_writeNumber_89 : decode cX5_writeNumber 89 = .ok (.bipush 46, 2) := by decide +kernel
theorem dX5_writeNumber_91 : decode cX5_writeNumber 91 = .ok (.invokevirtual 19, 3) := by decide +kernel
theorem dX5_writeNumber_94 : decode cX5_writeNumber 94 = .ok (.aload_n 0, 1) := by decide +kernel
theorem dX5_writeNumber_95 : decode cX5_writeNumber 95 = .ok (.bipush 48, 2) := by decide +kernel
theorem dX5_writeNumber_97 : decode cX5_writeNumber 97 = .ok (.iload 4, 2) := by decide +kernel
theorem dX5_writeNumber_99 : decode cX5_writeNumber 99 = .ok (.iadd, 1) := by decide +kernel
theorem dX5_writeNumber_100 : decode cX5_writeNumber 100 = .ok (.invokevirtual 19, 3) := by decide +kernel
theorem dX5_writeNumber_103 : decode cX5_writeNumber 103 = .ok (.iload 6, 2) := by decide +kernel
theorem dX5_writeNumber_105 : decode cX5_writeNumber 105 = .ok (.ifCond .eq 12, 3) := by decide +kernel
theorem dX5_writeNumber_108 : decode cX5_writeNumber 108 = .ok (.aload_n 0, 1) := by decide +kernel
theorem dX5_writeNumber_109 : decode cX5_writeNumber 109 = .ok (.bipush 48, 2) := by decide +kernel
theorem dX5_writeNumber_111 : decode cX5_writeNumber 111 = .ok (.iload 5, 2) := by decide +kernel
theorem dX5_writeNumber_113 : decode cX5_writeNumber 113 = .ok (.iadd, 1) := by decide +kernel
theorem dX5_writeNumber_114 : decode cX5_writeNumber 114 = .ok (.invokevirtual 19, 3) := by decide +kernel
theorem dX5_writeNumber_117 : decode cX5_writeNumber 117 = .ok (.return_, 1) := by decide +kernel
theorem dX5_writeWhole_0 : decode cX5_writeWhole 0 = .ok (.sipush 1000, 3) := by decide +kernel
theorem dX5_writeWhole_3 : decode cX5_writeWhole 3 = .ok (.istore_n 2, 1) := by decide +kernel
theorem dX5_writeWhole_4 : decode cX5_writeWhole 4 = .ok (.iload_n 2, 1) := by decide +kernel
theorem dX5_writeWhole_5 : decode cX5_writeWhole 5 = .ok (.iconst 1, 1) := by decide +kernel
theorem dX5_writeWhole_6 : decode cX5_writeWhole 6 = .ok (.if_icmp .lt 34, 3) := by decide +kernel
theorem dX5_writeWhole_9 : decode cX5_writeWhole 9 = .ok (.iload_n 1, 1) := by decide +kernel
theorem dX5_writeWhole_10 : decode cX5_writeWhole 10 = .ok (.iload_n 2, 1) := by decide +kernel
theorem dX5_writeWhole_11 : decode cX5_writeWhole 11 = .ok (.if_icmp .ge 8, 3) := by decide +kernel
theorem dX5_writeWhole_14 : decode cX5_writeWhole 14 = .ok (.iload_n 2, 1) := by decide +kernel
theorem dX5_writeWhole_15 : decode cX5_writeWhole 15 = .ok (.iconst 1, 1) := by decide +kernel
theorem dX5_writeWhole_16 : decode cX5_writeWhole 16 = .ok (.if_icmp .ne 16, 3) := by decide +kernel
theorem dX5_writeWhole_19 : decode cX5_writeWhole 19 = .ok (.aload_n 0, 1) := by decide +kernel
theorem dX5_writeWhole_20 : decode cX5_writeWhole 20 = .ok (.bipush 48, 2) := by decide +kernel
theorem dX5_writeWhole_22 : decode cX5_writeWhole 22 = .ok (.iload_n 1, 1) := by decide +kernel
theorem dX5_writeWhole_23 : decode cX5_writeWhole 23 = .ok (.iload_n 2, 1) := by decide +kernel
theorem dX5_writeWhole_24 : decode cX5_writeWhole 24 = .ok (.idiv, 1) := by decide +kernel
theorem dX5_writeWhole_25 : decode cX5_writeWhole 25 = .ok (.bipush 10, 2) := by decide +kernel
theorem dX5_writeWhole_27 : decode cX5_writeWhole 27 = .ok (.irem, 1) := by decide +kernel
theorem dX5_writeWhole_28 : decode cX5_writeWhole 28 = .ok (.iadd, 1) := by decide +kernel
theorem dX5_writeWhole_29 : decode cX5_writeWhole 29 = .ok (.invokevirtual 19, 3) := by decide +kernel
theorem dX5_writeWhole_32 : decode cX5_writeWhole 32 = .ok (.iload_n 2, 1) := by decide +kernel
theorem dX5_writeWhole_33 : decode cX5_writeWhole 33 = .ok (.bipush 10, 2) := by decide +kernel
theorem dX5_writeWhole_35 : decode cX5_writeWhole 35 = .ok (.idiv, 1) := by decide +kernel
theorem dX5_writeWhole_36 : decode cX5_writeWhole 36 = .ok (.istore_n 2, 1) := by decide +kernel
theorem dX5_writeWhole_37 : decode cX5_writeWhole 37 = .ok (.goto (-33), 3) := by decide +kernel
theorem dX5_writeWhole_40 : decode cX5_writeWhole 40 = .ok (.return_, 1) := by decide +kernel
theorem dX5_push_0 : decode cX5_push 0 = .ok (.aload_n 0, 1) := by decide +kernel
theorem dX5_push_1 : decode cX5_push 1 = .ok (.getfield 15, 3) := by decide +kernel
theorem dX5_push_4 : decode cX5_push 4 = .ok (.aload_n 0, 1) := by decide +kernel
theorem dX5_push_5 : decode cX5_push 5 = .ok (.getfield 11, 3) := by decide +kernel
theorem dX5_push_8 : decode cX5_push 8 = .ok (.arraylength, 1) := by decide +kernel
theorem dX5_push_9 : decode cX5_push 9 = .ok (.if_icmp .ge 24, 3) := by decide +kernel
theorem dX5_push_12 : decode cX5_push 12 = .ok (.aload_n 0, 1) := by decide +kernel
theorem dX5_push_13 : decode cX5_push 13 = .ok (.getfield 11, 3) := by decide +kernel
theorem dX5_push_16 : decode cX5_push 16 = .ok (.aload_n 0, 1) := by decide +kernel
theorem dX5_push_17 : decode cX5_push 17 = .ok (.getfield 15, 3) := by decide +kernel
theorem dX5_push_20 : decode cX5_push 20 = .ok (.iload_n 1, 1) := by decide +kernel
theorem dX5_push_21 : decode cX5_push 21 = .ok (.i2b, 1) := by decide +kernel
theorem dX5_push_22 : decode cX5_push 22 = .ok (.bastore, 1) := by decide +kernel
theorem dX5_push_23 : decode cX5_push 23 = .ok (.aload_n 0, 1) := by decide +kernel
theorem dX5_push_24 : decode cX5_push 24 = .ok (.dup, 1) := by decide +kernel
theorem dX5_push_25 : decode cX5_push 25 = .ok (.getfield 15, 3) := by decide +kernel
theorem dX5_push_28 : decode cX5_push 28 = .ok (.iconst 1, 1) := by decide +kernel
theorem dX5_push_29 : decode cX5_push 29 = .ok (.iadd, 1) := by decide +kernel
theorem dX5_push_30 : decode cX5_push 30 = .ok (.putfield 15, 3) := by decide +kernel
theorem dX5_push_33 : decode cX5_push 33 = .ok (.return_, 1) := by decide +kernel
theorem dX6_init_0 : decode cX6_init 0 = .ok (.aload_n 0, 1) := by decide +kernel
theorem dX6_init_1 : decode cX6_init 1 = .ok (.invokespecial 1, 3) := by decide +kernel
theorem dX6_init_4 : decode cX6_init 4 = .ok (.aload_n 0, 1) := by decide +kernel
theorem dX6_init_5 : decode cX6_init 5 = .ok (.new 7, 3) := by decide +kernel
theorem dX6_init_8 : decode cX6_init 8 = .ok (.dup, 1) := by decide +kernel
theorem dX6_init_9 : decode cX6_init 9 = .ok (.invokespecial 9, 3) := by decide +kernel
theorem dX6_init_12 : decode cX6_init 12 = .ok (.putfield 10, 3) := by decide +kernel
theorem dX6_init_15 : decode cX6_init 15 = .ok (.aload_n 0, 1) := by decide +kernel
theorem dX6_init_16 : decode cX6_init 16 = .ok (.new 16, 3) := by decide +kernel
theorem dX6_init_19 : decode cX6_init 19 = .ok (.dup, 1) := by decide +kernel
theorem dX6_init_20 : decode cX6_init 20 = .ok (.invokespecial 18, 3) := by decide +kernel
theorem dX6_init_23 : decode cX6_init 23 = .ok (.putfield 19, 3) := by decide +kernel
theorem dX6_init_26 : decode cX6_init 26 = .ok (.aload_n 0, 1) := by decide +kernel
theorem dX6_init_27 : decode cX6_init 27 = .ok (.new 23, 3) := by decide +kernel
theorem dX6_init_30 : decode cX6_init 30 = .ok (.dup, 1) := by decide +kernel
theorem dX6_init_31 : decode cX6_init 31 = .ok (.invokespecial 25, 3) := by decide +kernel
theorem dX6_init_34 : decode cX6_init 34 = .ok (.putfield 26, 3) := by decide +kernel
theorem dX6_init_37 : decode cX6_init 37 = .ok (.aload_n 0, 1) := by decide +kernel
theorem dX6_init_38 : decode cX6_init 38 = .ok (.new 30, 3) := by decide +kernel
theorem dX6_init_41 : decode cX6_init 41 = .ok (.dup, 1) := by decide +kernel
theorem dX6_init_42 : decode cX6_init 42 = .ok (.aload_n 0, 1) := by decide +kernel
theorem dX6_init_43 : decode cX6_init 43 = .ok (.getfield 26, 3) := by decide +kernel
theorem dX6_init_46 : decode cX6_init 46 = .ok (.invokespecial 32, 3) := by decide +kernel
theorem dX6_init_49 : decode cX6_init 49 = .ok (.putfield 35, 3) := by decide +kernel
theorem dX6_init_52 : decode cX6_init 52 = .ok (.aload_n 0, 1) := by decide +kernel
theorem dX6_init_53 : decode cX6_init 53 = .ok (.new 39, 3) := by decide +kernel
theorem dX6_init_56 : decode cX6_init 56 = .ok (.dup, 1) := by decide +kernel
theorem dX6_init_57 : decode cX6_init 57 = .ok (.invokespecial 41, 3) := by decide +kernel
theorem dX6_init_60 : decode cX6_init 60 = .ok (.putfield 42, 3) := by decide +kernel
theorem dX6_init_63 : decode cX6_init 63 = .ok (.aload_n 0, 1) := by decide +kernel
theorem dX6_init_64 : decode cX6_init 64 = .ok (.iconst 2, 1) := by decide +kernel
theorem dX6_init_65 : decode cX6_init 65 = .ok (.anewarray 23, 3) := by decide +kernel
theorem dX6_init_68 : decode cX6_init 68 = .ok (.dup, 1) := by decide +kernel
theorem dX6_init_69 : decode cX6_init 69 = .ok (.iconst 0, 1) := by decide +kernel
theorem dX6_init_70 : decode cX6_init 70 = .ok (.new 23, 3) := by decide +kernel
theorem dX6_init_73 : decode cX6_init 73 = .ok (.dup, 1) := by decide +kernel
theorem dX6_init_74 : decode cX6_init 74 = .ok (.invokespecial 25, 3) := by decide +kernel
theorem dX6_init_77 : decode cX6_init 77 = .ok (.aastore, 1) := by decide +kernel
theorem dX6_init_78 : decode cX6_init 78 = .ok (.dup, 1) := by decide +kernel
theorem dX6_init_79 : decode cX6_init 79 = .ok (.iconst 1, 1) := by decide +kernel
theorem dX6_init_80 : decode cX6_init 80 = .ok (.new 23, 3) := by decide +kernel
theorem dX6_init_83 : decode cX6_init 83 = .ok (.dup, 1) := by decide +kernel
theorem dX6_init_84 : decode cX6_init 84 = .ok (.invokespecial 25, 3) := by decide +kernel
theorem dX6_init_87 : decode cX6_init 87 = .ok (.aastore, 1) := by decide +kernel
theorem dX6_init_88 : decode cX6_init 88 = .ok (.putfield 46, 3) := by decide +kernel
theorem dX6_init_91 : decode cX6_init 91 = .ok (.aload_n 0, 1) := by decide +kernel
theorem dX6_init_92 : decode cX6_init 92 = .ok (.iconst 2, 1) := by decide +kernel
theorem dX6_init_93 : decode cX6_init 93 = .ok (.newarray .boolean, 2) := by decide +kernel
theorem dX6_init_95 : decode cX6_init 95 = .ok (.dup, 1) := by decide +kernel
theorem dX6_init_96 : decode cX6_init 96 = .ok (.iconst 0, 1) := by decide +kernel
theorem dX6_init_97 : decode cX6_init 97 = .ok (.iconst 0, 1) := by decide +kernel
theorem dX6_init_98 : decode cX6_init 98 = .ok (.bastore, 1) := by decide +kernel
theorem dX6_init_99 : decode cX6_init 99 = .ok (.dup, 1) := by decide +kernel
theorem dX6_init_100 : decode cX6_init 100 = .ok (.iconst 1, 1) := by decide +kernel
theorem dX6_init_101 : decode cX6_init 101 = .ok (.iconst 0, 1) := by decide +kernel
theorem dX6_init_102 : decode cX6_init 102 = .ok (.bastore, 1) := by decide +kernel
theorem dX6_init_103 : decode cX6_init 103 = .ok (.putfield 50, 3) := by decide +kernel
theorem dX6_init_106 : decode cX6_init 106 = .ok (.aload_n 0, 1) := by decide +kernel
theorem dX6_init_107 : decode cX6_init 107 = .ok (.iconst 4, 1) := by decide +kernel
theorem dX6_init_108 : decode cX6_init 108 = .ok (.anewarray 54, 3) := by decide +kernel
theorem dX6_init_111 : decode cX6_init 111 = .ok (.dup, 1) := by decide +kernel
theorem dX6_init_112 : decode cX6_init 112 = .ok (.iconst 0, 1) := by decide +kernel
theorem dX6_init_113 : decode cX6_init 113 = .ok (.new 54, 3) := by decide +kernel
theorem dX6_init_116 : decode cX6_init 116 = .ok (.dup, 1) := by decide +kernel
theorem dX6_init_117 : decode cX6_init 117 = .ok (.invokespecial 56, 3) := by decide +kernel
theorem dX6_init_120 : decode cX6_init 120 = .ok (.aastore, 1) := by decide +kernel
theorem dX6_init_121 : decode cX6_init 121 = .ok (.dup, 1) := by decide +kernel
theorem dX6_init_122 : decode cX6_init 122 = .ok (.iconst 1, 1) := by decide +kernel
theorem dX6_init_123 : decode cX6_init 123 = .ok (.new 54, 3) := by decide +kernel
theorem dX6_init_126 : decode cX6_init 126 = .ok (.dup, 1) := by decide +kernel
theorem dX6_init_127 : decode cX6_init 127 = .ok (.invokespecial 56, 3) := by decide +kernel
theorem dX6_init_130 : decode cX6_init 130 = .ok (.aastore, 1) := by decide +kernel
theorem dX6_init_131 : decode cX6_init 131 = .ok (.dup, 1) := by decide +kernel
theorem dX6_init_132 : decode cX6_init 132 = .ok (.iconst 2, 1) := by decide +kernel
theorem dX6_init_133 : decode cX6_init 133 = .ok (.new 54, 3) := by decide +kernel
theorem dX6_init_136 : decode cX6_init 136 = .ok (.dup, 1) := by decide +kernel
theorem dX6_init_137 : decode cX6_init 137 = .ok (.invokespecial 56, 3) := by decide +kernel
theorem dX6_init_140 : decode cX6_init 140 = .ok (.aastore, 1) := by decide +kernel
theorem dX6_init_141 : decode cX6_init 141 = .ok (.dup, 1) := by decide +kernel
theorem dX6_init_142 : decode cX6_init 142 = .ok (.iconst 3, 1) := by decide +kernel
theorem dX6_init_143 : decode cX6_init 143 = .ok (.new 54, 3) := by decide +kernel
theorem dX6_init_146 : decode cX6_init 146 = .ok (.dup, 1) := by decide +kernel
theorem dX6_init_147 : decode cX6_init 147 = .ok (.invokespecial 56, 3) := by decide +kernel
theorem dX6_init_150 : decode cX6_init 150 = .ok (.aastore, 1) := by decide +kernel
theorem dX6_init_151 : decode cX6_init 151 = .ok (.putfield 57, 3) := by decide +kernel
theorem dX6_init_154 : decode cX6_init 154 = .ok (.aload_n 0, 1) := by decide +kernel
theorem dX6_init_155 : decode cX6_init 155 = .ok (.iconst 0, 1) := by decide +kernel
theorem dX6_init_156 : decode cX6_init 156 = .ok (.putfield 61, 3) := by decide +kernel
theorem dX6_init_159 : decode cX6_init 159 = .ok (.return_, 1) := by decide +kernel
theorem dX6_feed_0 : decode cX6_feed 0 = .ok (.iload_n 1, 1) := by decide +kernel
theorem dX6_feed_1 : decode cX6_feed 1 = .ok (.ifCond .lt 9, 3) := by decide +kernel
theorem dX6_feed_4 : decode cX6_feed 4 = .ok (.iload_n 1, 1) := by decide +kernel
theorem dX6_feed_5 : decode cX6_feed 5 = .ok (.bipush 127, 2) := by decide +kernel
theorem dX6_feed_7 : decode cX6_feed 7 = .ok (.if_icmp .le 5, 3) := by decide +kernel
theorem dX6_feed_10 : decode cX6_feed 10 = .ok (.iconst (-1), 1) := by decide +kernel
theorem dX6_feed_11 : decode cX6_feed 11 = .ok (.ireturn, 1) := by decide +kernel
theorem dX6_feed_12 : decode cX6_feed 12 = .ok (.aload_n 0, 1) := by decide +kernel
theorem dX6_feed_13 : decode cX6_feed 13 = .ok (.getfield 10, 3) := by decide +kernel
theorem dX6_feed_16 : decode cX6_feed 16 = .ok (.invokevirtual 65, 3) := by decide +kernel
theorem dX6_feed_19 : decode cX6_feed 19 = .ok (.ifCond .eq 6, 3) := by decide +kernel
theorem dX6_feed_22 : decode cX6_feed 22 = .ok (.bipush (-3), 2) := by decide +kernel
theorem dX6_feed_24 : decode cX6_feed 24 = .ok (.ireturn, 1) := by decide +kernel
theorem dX6_feed_25 : decode cX6_feed 25 = .ok (.aload_n 0, 1) := by decide +kernel
theorem dX6_feed_26 : decode cX6_feed 26 = .ok (.getfield 10, 3) := by decide +kernel
theorem dX6_feed_29 : decode cX6_feed 29 = .ok (.iload_n 1, 1) := by decide +kernel
theorem dX6_feed_30 : decode cX6_feed 30 = .ok (.invokevirtual 69, 3) := by decide +kernel
theorem dX6_feed_33 : decode cX6_feed 33 = .ok (.aload_n 0, 1) := by decide +kernel
theorem dX6_feed_34 : decode cX6_feed 34 = .ok (.getfield 10, 3) := by decide +kernel
theorem dX6_feed_37 : decode cX6_feed 37 = .ok (.getfield 73, 3) := by decide +kernel
theorem dX6_feed_40 : decode cX6_feed 40 = .ok (.ireturn, 1) := by decide +kernel
theorem dX6_end_0 : decode cX6_end 0 = .ok (.aload_n 0, 1) := by decide +kernel
theorem dX6_end_1 : decode cX6_end 1 = .ok (.getfield 10, 3) := by decide +kernel
theorem dX6_end_4 : decode cX6_end 4 = .ok (.getfield 73, 3) := by decide +kernel
theorem dX6_end_7 : decode cX6_end 7 = .ok (.istore_n 2, 1) := by decide +kernel
theorem dX6_end_8 : decode cX6_end 8 = .ok (.iload_n 1, 1) := by decide +kernel
theorem dX6_end_9 : decode cX6_end 9 = .ok (.ifCond .lt 8, 3) := by decide +kernel
theorem dX6_end_12 : decode cX6_end 12 = .ok (.iload_n 1, 1) := by decide +kernel
theorem dX6_end_13 : decode cX6_end 13 = .ok (.iload_n 2, 1) := by decide +kernel
theorem dX6_end_14 : decode cX6_end 14 = .ok (.if_icmp .le 5, 3) := by decide +kernel
theorem dX6_end_17 : decode cX6_end 17 = .ok (.iconst (-1), 1) := by decide +kernel
theorem dX6_end_18 : decode cX6_end 18 = .ok (.ireturn, 1) := by decide +kernel
theorem dX6_end_19 : decode cX6_end 19 = .ok (.aload_n 0, 1) := by decide +kernel
theorem dX6_end_20 : decode cX6_end 20 = .ok (.getfield 10, 3) := by decide +kernel
theorem dX6_end_23 : decode cX6_end 23 = .ok (.iload_n 1, 1) := by decide +kernel
theorem dX6_end_24 : decode cX6_end 24 = .ok (.putfield 73, 3) := by decide +kernel
theorem dX6_end_27 : decode cX6_end 27 = .ok (.iload_n 2, 1) := by decide +kernel
theorem dX6_end_28 : decode cX6_end 28 = .ok (.ireturn, 1) := by decide +kernel
theorem dX6_text_0 : decode cX6_text 0 = .ok (.aload_n 0, 1) := by decide +kernel
theorem dX6_text_1 : decode cX6_text 1 = .ok (.getfield 19, 3) := by decide +kernel
theorem dX6_text_4 : decode cX6_text 4 = .ok (.aload_n 0, 1) := by decide +kernel
theorem dX6_text_5 : decode cX6_text 5 = .ok (.getfield 10, 3) := by decide +kernel
theorem dX6_text_8 : decode cX6_text 8 = .ok (.invokevirtual 76, 3) := by decide +kernel
theorem dX6_text_11 : decode cX6_text 11 = .ok (.istore_n 1, 1) := by decide +kernel
theorem dX6_text_12 : decode cX6_text 12 = .ok (.aload_n 0, 1) := by decide +kernel
theorem dX6_text_13 : decode cX6_text 13 = .ok (.getfield 10, 3) := by decide +kernel
theorem dX6_text_16 : decode cX6_text 16 = .ok (.iconst 0, 1) := by decide +kernel
theorem dX6_text_17 : decode cX6_text 17 = .ok (.putfield 73, 3) := by decide +kernel
theorem dX6_text_20 : decode cX6_text 20 = .ok (.iload_n 1, 1) := by decide +kernel
theorem dX6_text_21 : decode cX6_text 21 = .ok (.ifCond .ne 14, 3) := by decide +kernel
theorem dX6_text_24 : decode cX6_text 24 = .ok (.bipush (-10), 2) := by decide +kernel
theorem dX6_text_26 : decode cX6_text 26 = .ok (.aload_n 0, 1) := by decide +kernel
theorem dX6_text_27 : decode cX6_text 27 = .ok (.getfield 19, 3) := by decide +kernel
theorem dX6_text_30 : decode cX6_text 30 = .ok (.getfield 80, 3) := by decide +kernel
theorem dX6_text_33 : decode cX6_text 33 = .ok (.isub, 1) := by decide +kernel
theorem dX6_text_34 : decode cX6_text 34 = .ok (.ireturn, 1) := by decide +kernel
theorem dX6_text_35 : decode cX6_text 35 = .ok (.aload_n 0, 1) := by decide +kernel
theorem dX6_text_36 : decode cX6_text 36 = .ok (.getfield 26, 3) := by decide +kernel
theorem dX6_text_39 : decode cX6_text 39 = .ok (.aload_n 0, 1) := by decide +kernel
theorem dX6_text_40 : decode cX6_text 40 = .ok (.getfield 19, 3) := by decide +kernel
theorem dX6_text_43 : decode cX6_text 43 = .ok (.getfield 83, 3) := by decide +kernel
theorem dX6_text_46 : decode cX6_text 46 = .ok (.invokevirtual 86, 3) := by decide +kernel
theorem dX6_text_49 : decode cX6_text 49 = .ok (.iconst 0, 1) := by decide +kernel
theorem dX6_text_50 : decode cX6_text 50 = .ok (.istore_n 2, 1) := by decide +kernel
theorem dX6_text_51 : decode cX6_text 51 = .ok (.iload_n 2, 1) := by decide +kernel
theorem dX6_text_52 : decode cX6_text 52 = .ok (.aload_n 0, 1) := by decide +kernel
theorem dX6_text_53 : decode cX6_text 53 = .ok (.getfield 50, 3) := by decide +kernel
theorem dX6_text_56 : decode cX6_text 56 = .ok (.arraylength, 1) := by decide +kernel
theorem dX6_text_57 : decode cX6_text 57 = .ok (.if_icmp .ge 16, 3) := by decide +kernel
theorem dX6_text_60 : decode cX6_text 60 = .ok (.aload_n 0, 1) := by decide +kernel
theorem dX6_text_61 : decode cX6_text 61 = .ok (.getfield 50, 3) := by decide +kernel
theorem dX6_text_64 : decode cX6_text 64 = .ok (.iload_n 2, 1) := by decide +kernel
theorem dX6_text_65 : decode cX6_text 65 = .ok (.iconst 0, 1) := by decide +kernel
theorem dX6_text_66 : decode cX6_text 66 = .ok (.bastore, 1) := by decide +kernel
theorem dX6_text_67 : decode cX6_text 67 = .ok (.iinc 2 1, 3) := by decide +kernel
theorem dX6_text_70 : decode cX6_text 70 = .ok (.goto (-19), 3) := by decide +kernel
theorem dX6_text_73 : decode cX6_text 73 = .ok (.aload_n 0, 1) := by decide +kernel
theorem dX6_text_74 : decode cX6_text 74 = .ok (.getfield 26, 3) := by decide +kernel
theorem dX6_text_77 : decode cX6_text 77 = .ok (.getfield 89, 3) := by decide +kernel
theorem dX6_text_80 : decode cX6_text 80 = .ok (.ireturn, 1) := by decide +kernel
theorem dX6_fault_0 : decode cX6_fault 0 = .ok (.aload_n 0, 1) := by decide +kernel
theorem dX6_fault_1 : decode cX6_fault 1 = .ok (.getfield 19, 3) := by decide +kernel
theorem dX6_fault_4 : decode cX6_fault 4 = .ok (.getfield 92, 3) := by decide +kernel
theorem dX6_fault_7 : decode cX6_fault 7 = .ok (.ireturn, 1) := by decide +kernel
theorem dX6_rule_0 : decode cX6_rule 0 = .ok (.iload_n 1, 1) := by decide +kernel
theorem dX6_rule_1 : decode cX6_rule 1 = .ok (.tableswitch 120 0 8 #[51, 59, 67, 75, 83, 91, 99, 107, 115], 51) := by decide +kernel
theorem dX6_rule_52 : decode cX6_rule 52 = .ok (.aload_n 0, 1) := by decide +kernel
theorem dX6_rule_53 : decode cX6_rule 53 = .ok (.getfield 26, 3) := by decide +kernel
theorem dX6_rule_56 : decode cX6_rule 56 = .ok (.getfield 89, 3) := by decide +kernel
theorem dX6_rule_59 : decode cX6_rule 59 = .ok (.ireturn, 1) := by decide +kernel
theorem dX6_rule_60 : decode cX6_rule 60 = .ok (.aload_n 0, 1) := by decide +kernel
theorem dX6_rule_61 : decode cX6_rule 61 = .ok (.getfield 26, 3) := by decide +kernel
theorem dX6_rule_64 : decode cX6_rule 64 = .ok (.invokevirtual 95, 3) := by decide +kernel
theorem dX6_rule_67 : decode cX6_rule 67 = .ok (.ireturn, 1) := by decide +kernel
theorem dX6_rule_68 : decode cX6_rule 68 = .ok (.aload_n 0, 1) := by decide +kernel
theorem dX6_rule_69 : decode cX6_rule 69 = .ok (.getfield 26, 3) := by decide +kernel
theorem dX6_rule_72 : decode cX6_rule 72 = .ok (.getfield 99, 3) := by decide +kernel
theorem dX6_rule_75 : decode cX6_rule 75 = .ok (.ireturn, 1) := by decide +kernel
theorem dX6_rule_76 : decode cX6_rule 76 = .ok (.aload_n 0, 1) := by decide +kernel
theorem dX6_rule_77 : decode cX6_rule 77 = .ok (.getfield 26, 3) := by decide +kernel
theorem dX6_rule_80 : decode cX6_rule 80 = .ok (.getfield 102, 3) := by decide +kernel
theorem dX6_rule_83 : decode cX6_rule 83 = .ok (.ireturn, 1) := by decide +kernel
theorem dX6_rule_84 : decode cX6_rule 84 = .ok (.aload_n 0, 1) := by decide +kernel
theorem dX6_rule_85 : decode cX6_rule 85 = .ok (.getfield 26, 3) := by decide +kernel
theorem dX6_rule_88 : decode cX6_rule 88 = .ok (.getfield 105, 3) := by decide +kernel
theorem dX6_rule_91 : decode cX6_rule 91 = .ok (.ireturn, 1) := by decide +kernel
theorem dX6_rule_92 : decode cX6_rule 92 = .ok (.aload_n 0, 1) := by decide +kernel
theorem dX6_rule_93 : decode cX6_rule 93 = .ok (.getfield 26, 3) := by decide +kernel
theorem dX6_rule_96 : decode cX6_rule 96 = .ok (.getfield 108, 3) := by decide +kernel
theorem dX6_rule_99 : decode cX6_rule 99 = .ok (.ireturn, 1) := by decide +kernel
theorem dX6_rule_100 : decode cX6_rule 100 = .ok (.aload_n 0, 1) := by decide +kernel
theorem dX6_rule_101 : decode cX6_rule 101 = .ok (.getfield 26, 3) := by decide +kernel
theorem dX6_rule_104 : decode cX6_rule 104 = .ok (.getfield 111, 3) := by decide +kernel
theorem dX6_rule_107 : decode cX6_rule 107 = .ok (.ireturn, 1) := by decide +kernel
theorem dX6_rule_108 : decode cX6_rule 108 = .ok (.aload_n 0, 1) := by decide +kernel
theorem dX6_rule_109 : decode cX6_rule 109 = .ok (.getfield 26, 3) := by decide +kernel
theorem dX6_rule_112 : decode cX6_rule 112 = .ok (.getfield 114, 3) := by decide +kernel
theorem dX6_rule_115 : decode cX6_rule 115 = .ok (.ireturn, 1) := by decide +kernel
theorem dX6_rule_116 : decode cX6_rule 116 = .ok (.aload_n 0, 1) := by decide +kernel
theorem dX6_rule_117 : decode cX6_rule 117 = .ok (.invokevirtual 117, 3) := by decide +kernel
theorem dX6_rule_120 : decode cX6_rule 120 = .ok (.ireturn, 1) := by decide +kernel
theorem dX6_rule_121 : decode cX6_rule 121 = .ok (.iconst (-1), 1) := by decide +kernel
theorem dX6_rule_122 : decode cX6_rule 122 = .ok (.ireturn, 1) := by decide +kernel
theorem dX6_reading_0 : decode cX6_reading 0 = .ok (.aload_n 0, 1) := by decide +kernel
theorem dX6_reading_1 : decode cX6_reading 1 = .ok (.getfield 26, 3) := by decide +kernel
theorem dX6_reading_4 : decode cX6_reading 4 = .ok (.iload_n 1, 1) := by decide +kernel
theorem dX6_reading_5 : decode cX6_reading 5 = .ok (.invokevirtual 120, 3) := by decide +kernel
theorem dX6_reading_8 : decode cX6_reading 8 = .ok (.ireturn, 1) := by decide +kernel
theorem dX6_row_0 : decode cX6_row 0 = .ok (.aload_n 0, 1) := by decide +kernel
theorem dX6_row_1 : decode cX6_row 1 = .ok (.getfield 26, 3) := by decide +kernel
theorem dX6_row_4 : decode cX6_row 4 = .ok (.iload_n 1, 1) := by decide +kernel
theorem dX6_row_5 : decode cX6_row 5 = .ok (.invokevirtual 124, 3) := by decide +kernel
theorem dX6_row_8 : decode cX6_row 8 = .ok (.ifCond .eq 12, 3) := by decide +kernel
theorem dX6_row_11 : decode cX6_row 11 = .ok (.iload_n 2, 1) := by decide +kernel
theorem dX6_row_12 : decode cX6_row 12 = .ok (.ifCond .lt 8, 3) := by decide +kernel
theorem dX6_row_15 : decode cX6_row 15 = .ok (.iload_n 2, 1) := by decide +kernel
theorem dX6_row_16 : decode cX6_row 16 = .ok (.iconst 2, 1) := by decide +kernel
theorem dX6_row_17 : decode cX6_row 17 = .ok (.if_icmp .le 5, 3) := by decide +kernel
theorem dX6_row_20 : decode cX6_row 20 = .ok (.iconst (-1), 1) := by decide +kernel
theorem dX6_row_21 : decode cX6_row 21 = .ok (.ireturn, 1) := by decide +kernel
theorem dX6_row_22 : decode cX6_row 22 = .ok (.aload_n 0, 1) := by decide +kernel
theorem dX6_row_23 : decode cX6_row 23 = .ok (.getfield 35, 3) := by decide +kernel
theorem dX6_row_26 : decode cX6_row 26 = .ok (.iload_n 1, 1) := by decide +kernel
theorem dX6_row_27 : decode cX6_row 27 = .ok (.invokevirtual 128, 3) := by decide +kernel
theorem dX6_row_30 : decode cX6_row 30 = .ok (.iload_n 2, 1) := by decide +kernel
theorem dX6_row_31 : decode cX6_row 31 = .ok (.ifCond .ne 11, 3) := by decide +kernel
theorem dX6_row_34 : decode cX6_row 34 = .ok (.aload_n 0, 1) := by decide +kernel
theorem dX6_row_35 : decode cX6_row 35 = .ok (.getfield 35, 3) := by decide +kernel
theorem dX6_row_38 : decode cX6_row 38 = .ok (.getfield 131, 3) := by decide +kernel
theorem dX6_row_41 : decode cX6_row 41 = .ok (.ireturn, 1) := by decide +kernel
theorem dX6_row_42 : decode cX6_row 42 = .ok (.aload_n 0, 1) := by decide +kernel
theorem dX6_row_43 : decode cX6_row 43 = .ok (.getfield 35, 3) := by decide +kernel
theorem dX6_row_46 : decode cX6_row 46 = .ok (.invokevirtual 134, 3) := by decide +kernel
theorem dX6_row_49 : decode cX6_row 49 = .ok (.ifCond .ne 6, 3) := by decide +kernel
theorem dX6_row_52 : decode cX6_row 52 = .ok (.bipush (-4), 2) := by decide +kernel
theorem dX6_row_54 : decode cX6_row 54 = .ok (.ireturn, 1) := by decide +kernel
theorem dX6_row_55 : decode cX6_row 55 = .ok (.iload_n 2, 1) := by decide +kernel
theorem dX6_row_56 : decode cX6_row 56 = .ok (.iconst 1, 1) := by decide +kernel
theorem dX6_row_57 : decode cX6_row 57 = .ok (.if_icmp .ne 13, 3) := by decide +kernel
theorem dX6_row_60 : decode cX6_row 60 = .ok (.aload_n 0, 1) := by decide +kernel
theorem dX6_row_61 : decode cX6_row 61 = .ok (.getfield 35, 3) := by decide +kernel
theorem dX6_row_64 : decode cX6_row 64 = .ok (.invokevirtual 137, 3) := by decide +kernel
theorem dX6_row_67 : decode cX6_row 67 = .ok (.goto 10, 3) := by decide +kernel
theorem dX6_row_70 : decode cX6_row 70 = .ok (.aload_n 0, 1) := by decide +kernel
theorem dX6_row_71 : decode cX6_row 71 = .ok (.getfield 35, 3) := by decide +kernel
theorem dX6_row_74 : decode cX6_row 74 = .ok (.invokevirtual 140, 3) := by decide +kernel
theorem dX6_row_77 : decode cX6_row 77 = .ok (.ireturn, 1) := by decide +kernel
theorem dX6_item_0 : decode cX6_item 0 = .ok (.aload_n 0, 1) := by decide +kernel
theorem dX6_item_1 : decode cX6_item 1 = .ok (.getfield 26, 3) := by decide +kernel
theorem dX6_item_4 : decode cX6_item 4 = .ok (.iload_n 1, 1) := by decide +kernel
theorem dX6_item_5 : decode cX6_item 5 = .ok (.invokevirtual 124, 3) := by decide +kernel
theorem dX6_item_8 : decode cX6_item 8 = .ok (.ifCond .ne 6, 3) := by decide +kernel
theorem dX6_item_11 : decode cX6_item 11 = .ok (.ldc 143, 2) := by decide +kernel
theorem dX6_item_13 : decode cX6_item 13 = .ok (.ireturn, 1) := by decide +kernel
theorem dX6_item_14 : decode cX6_item 14 = .ok (.aload_n 0, 1) := by decide +kernel
theorem dX6_item_15 : decode cX6_item 15 = .ok (.getfield 35, 3) := by decide +kernel
theorem dX6_item_18 : decode cX6_item 18 = .ok (.iload_n 1, 1) := by decide +kernel
theorem dX6_item_19 : decode cX6_item 19 = .ok (.invokevirtual 128, 3) := by decide +kernel
theorem dX6_item_22 : decode cX6_item 22 = .ok (.aload_n 0, 1) := by decide +kernel
theorem dX6_item_23 : decode cX6_item 23 = .ok (.getfield 35, 3) := by decide +kernel
theorem dX6_item_26 : decode cX6_item 26 = .ok (.iload_n 2, 1) := by decide +kernel
theorem dX6_item_27 : decode cX6_item 27 = .ok (.invokevirtual 144, 3) := by decide +kernel
theorem dX6_item_30 : decode cX6_item 30 = .ok (.ireturn, 1) := by decide +kernel
theorem dX6_result_0 : decode cX6_result 0 = .ok (.aload_n 0, 1) := by decide +kernel
theorem dX6_result_1 : decode cX6_result 1 = .ok (.getfield 26, 3) := by decide +kernel
theorem dX6_result_4 : decode cX6_result 4 = .ok (.iload_n 1, 1) := by decide +kernel
theorem dX6_result_5 : decode cX6_result 5 = .ok (.invokevirtual 124, 3) := by decide +kernel
theorem dX6_result_8 : decode cX6_result 8 = .ok (.ifCond .eq 12, 3) := by decide +kernel
theorem dX6_result_11 : decode cX6_result 11 = .ok (.iload_n 2, 1) := by decide +kernel
theorem dX6_result_12 : decode cX6_result 12 = .ok (.ifCond .lt 8, 3) := by decide +kernel
theorem dX6_result_15 : decode cX6_result 15 = .ok (.iload_n 2, 1) := by decide +kernel
theorem dX6_result_16 : decode cX6_result 16 = .ok (.iconst 2, 1) := by decide +kernel
theorem dX6_result_17 : decode cX6_result 17 = .ok (.if_icmp .le 6, 3) := by decide +kernel
theorem dX6_result_20 : decode cX6_result 20 = .ok (.ldc 143, 2) := by decide +kernel
theorem dX6_result_22 : decode cX6_result 22 = .ok (.ireturn, 1) := by decide +kernel
theorem dX6_result_23 : decode cX6_result 23 = .ok (.aload_n 0, 1) := by decide +kernel
theorem dX6_result_24 : decode cX6_result 24 = .ok (.getfield 35, 3) := by decide +kernel
theorem dX6_result_27 : decode cX6_result 27 = .ok (.iload_n 1, 1) := by decide +kernel
theorem dX6_result_28 : decode cX6_result 28 = .ok (.invokevirtual 128, 3) := by decide +kernel
theorem dX6_result_31 : decode cX6_result 31 = .ok (.aload_n 0, 1) := by decide +kernel
theorem dX6_result_32 : decode cX6_result 32 = .ok (.getfield 35, 3) := by decide +kernel
theorem dX6_result_35 : decode cX6_result 35 = .ok (.invokevirtual 134, 3) := by decide +kernel
theorem dX6_result_38 : decode cX6_result 38 = .ok (.ifCond .ne 6, 3) := by decide +kernel
theorem dX6_result_41 : decode cX6_result 41 = .ok (.ldc 143, 2) := by decide +kernel
theorem dX6_result_43 : decode cX6_result 43 = .ok (.ireturn, 1) := by decide +kernel
theorem dX6_result_44 : decode cX6_result 44 = .ok (.iload_n 2, 1) := by decide +kernel
theorem dX6_result_45 : decode cX6_result 45 = .ok (.ifCond .ne 11, 3) := by decide +kernel
theorem dX6_result_48 : decode cX6_result 48 = .ok (.aload_n 0, 1) := by decide +kernel
theorem dX6_result_49 : decode cX6_result 49 = .ok (.getfield 35, 3) := by decide +kernel
theorem dX6_result_52 : decode cX6_result 52 = .ok (.invokevirtual 147, 3) := by decide +kernel
theorem dX6_result_55 : decode cX6_result 55 = .ok (.ireturn, 1) := by decide +kernel
theorem dX6_result_56 : decode cX6_result 56 = .ok (.iload_n 2, 1) := by decide +kernel
theorem dX6_result_57 : decode cX6_result 57 = .ok (.iconst 1, 1) := by decide +kernel
theorem dX6_result_58 : decode cX6_result 58 = .ok (.if_icmp .ne 13, 3) := by decide +kernel
theorem dX6_result_61 : decode cX6_result 61 = .ok (.aload_n 0, 1) := by decide +kernel
theorem dX6_result_62 : decode cX6_result 62 = .ok (.getfield 35, 3) := by decide +kernel
theorem dX6_result_65 : decode cX6_result 65 = .ok (.invokevirtual 150, 3) := by decide +kernel
theorem dX6_result_68 : decode cX6_result 68 = .ok (.goto 10, 3) := by decide +kernel
theorem dX6_result_71 : decode cX6_result 71 = .ok (.aload_n 0, 1) := by decide +kernel
theorem dX6_result_72 : decode cX6_result 72 = .ok (.getfield 35, 3) := by decide +kernel
theorem dX6_result_75 : decode cX6_result 75 = .ok (.invokevirtual 153, 3) := by decide +kernel
theorem dX6_result_78 : decode cX6_result 78 = .ok (.ireturn, 1) := by decide +kernel
theorem dX6_rank_0 : decode cX6_rank 0 = .ok (.aload_n 0, 1) := by decide +kernel
theorem dX6_rank_1 : decode cX6_rank 1 = .ok (.getfield 26, 3) := by decide +kernel
theorem dX6_rank_4 : decode cX6_rank 4 = .ok (.iload_n 1, 1) := by decide +kernel
theorem dX6_rank_5 : decode cX6_rank 5 = .ok (.invokevirtual 124, 3) := by decide +kernel
theorem dX6_rank_8 : decode cX6_rank 8 = .ok (.ifCond .eq 12, 3) := by decide +kernel
theorem dX6_rank_11 : decode cX6_rank 11 = .ok (.iload_n 3, 1) := by decide +kernel
theorem dX6_rank_12 : decode cX6_rank 12 = .ok (.ifCond .lt 8, 3) := by decide +kernel
theorem dX6_rank_15 : decode cX6_rank 15 = .ok (.iload_n 3, 1) := by decide +kernel
theorem dX6_rank_16 : decode cX6_rank 16 = .ok (.iconst 1, 1) := by decide +kernel
theorem dX6_rank_17 : decode cX6_rank 17 = .ok (.if_icmp .le 5, 3) := by decide +kernel
theorem dX6_rank_20 : decode cX6_rank 20 = .ok (.iconst (-1), 1) := by decide +kernel
theorem dX6_rank_21 : decode cX6_rank 21 = .ok (.ireturn, 1) := by decide +kernel
theorem dX6_rank_22 : decode cX6_rank 22 = .ok (.aload_n 0, 1) := by decide +kernel
theorem dX6_rank_23 : decode cX6_rank 23 = .ok (.getfield 35, 3) := by decide +kernel
theorem dX6_rank_26 : decode cX6_rank 26 = .ok (.iload_n 1, 1) := by decide +kernel
theorem dX6_rank_27 : decode cX6_rank 27 = .ok (.invokevirtual 128, 3) := by decide +kernel
theorem dX6_rank_30 : decode cX6_rank 30 = .ok (.iload_n 3, 1) := by decide +kernel
theorem dX6_rank_31 : decode cX6_rank 31 = .ok (.ifCond .ne 14, 3) := by decide +kernel
theorem dX6_rank_34 : decode cX6_rank 34 = .ok (.aload_n 0, 1) := by decide +kernel
theorem dX6_rank_35 : decode cX6_rank 35 = .ok (.getfield 35, 3) := by decide +kernel
theorem dX6_rank_38 : decode cX6_rank 38 = .ok (.iload_n 2, 1) := by decide +kernel
theorem dX6_rank_39 : decode cX6_rank 39 = .ok (.invokevirtual 156, 3) := by decide +kernel
theorem dX6_rank_42 : decode cX6_rank 42 = .ok (.goto 11, 3) := by decide +kernel
theorem dX6_rank_45 : decode cX6_rank 45 = .ok (.aload_n 0, 1) := by decide +kernel
theorem dX6_rank_46 : decode cX6_rank 46 = .ok (.getfield 35, 3) := by decide +kernel
theorem dX6_rank_49 : decode cX6_rank 49 = .ok (.iload_n 2, 1) := by decide +kernel
theorem dX6_rank_50 : decode cX6_rank 50 = .ok (.invokevirtual 159, 3) := by decide +kernel
theorem dX6_rank_53 : decode cX6_rank 53 = .ok (.ireturn, 1) := by decide +kernel
theorem dX6_shown_0 : decode cX6_shown 0 = .ok (.aload_n 0, 1) := by decide +kernel
theorem dX6_shown_1 : decode cX6_shown 1 = .ok (.getfield 26, 3) := by decide +kernel
theorem dX6_shown_4 : decode cX6_shown 4 = .ok (.iload_n 1, 1) := by decide +kernel
theorem dX6_shown_5 : decode cX6_shown 5 = .ok (.invokevirtual 124, 3) := by decide +kernel
theorem dX6_shown_8 : decode cX6_shown 8 = .ok (.ifCond .eq 7, 3) := by decide +kernel
theorem dX6_shown_11 : decode cX6_shown 11 = .ok (.iload_n 2, 1) := by decide +kernel
theorem dX6_shown_12 : decode cX6_shown 12 = .ok (.ifCond .ge 5, 3) := by decide +kernel
theorem dX6_shown_15 : decode cX6_shown 15 = .ok (.iconst (-1), 1) := by decide +kernel
theorem dX6_shown_16 : decode cX6_shown 16 = .ok (.ireturn, 1) := by decide +kernel
theorem dX6_shown_17 : decode cX6_shown 17 = .ok (.aload_n 0, 1) := by decide +kernel
theorem dX6_shown_18 : decode cX6_shown 18 = .ok (.getfield 35, 3) := by decide +kernel
theorem dX6_shown_21 : decode cX6_shown 21 = .ok (.iload_n 1, 1) := by decide +kernel
theorem dX6_shown_22 : decode cX6_shown 22 = .ok (.invokevirtual 128, 3) := by decide +kernel
theorem dX6_shown_25 : decode cX6_shown 25 = .ok (.aload_n 0, 1) := by decide +kernel
theorem dX6_shown_26 : decode cX6_shown 26 = .ok (.invokevirtual 162, 3) := by decide +kernel
theorem dX6_shown_29 : decode cX6_shown 29 = .ok (.iload_n 2, 1) := by decide +kernel
theorem dX6_shown_30 : decode cX6_shown 30 = .ok (.aload_n 0, 1) := by decide +kernel
theorem dX6_shown_31 : decode cX6_shown 31 = .ok (.getfield 42, 3) := by decide +kernel
theorem dX6_shown_34 : decode cX6_shown 34 = .ok (.getfield 165, 3) := by decide +kernel
theorem dX6_shown_37 : decode cX6_shown 37 = .ok (.if_icmp .ge 14, 3) := by decide +kernel
theorem dX6_shown_40 : decode cX6_shown 40 = .ok (.aload_n 0, 1) := by decide +kernel
theorem dX6_shown_41 : decode cX6_shown 41 = .ok (.getfield 42, 3) := by decide +kernel
theorem dX6_shown_44 : decode cX6_shown 44 = .ok (.iload_n 2, 1) := by decide +kernel
theorem dX6_shown_45 : decode cX6_shown 45 = .ok (.invokevirtual 166, 3) := by decide +kernel
theorem dX6_shown_48 : decode cX6_shown 48 = .ok (.goto 5, 3) := by decide +kernel
theorem dX6_shown_51 : decode cX6_shown 51 = .ok (.bipush (-4), 2) := by decide +kernel
theorem dX6_shown_53 : decode cX6_shown 53 = .ok (.ireturn, 1) := by decide +kernel
theorem dX6_middle_0 : decode cX6_middle 0 = .ok (.aload_n 0, 1) := by decide +kernel
theorem dX6_middle_1 : decode cX6_middle 1 = .ok (.getfield 26, 3) := by decide +kernel
theorem dX6_middle_4 : decode cX6_middle 4 = .ok (.iload_n 1, 1) := by decide +kernel
theorem dX6_middle_5 : decode cX6_middle 5 = .ok (.invokevirtual 124, 3) := by decide +kernel
theorem dX6_middle_8 : decode cX6_middle 8 = .ok (.ifCond .eq 12, 3) := by decide +kernel
theorem dX6_middle_11 : decode cX6_middle 11 = .ok (.iload_n 2, 1) := by decide +kernel
theorem dX6_middle_12 : decode cX6_middle 12 = .ok (.ifCond .lt 8, 3) := by decide +kernel
theorem dX6_middle_15 : decode cX6_middle 15 = .ok (.iload_n 2, 1) := by decide +kernel
theorem dX6_middle_16 : decode cX6_middle 16 = .ok (.iconst 1, 1) := by decide +kernel
theorem dX6_middle_17 : decode cX6_middle 17 = .ok (.if_icmp .le 6, 3) := by decide +kernel
theorem dX6_middle_20 : decode cX6_middle 20 = .ok (.ldc 143, 2) := by decide +kernel
theorem dX6_middle_22 : decode cX6_middle 22 = .ok (.ireturn, 1) := by decide +kernel
theorem dX6_middle_23 : decode cX6_middle 23 = .ok (.aload_n 0, 1) := by decide +kernel
theorem dX6_middle_24 : decode cX6_middle 24 = .ok (.getfield 35, 3) := by decide +kernel
theorem dX6_middle_27 : decode cX6_middle 27 = .ok (.iload_n 1, 1) := by decide +kernel
theorem dX6_middle_28 : decode cX6_middle 28 = .ok (.invokevirtual 128, 3) := by decide +kernel
theorem dX6_middle_31 : decode cX6_middle 31 = .ok (.aload_n 0, 1) := by decide +kernel
theorem dX6_middle_32 : decode cX6_middle 32 = .ok (.getfield 35, 3) := by decide +kernel
theorem dX6_middle_35 : decode cX6_middle 35 = .ok (.getfield 131, 3) := by decide +kernel
theorem dX6_middle_38 : decode cX6_middle 38 = .ok (.ifCond .ne 6, 3) := by decide +kernel
theorem dX6_middle_41 : decode cX6_middle 41 = .ok (.ldc 143, 2) := by decide +kernel
theorem dX6_middle_43 : decode cX6_middle 43 = .ok (.ireturn, 1) := by decide +kernel
theorem dX6_middle_44 : decode cX6_middle 44 = .ok (.iload_n 2, 1) := by decide +kernel
theorem dX6_middle_45 : decode cX6_middle 45 = .ok (.ifCond .ne 13, 3) := by decide +kernel
theorem dX6_middle_48 : decode cX6_middle 48 = .ok (.aload_n 0, 1) := by decide +kernel
theorem dX6_middle_49 : decode cX6_middle 49 = .ok (.getfield 35, 3) := by decide +kernel
theorem dX6_middle_52 : decode cX6_middle 52 = .ok (.invokevirtual 169, 3) := by decide +kernel
theorem dX6_middle_55 : decode cX6_middle 55 = .ok (.goto 10, 3) := by decide +kernel
theorem dX6_middle_58 : decode cX6_middle 58 = .ok (.aload_n 0, 1) := by decide +kernel
theorem dX6_middle_59 : decode cX6_middle 59 = .ok (.getfield 35, 3) := by decide +kernel
theorem dX6_middle_62 : decode cX6_middle 62 = .ok (.invokevirtual 172, 3) := by decide +kernel
theorem dX6_middle_65 : decode cX6_middle 65 = .ok (.ireturn, 1) := by decide +kernel
theorem dX6_far_0 : decode cX6_far 0 = .ok (.aload_n 0, 1) := by decide +kernel
theorem dX6_far_1 : decode cX6_far 1 = .ok (.getfield 26, 3) := by decide +kernel
theorem dX6_far_4 : decode cX6_far 4 = .ok (.iload_n 1, 1) := by decide +kernel
theorem dX6_far_5 : decode cX6_far 5 = .ok (.invokevirtual 124, 3) := by decide +kernel
theorem dX6_far_8 : decode cX6_far 8 = .ok (.ifCond .eq 10, 3) := by decide +kernel
theorem dX6_far_11 : decode cX6_far 11 = .ok (.iload_n 2, 1) := by decide +kernel
theorem dX6_far_12 : decode cX6_far 12 = .ok (.invokestatic 175, 3) := by decide +kernel
theorem dX6_far_15 : decode cX6_far 15 = .ok (.ifCond .ne 5, 3) := by decide +kernel
theorem dX6_far_18 : decode cX6_far 18 = .ok (.iconst (-1), 1) := by decide +kernel
theorem dX6_far_19 : decode cX6_far 19 = .ok (.ireturn, 1) := by decide +kernel
theorem dX6_far_20 : decode cX6_far 20 = .ok (.aload_n 0, 1) := by decide +kernel
theorem dX6_far_21 : decode cX6_far 21 = .ok (.getfield 35, 3) := by decide +kernel
theorem dX6_far_24 : decode cX6_far 24 = .ok (.iload_n 1, 1) := by decide +kernel
theorem dX6_far_25 : decode cX6_far 25 = .ok (.invokevirtual 128, 3) := by decide +kernel
theorem dX6_far_28 : decode cX6_far 28 = .ok (.aload_n 0, 1) := by decide +kernel
theorem dX6_far_29 : decode cX6_far 29 = .ok (.getfield 35, 3) := by decide +kernel
theorem dX6_far_32 : decode cX6_far 32 = .ok (.aload_n 0, 1) := by decide +kernel
theorem dX6_far_33 : decode cX6_far 33 = .ok (.getfield 26, 3) := by decide +kernel
theorem dX6_far_36 : decode cX6_far 36 = .ok (.iload_n 1, 1) := by decide +kernel
theorem dX6_far_37 : decode cX6_far 37 = .ok (.invokevirtual 120, 3) := by decide +kernel
theorem dX6_far_40 : decode cX6_far 40 = .ok (.iload_n 2, 1) := by decide +kernel
theorem dX6_far_41 : decode cX6_far 41 = .ok (.invokevirtual 178, 3) := by decide +kernel
theorem dX6_far_44 : decode cX6_far 44 = .ok (.ifCond .eq 7, 3) := by decide +kernel
theorem dX6_far_47 : decode cX6_far 47 = .ok (.iconst 1, 1) := by decide +kernel
theorem dX6_far_48 : decode cX6_far 48 = .ok (.goto 4, 3) := by decide +kernel
theorem dX6_far_51 : decode cX6_far 51 = .ok (.iconst 0, 1) := by decide +kernel
theorem dX6_far_52 : decode cX6_far 52 = .ok (.ireturn, 1) := by decide +kernel
theorem dX6_fars_0 : decode cX6_fars 0 = .ok (.iload_n 1, 1) := by decide +kernel
theorem dX6_fars_1 : decode cX6_fars 1 = .ok (.invokestatic 175, 3) := by decide +kernel
theorem dX6_fars_4 : decode cX6_fars 4 = .ok (.ifCond .ne 5, 3) := by decide +kernel
theorem dX6_fars_7 : decode cX6_fars 7 = .ok (.iconst (-1), 1) := by decide +kernel
theorem dX6_fars_8 : decode cX6_fars 8 = .ok (.ireturn, 1) := by decide +kernel
theorem dX6_fars_9 : decode cX6_fars 9 = .ok (.iconst 0, 1) := by decide +kernel
theorem dX6_fars_10 : decode cX6_fars 10 = .ok (.istore_n 2, 1) := by decide +kernel
theorem dX6_fars_11 : decode cX6_fars 11 = .ok (.aload_n 0, 1) := by decide +kernel
theorem dX6_fars_12 : decode cX6_fars 12 = .ok (.getfield 35, 3) := by decide +kernel
theorem dX6_fars_15 : decode cX6_fars 15 = .ok (.invokevirtual 182, 3) := by decide +kernel
theorem dX6_fars_18 : decode cX6_fars 18 = .ok (.iconst 0, 1) := by decide +kernel
theorem dX6_fars_19 : decode cX6_fars 19 = .ok (.istore_n 3, 1) := by decide +kernel
theorem dX6_fars_20 : decode cX6_fars 20 = .ok (.iload_n 3, 1) := by decide +kernel
theorem dX6_fars_21 : decode cX6_fars 21 = .ok (.aload_n 0, 1) := by decide +kernel
theorem dX6_fars_22 : decode cX6_fars 22 = .ok (.getfield 26, 3) := by decide +kernel
theorem dX6_fars_25 : decode cX6_fars 25 = .ok (.getfield 89, 3) := by decide +kernel
theorem dX6_fars_28 : decode cX6_fars 28 = .ok (.if_icmp .ge 39, 3) := by decide +kernel
theorem dX6_fars_31 : decode cX6_fars 31 = .ok (.aload_n 0, 1) := by decide +kernel
theorem dX6_fars_32 : decode cX6_fars 32 = .ok (.getfield 35, 3) := by decide +kernel
theorem dX6_fars_35 : decode cX6_fars 35 = .ok (.iload_n 3, 1) := by decide +kernel
theorem dX6_fars_36 : decode cX6_fars 36 = .ok (.invokevirtual 185, 3) := by decide +kernel
theorem dX6_fars_39 : decode cX6_fars 39 = .ok (.aload_n 0, 1) := by decide +kernel
theorem dX6_fars_40 : decode cX6_fars 40 = .ok (.getfield 35, 3) := by decide +kernel
theorem dX6_fars_43 : decode cX6_fars 43 = .ok (.aload_n 0, 1) := by decide +kernel
theorem dX6_fars_44 : decode cX6_fars 44 = .ok (.getfield 26, 3) := by decide +kernel
theorem dX6_fars_47 : decode cX6_fars 47 = .ok (.iload_n 3, 1) := by decide +kernel
theorem dX6_fars_48 : decode cX6_fars 48 = .ok (.invokevirtual 120, 3) := by decide +kernel
theorem dX6_fars_51 : decode cX6_fars 51 = .ok (.iload_n 1, 1) := by decide +kernel
theorem dX6_fars_52 : decode cX6_fars 52 = .ok (.invokevirtual 178, 3) := by decide +kernel
theorem dX6_fars_55 : decode cX6_fars 55 = .ok (.ifCond .eq 6, 3) := by decide +kernel
theorem dX6_fars_58 : decode cX6_fars 58 = .ok (.iinc 2 1, 3) := by decide +kernel
theorem dX6_fars_61 : decode cX6_fars 61 = .ok (.iinc 3 1, 3) := by decide +kernel
theorem dX6_fars_64 : decode cX6_fars 64 = .ok (.goto (-44), 3) := by decide +kernel
theorem dX6_fars_67 : decode cX6_fars 67 = .ok (.iload_n 2, 1) := by decide +kernel
theorem dX6_fars_68 : decode cX6_fars 68 = .ok (.ireturn, 1) := by decide +kernel
theorem dX6_above_0 : decode cX6_above 0 = .ok (.iload_n 2, 1) := by decide +kernel
theorem dX6_above_1 : decode cX6_above 1 = .ok (.ifCond .lt 8, 3) := by decide +kernel
theorem dX6_above_4 : decode cX6_above 4 = .ok (.iload_n 2, 1) := by decide +kernel
theorem dX6_above_5 : decode cX6_above 5 = .ok (.iconst 3, 1) := by decide +kernel
theorem dX6_above_6 : decode cX6_above 6 = .ok (.if_icmp .le 5, 3) := by decide +kernel
theorem dX6_above_9 : decode cX6_above 9 = .ok (.iconst (-1), 1) := by decide +kernel
theorem dX6_above_10 : decode cX6_above 10 = .ok (.ireturn, 1) := by decide +kernel
theorem dX6_above_11 : decode cX6_above 11 = .ok (.iconst 0, 1) := by decide +kernel
theorem dX6_above_12 : decode cX6_above 12 = .ok (.istore_n 3, 1) := by decide +kernel
theorem dX6_above_13 : decode cX6_above 13 = .ok (.bipush (-4), 2) := by decide +kernel
theorem dX6_above_15 : decode cX6_above 15 = .ok (.istore 4, 2) := by decide +kernel
theorem dX6_above_17 : decode cX6_above 17 = .ok (.bipush (-4), 2) := by decide +kernel
theorem dX6_above_19 : decode cX6_above 19 = .ok (.istore 5, 2) := by decide +kernel
theorem dX6_above_21 : decode cX6_above 21 = .ok (.iconst 0, 1) := by decide +kernel
theorem dX6_above_22 : decode cX6_above 22 = .ok (.istore 6, 2) := by decide +kernel
theorem dX6_above_24 : decode cX6_above 24 = .ok (.iconst 0, 1) := by decide +kernel
theorem dX6_above_25 : decode cX6_above 25 = .ok (.istore 7, 2) := by decide +kernel
theorem dX6_above_27 : decode cX6_above 27 = .ok (.aload_n 0, 1) := by decide +kernel
theorem dX6_above_28 : decode cX6_above 28 = .ok (.getfield 35, 3) := by decide +kernel
theorem dX6_above_31 : decode cX6_above 31 = .ok (.invokevirtual 182, 3) := by decide +kernel
theorem dX6_above_34 : decode cX6_above 34 = .ok (.iconst 0, 1) := by decide +kernel
theorem dX6_above_35 : decode cX6_above 35 = .ok (.istore 8, 2) := by decide +kernel
theorem dX6_above_37 : decode cX6_above 37 = .ok (.iload 8, 2) := by decide +kernel
theorem dX6_above_39 : decode cX6_above 39 = .ok (.aload_n 0, 1) := by decide +kernel
theorem dX6_above_40 : decode cX6_above 40 = .ok (.getfield 26, 3) := by decide +kernel
theorem dX6_above_43 : decode cX6_above 43 = .ok (.getfield 89, 3) := by decide +kernel
theorem dX6_above_46 : decode cX6_above 46 = .ok (.if_icmp .ge 67, 3) := by decide +kernel
theorem dX6_above_49 : decode cX6_above 49 = .ok (.aload_n 0, 1) := by decide +kernel
theorem dX6_above_50 : decode cX6_above 50 = .ok (.getfield 35, 3) := by decide +kernel
theorem dX6_above_53 : decode cX6_above 53 = .ok (.iload 8, 2) := by decide +kernel
theorem dX6_above_55 : decode cX6_above 55 = .ok (.invokevirtual 185, 3) := by decide +kernel
theorem dX6_above_58 : decode cX6_above 58 = .ok (.aload_n 0, 1) := by decide +kernel
theorem dX6_above_59 : decode cX6_above 59 = .ok (.getfield 35, 3) := by decide +kernel
theorem dX6_above_62 : decode cX6_above 62 = .ok (.iload_n 1, 1) := by decide +kernel
theorem dX6_above_63 : decode cX6_above 63 = .ok (.invokevirtual 188, 3) := by decide +kernel
theorem dX6_above_66 : decode cX6_above 66 = .ok (.ifCond .eq 38, 3) := by decide +kernel
theorem dX6_above_69 : decode cX6_above 69 = .ok (.iload_n 3, 1) := by decide +kernel
theorem dX6_above_70 : decode cX6_above 70 = .ok (.ifCond .ne 8, 3) := by decide +kernel
theorem dX6_above_73 : decode cX6_above 73 = .ok (.iload 8, 2) := by decide +kernel
theorem dX6_above_75 : decode cX6_above 75 = .ok (.goto 5, 3) := by decide +kernel
theorem dX6_above_78 : decode cX6_above 78 = .ok (.iload 4, 2) := by decide +kernel
theorem dX6_above_80 : decode cX6_above 80 = .ok (.istore 4, 2) := by decide +kernel
theorem dX6_above_82 : decode cX6_above 82 = .ok (.iload 8, 2) := by decide +kernel
theorem dX6_above_84 : decode cX6_above 84 = .ok (.istore 5, 2) := by decide +kernel
theorem dX6_above_86 : decode cX6_above 86 = .ok (.iinc 3 1, 3) := by decide +kernel
theorem dX6_above_89 : decode cX6_above 89 = .ok (.iinc 6 1, 3) := by decide +kernel
theorem dX6_above_92 : decode cX6_above 92 = .ok (.iload 7, 2) := by decide +kernel
theorem dX6_above_94 : decode cX6_above 94 = .ok (.iload 6, 2) := by decide +kernel
theorem dX6_above_96 : decode cX6_above 96 = .ok (.invokestatic 191, 3) := by decide +kernel
theorem dX6_above_99 : decode cX6_above 99 = .ok (.istore 7, 2) := by decide +kernel
theorem dX6_above_101 : decode cX6_above 101 = .ok (.goto 6, 3) := by decide +kernel
theorem dX6_above_104 : decode cX6_above 104 = .ok (.iconst 0, 1) := by decide +kernel
theorem dX6_above_105 : decode cX6_above 105 = .ok (.istore 6, 2) := by decide +kernel
theorem dX6_above_107 : decode cX6_above 107 = .ok (.iinc 8 1, 3) := by decide +kernel
theorem dX6_above_110 : decode cX6_above 110 = .ok (.goto (-73), 3) := by decide +kernel
theorem dX6_above_113 : decode cX6_above 113 = .ok (.iload_n 2, 1) := by decide +kernel
theorem dX6_above_114 : decode cX6_above 114 = .ok (.tableswitch 34 0 2 #[26, 28, 31], 26) := by decide +kernel
theorem dX6_above_140 : decode cX6_above 140 = .ok (.iload_n 3, 1) := by decide +kernel
theorem dX6_above_141 : decode cX6_above 141 = .ok (.ireturn, 1) := by decide +kernel
theorem dX6_above_142 : decode cX6_above 142 = .ok (.iload 4, 2) := by decide +kernel
theorem dX6_above_144 : decode cX6_above 144 = .ok (.ireturn, 1) := by decide +kernel
theorem dX6_above_145 : decode cX6_above 145 = .ok (.iload 5, 2) := by decide +kernel
theorem dX6_above_147 : decode cX6_above 147 = .ok (.ireturn, 1) := by decide +kernel
theorem dX6_above_148 : decode cX6_above 148 = .ok (.iload 7, 2) := by decide +kernel
theorem dX6_above_150 : decode cX6_above 150 = .ok (.ireturn, 1) := by decide +kernel
theorem dX6_most_0 : decode cX6_most 0 = .ok (.iload_n 1, 1) := by decide +kernel
theorem dX6_most_1 : decode cX6_most 1 = .ok (.ifCond .lt 8, 3) := by decide +kernel
theorem dX6_most_4 : decode cX6_most 4 = .ok (.iload_n 1, 1) := by decide +kernel
theorem dX6_most_5 : decode cX6_most 5 = .ok (.iconst 1, 1) := by decide +kernel
theorem dX6_most_6 : decode cX6_most 6 = .ok (.if_icmp .le 5, 3) := by decide +kernel
theorem dX6_most_9 : decode cX6_most 9 = .ok (.iconst (-1), 1) := by decide +kernel
theorem dX6_most_10 : decode cX6_most 10 = .ok (.ireturn, 1) := by decide +kernel
theorem dX6_most_11 : decode cX6_most 11 = .ok (.bipush (-4), 2) := by decide +kernel
theorem dX6_most_13 : decode cX6_most 13 = .ok (.istore_n 2, 1) := by decide +kernel
theorem dX6_most_14 : decode cX6_most 14 = .ok (.iconst 0, 1) := by decide +kernel
theorem dX6_most_15 : decode cX6_most 15 = .ok (.istore_n 3, 1) := by decide +kernel
theorem dX6_most_16 : decode cX6_most 16 = .ok (.aload_n 0, 1) := by decide +kernel
theorem dX6_most_17 : decode cX6_most 17 = .ok (.getfield 35, 3) := by decide +kernel
theorem dX6_most_20 : decode cX6_most 20 = .ok (.invokevirtual 182, 3) := by decide +kernel
theorem dX6_most_23 : decode cX6_most 23 = .ok (.iconst 0, 1) := by decide +kernel
theorem dX6_most_24 : decode cX6_most 24 = .ok (.istore 4, 2) := by decide +kernel
theorem dX6_most_26 : decode cX6_most 26 = .ok (.iload 4, 2) := by decide +kernel
theorem dX6_most_28 : decode cX6_most 28 = .ok (.aload_n 0, 1) := by decide +kernel
theorem dX6_most_29 : decode cX6_most 29 = .ok (.getfield 26, 3) := by decide +kernel
theorem dX6_most_32 : decode cX6_most 32 = .ok (.getfield 89, 3) := by decide +kernel
theorem dX6_most_35 : decode cX6_most 35 = .ok (.if_icmp .ge 85, 3) := by decide +kernel
theorem dX6_most_38 : decode cX6_most 38 = .ok (.aload_n 0, 1) := by decide +kernel
theorem dX6_most_39 : decode cX6_most 39 = .ok (.getfield 35, 3) := by decide +kernel
theorem dX6_most_42 : decode cX6_most 42 = .ok (.iload 4, 2) := by decide +kernel
theorem dX6_most_44 : decode cX6_most 44 = .ok (.invokevirtual 185, 3) := by decide +kernel
theorem dX6_most_47 : decode cX6_most 47 = .ok (.aload_n 0, 1) := by decide +kernel
theorem dX6_most_48 : decode cX6_most 48 = .ok (.getfield 35, 3) := by decide +kernel
theorem dX6_most_51 : decode cX6_most 51 = .ok (.invokevirtual 134, 3) := by decide +kernel
theorem dX6_most_54 : decode cX6_most 54 = .ok (.ifCond .eq 60, 3) := by decide +kernel
theorem dX6_most_57 : decode cX6_most 57 = .ok (.aload_n 0, 1) := by decide +kernel
theorem dX6_most_58 : decode cX6_most 58 = .ok (.getfield 35, 3) := by decide +kernel
theorem dX6_most_61 : decode cX6_most 61 = .ok (.invokevirtual 147, 3) := by decide +kernel
theorem dX6_most_64 : decode cX6_most 64 = .ok (.istore 5, 2) := by decide +kernel
theorem dX6_most_66 : decode cX6_most 66 = .ok (.iload_n 1, 1) := by decide +kernel
theorem dX6_most_67 : decode cX6_most 67 = .ok (.ifCond .ne 17, 3) := by decide +kernel
theorem dX6_most_70 : decode cX6_most 70 = .ok (.iload 5, 2) := by decide +kernel
