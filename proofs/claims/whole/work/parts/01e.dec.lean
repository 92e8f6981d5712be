theorem dX6_isCrossing_0 : decode cX6_isCrossing 0 = .ok (.iload_n 2, 1) := by decide +kernel
theorem dX6_isCrossing_1 : decode cX6_isCrossing 1 = .ok (.iload_n 3, 1) := by decide +kernel
theorem dX6_isCrossing_2 : decode cX6_isCrossing 2 = .ok (.invokestatic 266, 3) := by decide +kernel
theorem dX6_isCrossing_5 : decode cX6_isCrossing 5 = .ok (.istore 6, 2) := by decide +kernel
theorem dX6_isCrossing_7 : decode cX6_isCrossing 7 = .ok (.iload 4, 2) := by decide +kernel
theorem dX6_isCrossing_9 : decode cX6_isCrossing 9 = .ok (.iload 5, 2) := by decide +kernel
theorem dX6_isCrossing_11 : decode cX6_isCrossing 11 = .ok (.invokestatic 266, 3) := by decide +kernel
theorem dX6_isCrossing_14 : decode cX6_isCrossing 14 = .ok (.istore 7, 2) := by decide +kernel
theorem dX6_isCrossing_16 : decode cX6_isCrossing 16 = .ok (.aload_n 0, 1) := by decide +kernel
theorem dX6_isCrossing_17 : decode cX6_isCrossing 17 = .ok (.getfield 7, 3) := by decide +kernel
theorem dX6_isCrossing_20 : decode cX6_isCrossing 20 = .ok (.iconst 1, 1) := by decide +kernel
theorem dX6_isCrossing_21 : decode cX6_isCrossing 21 = .ok (.iaload, 1) := by decide +kernel
theorem dX6_isCrossing_22 : decode cX6_isCrossing 22 = .ok (.iconst 1, 1) := by decide +kernel
theorem dX6_isCrossing_23 : decode cX6_isCrossing 23 = .ok (.if_icmp .ne 22, 3) := by decide +kernel
theorem dX6_isCrossing_26 : decode cX6_isCrossing 26 = .ok (.aload_n 0, 1) := by decide +kernel
theorem dX6_isCrossing_27 : decode cX6_isCrossing 27 = .ok (.iload_n 1, 1) := by decide +kernel
theorem dX6_isCrossing_28 : decode cX6_isCrossing 28 = .ok (.iconst 1, 1) := by decide +kernel
theorem dX6_isCrossing_29 : decode cX6_isCrossing 29 = .ok (.iadd, 1) := by decide +kernel
theorem dX6_isCrossing_30 : decode cX6_isCrossing 30 = .ok (.iload 5, 2) := by decide +kernel
theorem dX6_isCrossing_32 : decode cX6_isCrossing 32 = .ok (.invokevirtual 260, 3) := by decide +kernel
theorem dX6_isCrossing_35 : decode cX6_isCrossing 35 = .ok (.aload_n 0, 1) := by decide +kernel
theorem dX6_isCrossing_36 : decode cX6_isCrossing 36 = .ok (.iload_n 1, 1) := by decide +kernel
theorem dX6_isCrossing_37 : decode cX6_isCrossing 37 = .ok (.iload_n 3, 1) := by decide +kernel
theorem dX6_isCrossing_38 : decode cX6_isCrossing 38 = .ok (.invokevirtual 260, 3) := by decide +kernel
theorem dX6_isCrossing_41 : decode cX6_isCrossing 41 = .ok (.isub, 1) := by decide +kernel
theorem dX6_isCrossing_42 : decode cX6_isCrossing 42 = .ok (.goto 19, 3) := by decide +kernel
theorem dX6_isCrossing_45 : decode cX6_isCrossing 45 = .ok (.aload_n 0, 1) := by decide +kernel
theorem dX6_isCrossing_46 : decode cX6_isCrossing 46 = .ok (.iload_n 1, 1) := by decide +kernel
theorem dX6_isCrossing_47 : decode cX6_isCrossing 47 = .ok (.iload_n 3, 1) := by decide +kernel
theorem dX6_isCrossing_48 : decode cX6_isCrossing 48 = .ok (.invokevirtual 260, 3) := by decide +kernel
theorem dX6_isCrossing_51 : decode cX6_isCrossing 51 = .ok (.aload_n 0, 1) := by decide +kernel
theorem dX6_isCrossing_52 : decode cX6_isCrossing 52 = .ok (.iload_n 1, 1) := by decide +kernel
theorem dX6_isCrossing_53 : decode cX6_isCrossing 53 = .ok (.iconst 1, 1) := by decide +kernel
theorem dX6_isCrossing_54 : decode cX6_isCrossing 54 = .ok (.iadd, 1) := by decide +kernel
theorem dX6_isCrossing_55 : decode cX6_isCrossing 55 = .ok (.iload 5, 2) := by decide +kernel
theorem dX6_isCrossing_57 : decode cX6_isCrossing 57 = .ok (.invokevirtual 260, 3) := by decide +kernel
theorem dX6_isCrossing_60 : decode cX6_isCrossing 60 = .ok (.isub, 1) := by decide +kernel
theorem dX6_isCrossing_61 : decode cX6_isCrossing 61 = .ok (.istore 8, 2) := by decide +kernel
theorem dX6_isCrossing_63 : decode cX6_isCrossing 63 = .ok (.iload 8, 2) := by decide +kernel
theorem dX6_isCrossing_65 : decode cX6_isCrossing 65 = .ok (.ifCond .eq 39, 3) := by decide +kernel
theorem dX6_isCrossing_68 : decode cX6_isCrossing 68 = .ok (.iload 6, 2) := by decide +kernel
theorem dX6_isCrossing_70 : decode cX6_isCrossing 70 = .ok (.iload 7, 2) := by decide +kernel
theorem dX6_isCrossing_72 : decode cX6_isCrossing 72 = .ok (.if_icmp .eq 32, 3) := by decide +kernel
theorem dX6_isCrossing_75 : decode cX6_isCrossing 75 = .ok (.iload 8, 2) := by decide +kernel
theorem dX6_isCrossing_77 : decode cX6_isCrossing 77 = .ok (.ifCond .le 7, 3) := by decide +kernel
theorem dX6_isCrossing_80 : decode cX6_isCrossing 80 = .ok (.iconst 1, 1) := by decide +kernel
theorem dX6_isCrossing_81 : decode cX6_isCrossing 81 = .ok (.goto 4, 3) := by decide +kernel
theorem dX6_isCrossing_84 : decode cX6_isCrossing 84 = .ok (.iconst 0, 1) := by decide +kernel
theorem dX6_isCrossing_85 : decode cX6_isCrossing 85 = .ok (.iload 7, 2) := by decide +kernel
theorem dX6_isCrossing_87 : decode cX6_isCrossing 87 = .ok (.iload 6, 2) := by decide +kernel
theorem dX6_isCrossing_89 : decode cX6_isCrossing 89 = .ok (.if_icmp .le 7, 3) := by decide +kernel
theorem dX6_isCrossing_92 : decode cX6_isCrossing 92 = .ok (.iconst 1, 1) := by decide +kernel
theorem dX6_isCrossing_93 : decode cX6_isCrossing 93 = .ok (.goto 4, 3) := by decide +kernel
theorem dX6_isCrossing_96 : decode cX6_isCrossing 96 = .ok (.iconst 0, 1) := by decide +kernel
theorem dX6_isCrossing_97 : decode cX6_isCrossing 97 = .ok (.if_icmp .eq 7, 3) := by decide +kernel
theorem dX6_isCrossing_100 : decode cX6_isCrossing 100 = .ok (.iconst 1, 1) := by decide +kernel
theorem dX6_isCrossing_101 : decode cX6_isCrossing 101 = .ok (.goto 4, 3) := by decide +kernel
theorem dX6_isCrossing_104 : decode cX6_isCrossing 104 = .ok (.iconst 0, 1) := by decide +kernel
theorem dX6_isCrossing_105 : decode cX6_isCrossing 105 = .ok (.ireturn, 1) := by decide +kernel
theorem dX6_crossings_0 : decode cX6_crossings 0 = .ok (.aload_n 0, 1) := by decide +kernel
theorem dX6_crossings_1 : decode cX6_crossings 1 = .ok (.iload_n 1, 1) := by decide +kernel
theorem dX6_crossings_2 : decode cX6_crossings 2 = .ok (.invokevirtual 280, 3) := by decide +kernel
theorem dX6_crossings_5 : decode cX6_crossings 5 = .ok (.ifCond .eq 5, 3) := by decide +kernel
theorem dX6_crossings_8 : decode cX6_crossings 8 = .ok (.iconst 0, 1) := by decide +kernel
theorem dX6_crossings_9 : decode cX6_crossings 9 = .ok (.ireturn, 1) := by decide +kernel
theorem dX6_crossings_10 : decode cX6_crossings 10 = .ok (.aload_n 0, 1) := by decide +kernel
theorem dX6_crossings_11 : decode cX6_crossings 11 = .ok (.iload_n 1, 1) := by decide +kernel
theorem dX6_crossings_12 : decode cX6_crossings 12 = .ok (.iload_n 2, 1) := by decide +kernel
theorem dX6_crossings_13 : decode cX6_crossings 13 = .ok (.aload_n 0, 1) := by decide +kernel
theorem dX6_crossings_14 : decode cX6_crossings 14 = .ok (.iload_n 1, 1) := by decide +kernel
theorem dX6_crossings_15 : decode cX6_crossings 15 = .ok (.invokevirtual 283, 3) := by decide +kernel
theorem dX6_crossings_18 : decode cX6_crossings 18 = .ok (.iload_n 3, 1) := by decide +kernel
theorem dX6_crossings_19 : decode cX6_crossings 19 = .ok (.aload_n 0, 1) := by decide +kernel
theorem dX6_crossings_20 : decode cX6_crossings 20 = .ok (.iload_n 1, 1) := by decide +kernel
theorem dX6_crossings_21 : decode cX6_crossings 21 = .ok (.iconst 1, 1) := by decide +kernel
theorem dX6_crossings_22 : decode cX6_crossings 22 = .ok (.iadd, 1) := by decide +kernel
theorem dX6_crossings_23 : decode cX6_crossings 23 = .ok (.invokevirtual 283, 3) := by decide +kernel
theorem dX6_crossings_26 : decode cX6_crossings 26 = .ok (.invokevirtual 293, 3) := by decide +kernel
theorem dX6_crossings_29 : decode cX6_crossings 29 = .ok (.ifCond .eq 7, 3) := by decide +kernel
theorem dX6_crossings_32 : decode cX6_crossings 32 = .ok (.iconst 1, 1) := by decide +kernel
theorem dX6_crossings_33 : decode cX6_crossings 33 = .ok (.goto 4, 3) := by decide +kernel
theorem dX6_crossings_36 : decode cX6_crossings 36 = .ok (.iconst 0, 1) := by decide +kernel
theorem dX6_crossings_37 : decode cX6_crossings 37 = .ok (.istore 4, 2) := by decide +kernel
theorem dX6_crossings_39 : decode cX6_crossings 39 = .ok (.aload_n 0, 1) := by decide +kernel
theorem dX6_crossings_40 : decode cX6_crossings 40 = .ok (.iload_n 1, 1) := by decide +kernel
theorem dX6_crossings_41 : decode cX6_crossings 41 = .ok (.invokevirtual 239, 3) := by decide +kernel
theorem dX6_crossings_44 : decode cX6_crossings 44 = .ok (.aload_n 0, 1) := by decide +kernel
theorem dX6_crossings_45 : decode cX6_crossings 45 = .ok (.iload_n 1, 1) := by decide +kernel
theorem dX6_crossings_46 : decode cX6_crossings 46 = .ok (.iconst 1, 1) := by decide +kernel
theorem dX6_crossings_47 : decode cX6_crossings 47 = .ok (.iadd, 1) := by decide +kernel
theorem dX6_crossings_48 : decode cX6_crossings 48 = .ok (.invokevirtual 239, 3) := by decide +kernel
theorem dX6_crossings_51 : decode cX6_crossings 51 = .ok (.iadd, 1) := by decide +kernel
theorem dX6_crossings_52 : decode cX6_crossings 52 = .ok (.iconst 2, 1) := by decide +kernel
theorem dX6_crossings_53 : decode cX6_crossings 53 = .ok (.if_icmp .le 7, 3) := by decide +kernel
theorem dX6_crossings_56 : decode cX6_crossings 56 = .ok (.iconst 1, 1) := by decide +kernel
theorem dX6_crossings_57 : decode cX6_crossings 57 = .ok (.goto 4, 3) := by decide +kernel
theorem dX6_crossings_60 : decode cX6_crossings 60 = .ok (.iconst 0, 1) := by decide +kernel
theorem dX6_crossings_61 : decode cX6_crossings 61 = .ok (.istore 5, 2) := by decide +kernel
theorem dX6_crossings_63 : decode cX6_crossings 63 = .ok (.iload 4, 2) := by decide +kernel
theorem dX6_crossings_65 : decode cX6_crossings 65 = .ok (.iload 5, 2) := by decide +kernel
theorem dX6_crossings_67 : decode cX6_crossings 67 = .ok (.ifCond .eq 29, 3) := by decide +kernel
theorem dX6_crossings_70 : decode cX6_crossings 70 = .ok (.aload_n 0, 1) := by decide +kernel
theorem dX6_crossings_71 : decode cX6_crossings 71 = .ok (.iload_n 1, 1) := by decide +kernel
theorem dX6_crossings_72 : decode cX6_crossings 72 = .ok (.iload_n 2, 1) := by decide +kernel
theorem dX6_crossings_73 : decode cX6_crossings 73 = .ok (.aload_n 0, 1) := by decide +kernel
theorem dX6_crossings_74 : decode cX6_crossings 74 = .ok (.iload_n 1, 1) := by decide +kernel
theorem dX6_crossings_75 : decode cX6_crossings 75 = .ok (.invokevirtual 290, 3) := by decide +kernel
theorem dX6_crossings_78 : decode cX6_crossings 78 = .ok (.iload_n 3, 1) := by decide +kernel
theorem dX6_crossings_79 : decode cX6_crossings 79 = .ok (.aload_n 0, 1) := by decide +kernel
theorem dX6_crossings_80 : decode cX6_crossings 80 = .ok (.iload_n 1, 1) := by decide +kernel
theorem dX6_crossings_81 : decode cX6_crossings 81 = .ok (.iconst 1, 1) := by decide +kernel
theorem dX6_crossings_82 : decode cX6_crossings 82 = .ok (.iadd, 1) := by decide +kernel
theorem dX6_crossings_83 : decode cX6_crossings 83 = .ok (.invokevirtual 290, 3) := by decide +kernel
theorem dX6_crossings_86 : decode cX6_crossings 86 = .ok (.invokevirtual 293, 3) := by decide +kernel
theorem dX6_crossings_89 : decode cX6_crossings 89 = .ok (.ifCond .eq 7, 3) := by decide +kernel
theorem dX6_crossings_92 : decode cX6_crossings 92 = .ok (.iconst 1, 1) := by decide +kernel
theorem dX6_crossings_93 : decode cX6_crossings 93 = .ok (.goto 4, 3) := by decide +kernel
theorem dX6_crossings_96 : decode cX6_crossings 96 = .ok (.iconst 0, 1) := by decide +kernel
theorem dX6_crossings_97 : decode cX6_crossings 97 = .ok (.iadd, 1) := by decide +kernel
theorem dX6_crossings_98 : decode cX6_crossings 98 = .ok (.ireturn, 1) := by decide +kernel
theorem dX6_laysLeast_0 : decode cX6_laysLeast 0 = .ok (.aload_n 0, 1) := by decide +kernel
theorem dX6_laysLeast_1 : decode cX6_laysLeast 1 = .ok (.invokevirtual 297, 3) := by decide +kernel
theorem dX6_laysLeast_4 : decode cX6_laysLeast 4 = .ok (.aload_n 0, 1) := by decide +kernel
theorem dX6_laysLeast_5 : decode cX6_laysLeast 5 = .ok (.invokevirtual 113, 3) := by decide +kernel
theorem dX6_laysLeast_8 : decode cX6_laysLeast 8 = .ok (.iconst 1, 1) := by decide +kernel
theorem dX6_laysLeast_9 : decode cX6_laysLeast 9 = .ok (.isub, 1) := by decide +kernel
theorem dX6_laysLeast_10 : decode cX6_laysLeast 10 = .ok (.istore_n 1, 1) := by decide +kernel
theorem dX6_laysLeast_11 : decode cX6_laysLeast 11 = .ok (.iload_n 1, 1) := by decide +kernel
theorem dX6_laysLeast_12 : decode cX6_laysLeast 12 = .ok (.ifCond .lt 41, 3) := by decide +kernel
theorem dX6_laysLeast_15 : decode cX6_laysLeast 15 = .ok (.bipush 10, 2) := by decide +kernel
theorem dX6_laysLeast_17 : decode cX6_laysLeast 17 = .ok (.iload_n 1, 1) := by decide +kernel
theorem dX6_laysLeast_18 : decode cX6_laysLeast 18 = .ok (.imul, 1) := by decide +kernel
theorem dX6_laysLeast_19 : decode cX6_laysLeast 19 = .ok (.istore_n 2, 1) := by decide +kernel
theorem dX6_laysLeast_20 : decode cX6_laysLeast 20 = .ok (.iload_n 2, 1) := by decide +kernel
theorem dX6_laysLeast_21 : decode cX6_laysLeast 21 = .ok (.bipush 10, 2) := by decide +kernel
theorem dX6_laysLeast_23 : decode cX6_laysLeast 23 = .ok (.iload_n 1, 1) := by decide +kernel
theorem dX6_laysLeast_24 : decode cX6_laysLeast 24 = .ok (.imul, 1) := by decide +kernel
theorem dX6_laysLeast_25 : decode cX6_laysLeast 25 = .ok (.aload_n 0, 1) := by decide +kernel
theorem dX6_laysLeast_26 : decode cX6_laysLeast 26 = .ok (.getfield 45, 3) := by decide +kernel
theorem dX6_laysLeast_29 : decode cX6_laysLeast 29 = .ok (.iload_n 1, 1) := by decide +kernel
theorem dX6_laysLeast_30 : decode cX6_laysLeast 30 = .ok (.iaload, 1) := by decide +kernel
theorem dX6_laysLeast_31 : decode cX6_laysLeast 31 = .ok (.iadd, 1) := by decide +kernel
theorem dX6_laysLeast_32 : decode cX6_laysLeast 32 = .ok (.if_icmp .ge 15, 3) := by decide +kernel
theorem dX6_laysLeast_35 : decode cX6_laysLeast 35 = .ok (.aload_n 0, 1) := by decide +kernel
theorem dX6_laysLeast_36 : decode cX6_laysLeast 36 = .ok (.iload_n 1, 1) := by decide +kernel
theorem dX6_laysLeast_37 : decode cX6_laysLeast 37 = .ok (.iload_n 2, 1) := by decide +kernel
theorem dX6_laysLeast_38 : decode cX6_laysLeast 38 = .ok (.invokevirtual 300, 3) := by decide +kernel
theorem dX6_laysLeast_41 : decode cX6_laysLeast 41 = .ok (.iinc 2 1, 3) := by decide +kernel
theorem dX6_laysLeast_44 : decode cX6_laysLeast 44 = .ok (.goto (-24), 3) := by decide +kernel
theorem dX6_laysLeast_47 : decode cX6_laysLeast 47 = .ok (.iinc 1 (-1), 3) := by decide +kernel
theorem dX6_laysLeast_50 : decode cX6_laysLeast 50 = .ok (.goto (-39), 3) := by decide +kernel
theorem dX6_laysLeast_53 : decode cX6_laysLeast 53 = .ok (.return_, 1) := by decide +kernel
theorem dX6_laysFrom_0 : decode cX6_laysFrom 0 = .ok (.iload_n 1, 1) := by decide +kernel
theorem dX6_laysFrom_1 : decode cX6_laysFrom 1 = .ok (.aload_n 0, 1) := by decide +kernel
theorem dX6_laysFrom_2 : decode cX6_laysFrom 2 = .ok (.invokevirtual 113, 3) := by decide +kernel
theorem dX6_laysFrom_5 : decode cX6_laysFrom 5 = .ok (.iconst 1, 1) := by decide +kernel
theorem dX6_laysFrom_6 : decode cX6_laysFrom 6 = .ok (.isub, 1) := by decide +kernel
theorem dX6_laysFrom_7 : decode cX6_laysFrom 7 = .ok (.if_icmp .ne 7, 3) := by decide +kernel
theorem dX6_laysFrom_10 : decode cX6_laysFrom 10 = .ok (.iconst 1, 1) := by decide +kernel
theorem dX6_laysFrom_11 : decode cX6_laysFrom 11 = .ok (.goto 4, 3) := by decide +kernel
theorem dX6_laysFrom_14 : decode cX6_laysFrom 14 = .ok (.iconst 0, 1) := by decide +kernel
theorem dX6_laysFrom_15 : decode cX6_laysFrom 15 = .ok (.istore_n 3, 1) := by decide +kernel
theorem dX6_laysFrom_16 : decode cX6_laysFrom 16 = .ok (.iload_n 3, 1) := by decide +kernel
theorem dX6_laysFrom_17 : decode cX6_laysFrom 17 = .ok (.ifCond .eq 7, 3) := by decide +kernel
theorem dX6_laysFrom_20 : decode cX6_laysFrom 20 = .ok (.iconst 0, 1) := by decide +kernel
theorem dX6_laysFrom_21 : decode cX6_laysFrom 21 = .ok (.goto 6, 3) := by decide +kernel
theorem dX6_laysFrom_24 : decode cX6_laysFrom 24 = .ok (.ldc_w 303, 3) := by decide +kernel
theorem dX6_laysFrom_27 : decode cX6_laysFrom 27 = .ok (.istore 4, 2) := by decide +kernel
theorem dX6_laysFrom_29 : decode cX6_laysFrom 29 = .ok (.aload_n 0, 1) := by decide +kernel
theorem dX6_laysFrom_30 : decode cX6_laysFrom 30 = .ok (.getfield 57, 3) := by decide +kernel
theorem dX6_laysFrom_33 : decode cX6_laysFrom 33 = .ok (.iload_n 2, 1) := by decide +kernel
theorem dX6_laysFrom_34 : decode cX6_laysFrom 34 = .ok (.iload_n 3, 1) := by decide +kernel
theorem dX6_laysFrom_35 : decode cX6_laysFrom 35 = .ok (.ifCond .eq 7, 3) := by decide +kernel
theorem dX6_laysFrom_38 : decode cX6_laysFrom 38 = .ok (.lconst 1, 1) := by decide +kernel
theorem dX6_laysFrom_39 : decode cX6_laysFrom 39 = .ok (.goto 4, 3) := by decide +kernel
theorem dX6_laysFrom_42 : decode cX6_laysFrom 42 = .ok (.lconst 0, 1) := by decide +kernel
theorem dX6_laysFrom_43 : decode cX6_laysFrom 43 = .ok (.lastore, 1) := by decide +kernel
theorem dX6_laysFrom_44 : decode cX6_laysFrom 44 = .ok (.aload_n 0, 1) := by decide +kernel
theorem dX6_laysFrom_45 : decode cX6_laysFrom 45 = .ok (.getfield 61, 3) := by decide +kernel
theorem dX6_laysFrom_48 : decode cX6_laysFrom 48 = .ok (.iload_n 2, 1) := by decide +kernel
theorem dX6_laysFrom_49 : decode cX6_laysFrom 49 = .ok (.iload_n 3, 1) := by decide +kernel
theorem dX6_laysFrom_50 : decode cX6_laysFrom 50 = .ok (.ifCond .eq 7, 3) := by decide +kernel
theorem dX6_laysFrom_53 : decode cX6_laysFrom 53 = .ok (.lconst 1, 1) := by decide +kernel
theorem dX6_laysFrom_54 : decode cX6_laysFrom 54 = .ok (.goto 4, 3) := by decide +kernel
theorem dX6_laysFrom_57 : decode cX6_laysFrom 57 = .ok (.lconst 0, 1) := by decide +kernel
theorem dX6_laysFrom_58 : decode cX6_laysFrom 58 = .ok (.lastore, 1) := by decide +kernel
theorem dX6_laysFrom_59 : decode cX6_laysFrom 59 = .ok (.bipush 10, 2) := by decide +kernel
theorem dX6_laysFrom_61 : decode cX6_laysFrom 61 = .ok (.iload_n 1, 1) := by decide +kernel
theorem dX6_laysFrom_62 : decode cX6_laysFrom 62 = .ok (.iconst 1, 1) := by decide +kernel
theorem dX6_laysFrom_63 : decode cX6_laysFrom 63 = .ok (.iadd, 1) := by decide +kernel
theorem dX6_laysFrom_64 : decode cX6_laysFrom 64 = .ok (.imul, 1) := by decide +kernel
theorem dX6_laysFrom_65 : decode cX6_laysFrom 65 = .ok (.istore 5, 2) := by decide +kernel
theorem dX6_laysFrom_67 : decode cX6_laysFrom 67 = .ok (.iload_n 3, 1) := by decide +kernel
theorem dX6_laysFrom_68 : decode cX6_laysFrom 68 = .ok (.ifCond .ne 174, 3) := by decide +kernel
theorem dX6_laysFrom_71 : decode cX6_laysFrom 71 = .ok (.iload 5, 2) := by decide +kernel
theorem dX6_laysFrom_73 : decode cX6_laysFrom 73 = .ok (.bipush 10, 2) := by decide +kernel
theorem dX6_laysFrom_75 : decode cX6_laysFrom 75 = .ok (.iload_n 1, 1) := by decide +kernel
theorem dX6_laysFrom_76 : decode cX6_laysFrom 76 = .ok (.iconst 1, 1) := by decide +kernel
theorem dX6_laysFrom_77 : decode cX6_laysFrom 77 = .ok (.iadd, 1) := by decide +kernel
theorem dX6_laysFrom_78 : decode cX6_laysFrom 78 = .ok (.imul, 1) := by decide +kernel
theorem dX6_laysFrom_79 : decode cX6_laysFrom 79 = .ok (.aload_n 0, 1) := by decide +kernel
theorem dX6_laysFrom_80 : decode cX6_laysFrom 80 = .ok (.getfield 45, 3) := by decide +kernel
theorem dX6_laysFrom_83 : decode cX6_laysFrom 83 = .ok (.iload_n 1, 1) := by decide +kernel
theorem dX6_laysFrom_84 : decode cX6_laysFrom 84 = .ok (.iconst 1, 1) := by decide +kernel
theorem dX6_laysFrom_85 : decode cX6_laysFrom 85 = .ok (.iadd, 1) := by decide +kernel
theorem dX6_laysFrom_86 : decode cX6_laysFrom 86 = .ok (.iaload, 1) := by decide +kernel
theorem dX6_laysFrom_87 : decode cX6_laysFrom 87 = .ok (.iadd, 1) := by decide +kernel
theorem dX6_laysFrom_88 : decode cX6_laysFrom 88 = .ok (.if_icmp .ge 154, 3) := by decide +kernel
theorem dX6_laysFrom_91 : decode cX6_laysFrom 91 = .ok (.aload_n 0, 1) := by decide +kernel
theorem dX6_laysFrom_92 : decode cX6_laysFrom 92 = .ok (.iload_n 1, 1) := by decide +kernel
theorem dX6_laysFrom_93 : decode cX6_laysFrom 93 = .ok (.aload_n 0, 1) := by decide +kernel
theorem dX6_laysFrom_94 : decode cX6_laysFrom 94 = .ok (.getfield 39, 3) := by decide +kernel
theorem dX6_laysFrom_97 : decode cX6_laysFrom 97 = .ok (.iload_n 2, 1) := by decide +kernel
theorem dX6_laysFrom_98 : decode cX6_laysFrom 98 = .ok (.iaload, 1) := by decide +kernel
theorem dX6_laysFrom_99 : decode cX6_laysFrom 99 = .ok (.aload_n 0, 1) := by decide +kernel
theorem dX6_laysFrom_100 : decode cX6_laysFrom 100 = .ok (.getfield 39, 3) := by decide +kernel
theorem dX6_laysFrom_103 : decode cX6_laysFrom 103 = .ok (.iload 5, 2) := by decide +kernel
theorem dX6_laysFrom_105 : decode cX6_laysFrom 105 = .ok (.iaload, 1) := by decide +kernel
theorem dX6_laysFrom_106 : decode cX6_laysFrom 106 = .ok (.invokevirtual 304, 3) := by decide +kernel
theorem dX6_laysFrom_109 : decode cX6_laysFrom 109 = .ok (.istore 6, 2) := by decide +kernel
theorem dX6_laysFrom_111 : decode cX6_laysFrom 111 = .ok (.iload 6, 2) := by decide +kernel
theorem dX6_laysFrom_113 : decode cX6_laysFrom 113 = .ok (.iconst (-1), 1) := by decide +kernel
theorem dX6_laysFrom_114 : decode cX6_laysFrom 114 = .ok (.if_icmp .eq 122, 3) := by decide +kernel
theorem dX6_laysFrom_117 : decode cX6_laysFrom 117 = .ok (.aload_n 0, 1) := by decide +kernel
theorem dX6_laysFrom_118 : decode cX6_laysFrom 118 = .ok (.getfield 51, 3) := by decide +kernel
theorem dX6_laysFrom_121 : decode cX6_laysFrom 121 = .ok (.iload 5, 2) := by decide +kernel
theorem dX6_laysFrom_123 : decode cX6_laysFrom 123 = .ok (.iaload, 1) := by decide +kernel
theorem dX6_laysFrom_124 : decode cX6_laysFrom 124 = .ok (.ldc_w 303, 3) := by decide +kernel
theorem dX6_laysFrom_127 : decode cX6_laysFrom 127 = .ok (.if_icmp .lt 6, 3) := by decide +kernel
theorem dX6_laysFrom_130 : decode cX6_laysFrom 130 = .ok (.goto 106, 3) := by decide +kernel
theorem dX6_laysFrom_133 : decode cX6_laysFrom 133 = .ok (.aload_n 0, 1) := by decide +kernel
theorem dX6_laysFrom_134 : decode cX6_laysFrom 134 = .ok (.getfield 57, 3) := by decide +kernel
theorem dX6_laysFrom_137 : decode cX6_laysFrom 137 = .ok (.iload_n 2, 1) := by decide +kernel
theorem dX6_laysFrom_138 : decode cX6_laysFrom 138 = .ok (.ldc2_w 307, 3) := by decide +kernel
theorem dX6_laysFrom_141 : decode cX6_laysFrom 141 = .ok (.aload_n 0, 1) := by decide +kernel
theorem dX6_laysFrom_142 : decode cX6_laysFrom 142 = .ok (.getfield 57, 3) := by decide +kernel
theorem dX6_laysFrom_145 : decode cX6_laysFrom 145 = .ok (.iload_n 2, 1) := by decide +kernel
theorem dX6_laysFrom_146 : decode cX6_laysFrom 146 = .ok (.laload, 1) := by decide +kernel
theorem dX6_laysFrom_147 : decode cX6_laysFrom 147 = .ok (.aload_n 0, 1) := by decide +kernel
theorem dX6_laysFrom_148 : decode cX6_laysFrom 148 = .ok (.getfield 57, 3) := by decide +kernel
theorem dX6_laysFrom_151 : decode cX6_laysFrom 151 = .ok (.iload 5, 2) := by decide +kernel
theorem dX6_laysFrom_153 : decode cX6_laysFrom 153 = .ok (.laload, 1) := by decide +kernel
theorem dX6_laysFrom_154 : decode cX6_laysFrom 154 = .ok (.ladd, 1) := by decide +kernel
theorem dX6_laysFrom_155 : decode cX6_laysFrom 155 = .ok (.invokestatic 309, 3) := by decide +kernel
theorem dX6_laysFrom_158 : decode cX6_laysFrom 158 = .ok (.lastore, 1) := by decide +kernel
theorem dX6_laysFrom_159 : decode cX6_laysFrom 159 = .ok (.iload 6, 2) := by decide +kernel
theorem dX6_laysFrom_161 : decode cX6_laysFrom 161 = .ok (.aload_n 0, 1) := by decide +kernel
theorem dX6_laysFrom_162 : decode cX6_laysFrom 162 = .ok (.getfield 51, 3) := by decide +kernel
theorem dX6_laysFrom_165 : decode cX6_laysFrom 165 = .ok (.iload 5, 2) := by decide +kernel
theorem dX6_laysFrom_167 : decode cX6_laysFrom 167 = .ok (.iaload, 1) := by decide +kernel
theorem dX6_laysFrom_168 : decode cX6_laysFrom 168 = .ok (.iadd, 1) := by decide +kernel
theorem dX6_laysFrom_169 : decode cX6_laysFrom 169 = .ok (.iload 4, 2) := by decide +kernel
theorem dX6_laysFrom_171 : decode cX6_laysFrom 171 = .ok (.if_icmp .gt 48, 3) := by decide +kernel
theorem dX6_laysFrom_174 : decode cX6_laysFrom 174 = .ok (.aload_n 0, 1) := by decide +kernel
theorem dX6_laysFrom_175 : decode cX6_laysFrom 175 = .ok (.getfield 61, 3) := by decide +kernel
theorem dX6_laysFrom_178 : decode cX6_laysFrom 178 = .ok (.iload_n 2, 1) := by decide +kernel
theorem dX6_laysFrom_179 : decode cX6_laysFrom 179 = .ok (.ldc2_w 307, 3) := by decide +kernel
theorem dX6_laysFrom_182 : decode cX6_laysFrom 182 = .ok (.iload 6, 2) := by decide +kernel
theorem dX6_laysFrom_184 : decode cX6_laysFrom 184 = .ok (.aload_n 0, 1) := by decide +kernel
theorem dX6_laysFrom_185 : decode cX6_laysFrom 185 = .ok (.getfield 51, 3) := by decide +kernel
theorem dX6_laysFrom_188 : decode cX6_laysFrom 188 = .ok (.iload 5, 2) := by decide +kernel
theorem dX6_laysFrom_190 : decode cX6_laysFrom 190 = .ok (.iaload, 1) := by decide +kernel
theorem dX6_laysFrom_191 : decode cX6_laysFrom 191 = .ok (.iadd, 1) := by decide +kernel
theorem dX6_laysFrom_192 : decode cX6_laysFrom 192 = .ok (.iload 4, 2) := by decide +kernel
theorem dX6_laysFrom_194 : decode cX6_laysFrom 194 = .ok (.if_icmp .ge 7, 3) := by decide +kernel
theorem dX6_laysFrom_197 : decode cX6_laysFrom 197 = .ok (.lconst 0, 1) := by decide +kernel
theorem dX6_laysFrom_198 : decode cX6_laysFrom 198 = .ok (.goto 9, 3) := by decide +kernel
theorem dX6_laysFrom_201 : decode cX6_laysFrom 201 = .ok (.aload_n 0, 1) := by decide +kernel
theorem dX6_laysFrom_202 : decode cX6_laysFrom 202 = .ok (.getfield 61, 3) := by decide +kernel
theorem dX6_laysFrom_205 : decode cX6_laysFrom 205 = .ok (.iload_n 2, 1) := by decide +kernel
theorem dX6_laysFrom_206 : decode cX6_laysFrom 206 = .ok (.laload, 1) := by decide +kernel
theorem dX6_laysFrom_207 : decode cX6_laysFrom 207 = .ok (.aload_n 0, 1) := by decide +kernel
theorem dX6_laysFrom_208 : decode cX6_laysFrom 208 = .ok (.getfield 61, 3) := by decide +kernel
theorem dX6_laysFrom_211 : decode cX6_laysFrom 211 = .ok (.iload 5, 2) := by decide +kernel
theorem dX6_laysFrom_213 : decode cX6_laysFrom 213 = .ok (.laload, 1) := by decide +kernel
theorem dX6_laysFrom_214 : decode cX6_laysFrom 214 = .ok (.ladd, 1) := by decide +kernel
theorem dX6_laysFrom_215 : decode cX6_laysFrom 215 = .ok (.invokestatic 309, 3) := by decide +kernel
theorem dX6_laysFrom_218 : decode cX6_laysFrom 218 = .ok (.lastore, 1) := by decide +kernel
theorem dX6_laysFrom_219 : decode cX6_laysFrom 219 = .ok (.iload 4, 2) := by decide +kernel
theorem dX6_laysFrom_221 : decode cX6_laysFrom 221 = .ok (.iload 6, 2) := by decide +kernel
theorem dX6_laysFrom_223 : decode cX6_laysFrom 223 = .ok (.aload_n 0, 1) := by decide +kernel
theorem dX6_laysFrom_224 : decode cX6_laysFrom 224 = .ok (.getfield 51, 3) := by decide +kernel
theorem dX6_laysFrom_227 : decode cX6_laysFrom 227 = .ok (.iload 5, 2) := by decide +kernel
theorem dX6_laysFrom_229 : decode cX6_laysFrom 229 = .ok (.iaload, 1) := by decide +kernel
theorem dX6_laysFrom_230 : decode cX6_laysFrom 230 = .ok (.iadd, 1) := by decide +kernel
theorem dX6_laysFrom_231 : decode cX6_laysFrom 231 = .ok (.invokestatic 87, 3) := by decide +kernel
theorem dX6_laysFrom_234 : decode cX6_laysFrom 234 = .ok (.istore 4, 2) := by decide +kernel
theorem dX6_laysFrom_236 : decode cX6_laysFrom 236 = .ok (.iinc 5 1, 3) := by decide +kernel
theorem dX6_laysFrom_239 : decode cX6_laysFrom 239 = .ok (.goto (-172), 3) := by decide +kernel
theorem dX6_laysFrom_242 : decode cX6_laysFrom 242 = .ok (.aload_n 0, 1) := by decide +kernel
theorem dX6_laysFrom_243 : decode cX6_laysFrom 243 = .ok (.getfield 51, 3) := by decide +kernel
theorem dX6_laysFrom_246 : decode cX6_laysFrom 246 = .ok (.iload_n 2, 1) := by decide +kernel
theorem dX6_laysFrom_247 : decode cX6_laysFrom 247 = .ok (.iload 4, 2) := by decide +kernel
theorem dX6_laysFrom_249 : decode cX6_laysFrom 249 = .ok (.ldc_w 303, 3) := by decide +kernel
theorem dX6_laysFrom_252 : decode cX6_laysFrom 252 = .ok (.if_icmp .ne 9, 3) := by decide +kernel
theorem dX6_laysFrom_255 : decode cX6_laysFrom 255 = .ok (.ldc_w 303, 3) := by decide +kernel
theorem dX6_laysFrom_258 : decode cX6_laysFrom 258 = .ok (.goto 12, 3) := by decide +kernel
theorem dX6_laysFrom_261 : decode cX6_laysFrom 261 = .ok (.iload 4, 2) := by decide +kernel
theorem dX6_laysFrom_263 : decode cX6_laysFrom 263 = .ok (.aload_n 0, 1) := by decide +kernel
theorem dX6_laysFrom_264 : decode cX6_laysFrom 264 = .ok (.getfield 42, 3) := by decide +kernel
theorem dX6_laysFrom_267 : decode cX6_laysFrom 267 = .ok (.iload_n 2, 1) := by decide +kernel
theorem dX6_laysFrom_268 : decode cX6_laysFrom 268 = .ok (.iaload, 1) := by decide +kernel
theorem dX6_laysFrom_269 : decode cX6_laysFrom 269 = .ok (.iadd, 1) := by decide +kernel
theorem dX6_laysFrom_270 : decode cX6_laysFrom 270 = .ok (.iastore, 1) := by decide +kernel
theorem dX6_laysFrom_271 : decode cX6_laysFrom 271 = .ok (.return_, 1) := by decide +kernel
theorem dX6_laysUpTo_0 : decode cX6_laysUpTo 0 = .ok (.iconst 0, 1) := by decide +kernel
theorem dX6_laysUpTo_1 : decode cX6_laysUpTo 1 = .ok (.istore_n 1, 1) := by decide +kernel
theorem dX6_laysUpTo_2 : decode cX6_laysUpTo 2 = .ok (.iload_n 1, 1) := by decide +kernel
theorem dX6_laysUpTo_3 : decode cX6_laysUpTo 3 = .ok (.aload_n 0, 1) := by decide +kernel
theorem dX6_laysUpTo_4 : decode cX6_laysUpTo 4 = .ok (.invokevirtual 113, 3) := by decide +kernel
theorem dX6_laysUpTo_7 : decode cX6_laysUpTo 7 = .ok (.if_icmp .ge 168, 3) := by decide +kernel
theorem dX6_laysUpTo_10 : decode cX6_laysUpTo 10 = .ok (.bipush 10, 2) := by decide +kernel
theorem dX6_laysUpTo_12 : decode cX6_laysUpTo 12 = .ok (.iload_n 1, 1) := by decide +kernel
theorem dX6_laysUpTo_13 : decode cX6_laysUpTo 13 = .ok (.imul, 1) := by decide +kernel
theorem dX6_laysUpTo_14 : decode cX6_laysUpTo 14 = .ok (.istore_n 2, 1) := by decide +kernel
theorem dX6_laysUpTo_15 : decode cX6_laysUpTo 15 = .ok (.iload_n 2, 1) := by decide +kernel
theorem dX6_laysUpTo_16 : decode cX6_laysUpTo 16 = .ok (.bipush 10, 2) := by decide +kernel
theorem dX6_laysUpTo_18 : decode cX6_laysUpTo 18 = .ok (.iload_n 1, 1) := by decide +kernel
theorem dX6_laysUpTo_19 : decode cX6_laysUpTo 19 = .ok (.imul, 1) := by decide +kernel
theorem dX6_laysUpTo_20 : decode cX6_laysUpTo 20 = .ok (.aload_n 0, 1) := by decide +kernel
theorem dX6_laysUpTo_21 : decode cX6_laysUpTo 21 = .ok (.getfield 45, 3) := by decide +kernel
theorem dX6_laysUpTo_24 : decode cX6_laysUpTo 24 = .ok (.iload_n 1, 1) := by decide +kernel
theorem dX6_laysUpTo_25 : decode cX6_laysUpTo 25 = .ok (.iaload, 1) := by decide +kernel
theorem dX6_laysUpTo_26 : decode cX6_laysUpTo 26 = .ok (.iadd, 1) := by decide +kernel
theorem dX6_laysUpTo_27 : decode cX6_laysUpTo 27 = .ok (.if_icmp .ge 142, 3) := by decide +kernel
theorem dX6_laysUpTo_30 : decode cX6_laysUpTo 30 = .ok (.iload_n 1, 1) := by decide +kernel
theorem dX6_laysUpTo_31 : decode cX6_laysUpTo 31 = .ok (.ifCond .ne 7, 3) := by decide +kernel
theorem dX6_laysUpTo_34 : decode cX6_laysUpTo 34 = .ok (.iconst 0, 1) := by decide +kernel
theorem dX6_laysUpTo_35 : decode cX6_laysUpTo 35 = .ok (.goto 6, 3) := by decide +kernel
theorem dX6_laysUpTo_38 : decode cX6_laysUpTo 38 = .ok (.ldc_w 303, 3) := by decide +kernel
theorem dX6_laysUpTo_41 : decode cX6_laysUpTo 41 = .ok (.istore_n 3, 1) := by decide +kernel
theorem dX6_laysUpTo_42 : decode cX6_laysUpTo 42 = .ok (.bipush 10, 2) := by decide +kernel
theorem dX6_laysUpTo_44 : decode cX6_laysUpTo 44 = .ok (.iload_n 1, 1) := by decide +kernel
theorem dX6_laysUpTo_45 : decode cX6_laysUpTo 45 = .ok (.iconst 1, 1) := by decide +kernel
theorem dX6_laysUpTo_46 : decode cX6_laysUpTo 46 = .ok (.isub, 1) := by decide +kernel
theorem dX6_laysUpTo_47 : decode cX6_laysUpTo 47 = .ok (.imul, 1) := by decide +kernel
theorem dX6_laysUpTo_48 : decode cX6_laysUpTo 48 = .ok (.istore 4, 2) := by decide +kernel
theorem dX6_laysUpTo_50 : decode cX6_laysUpTo 50 = .ok (.iload_n 1, 1) := by decide +kernel
theorem dX6_laysUpTo_51 : decode cX6_laysUpTo 51 = .ok (.ifCond .le 85, 3) := by decide +kernel
theorem dX6_laysUpTo_54 : decode cX6_laysUpTo 54 = .ok (.iload 4, 2) := by decide +kernel
theorem dX6_laysUpTo_56 : decode cX6_laysUpTo 56 = .ok (.bipush 10, 2) := by decide +kernel
theorem dX6_laysUpTo_58 : decode cX6_laysUpTo 58 = .ok (.iload_n 1, 1) := by decide +kernel
theorem dX6_laysUpTo_59 : decode cX6_laysUpTo 59 = .ok (.iconst 1, 1) := by decide +kernel
theorem dX6_laysUpTo_60 : decode cX6_laysUpTo 60 = .ok (.isub, 1) := by decide +kernel
theorem dX6_laysUpTo_61 : decode cX6_laysUpTo 61 = .ok (.imul, 1) := by decide +kernel
theorem dX6_laysUpTo_62 : decode cX6_laysUpTo 62 = .ok (.aload_n 0, 1) := by decide +kernel
theorem dX6_laysUpTo_63 : decode cX6_laysUpTo 63 = .ok (.getfield 45, 3) := by decide +kernel
theorem dX6_laysUpTo_66 : decode cX6_laysUpTo 66 = .ok (.iload_n 1, 1) := by decide +kernel
theorem dX6_laysUpTo_67 : decode cX6_laysUpTo 67 = .ok (.iconst 1, 1) := by decide +kernel
theorem dX6_laysUpTo_68 : decode cX6_laysUpTo 68 = .ok (.isub, 1) := by decide +kernel
theorem dX6_laysUpTo_69 : decode cX6_laysUpTo 69 = .ok (.iaload, 1) := by decide +kernel
theorem dX6_laysUpTo_70 : decode cX6_laysUpTo 70 = .ok (.iadd, 1) := by decide +kernel
theorem dX6_laysUpTo_71 : decode cX6_laysUpTo 71 = .ok (.if_icmp .ge 65, 3) := by decide +kernel
theorem dX6_laysUpTo_74 : decode cX6_laysUpTo 74 = .ok (.aload_n 0, 1) := by decide +kernel
theorem dX6_laysUpTo_75 : decode cX6_laysUpTo 75 = .ok (.iload_n 1, 1) := by decide +kernel
theorem dX6_laysUpTo_76 : decode cX6_laysUpTo 76 = .ok (.iconst 1, 1) := by decide +kernel
theorem dX6_laysUpTo_77 : decode cX6_laysUpTo 77 = .ok (.isub, 1) := by decide +kernel
theorem dX6_laysUpTo_78 : decode cX6_laysUpTo 78 = .ok (.aload_n 0, 1) := by decide +kernel
theorem dX6_laysUpTo_79 : decode cX6_laysUpTo 79 = .ok (.getfield 39, 3) := by decide +kernel
theorem dX6_laysUpTo_82 : decode cX6_laysUpTo 82 = .ok (.iload 4, 2) := by decide +kernel
theorem dX6_laysUpTo_84 : decode cX6_laysUpTo 84 = .ok (.iaload, 1) := by decide +kernel
theorem dX6_laysUpTo_85 : decode cX6_laysUpTo 85 = .ok (.aload_n 0, 1) := by decide +kernel
theorem dX6_laysUpTo_86 : decode cX6_laysUpTo 86 = .ok (.getfield 39, 3) := by decide +kernel
theorem dX6_laysUpTo_89 : decode cX6_laysUpTo 89 = .ok (.iload_n 2, 1) := by decide +kernel
theorem dX6_laysUpTo_90 : decode cX6_laysUpTo 90 = .ok (.iaload, 1) := by decide +kernel
theorem dX6_laysUpTo_91 : decode cX6_laysUpTo 91 = .ok (.invokevirtual 304, 3) := by decide +kernel
theorem dX6_laysUpTo_94 : decode cX6_laysUpTo 94 = .ok (.istore 5, 2) := by decide +kernel
theorem dX6_laysUpTo_96 : decode cX6_laysUpTo 96 = .ok (.iload 5, 2) := by decide +kernel
theorem dX6_laysUpTo_98 : decode cX6_laysUpTo 98 = .ok (.iconst (-1), 1) := by decide +kernel
theorem dX6_laysUpTo_99 : decode cX6_laysUpTo 99 = .ok (.if_icmp .eq 31, 3) := by decide +kernel
theorem dX6_laysUpTo_102 : decode cX6_laysUpTo 102 = .ok (.aload_n 0, 1) := by decide +kernel
theorem dX6_laysUpTo_103 : decode cX6_laysUpTo 103 = .ok (.getfield 54, 3) := by decide +kernel
theorem dX6_laysUpTo_106 : decode cX6_laysUpTo 106 = .ok (.iload 4, 2) := by decide +kernel
theorem dX6_laysUpTo_108 : decode cX6_laysUpTo 108 = .ok (.iaload, 1) := by decide +kernel
theorem dX6_laysUpTo_109 : decode cX6_laysUpTo 109 = .ok (.ldc_w 303, 3) := by decide +kernel
theorem dX6_laysUpTo_112 : decode cX6_laysUpTo 112 = .ok (.if_icmp .ge 18, 3) := by decide +kernel
theorem dX6_laysUpTo_115 : decode cX6_laysUpTo 115 = .ok (.iload_n 3, 1) := by decide +kernel
theorem dX6_laysUpTo_116 : decode cX6_laysUpTo 116 = .ok (.aload_n 0, 1) := by decide +kernel
theorem dX6_laysUpTo_117 : decode cX6_laysUpTo 117 = .ok (.getfield 54, 3) := by decide +kernel
theorem dX6_laysUpTo_120 : decode cX6_laysUpTo 120 = .ok (.iload 4, 2) := by decide +kernel
theorem dX6_laysUpTo_122 : decode cX6_laysUpTo 122 = .ok (.iaload, 1) := by decide +kernel
theorem dX6_laysUpTo_123 : decode cX6_laysUpTo 123 = .ok (.iload 5, 2) := by decide +kernel
theorem dX6_laysUpTo_125 : decode cX6_laysUpTo 125 = .ok (.iadd, 1) := by decide +kernel
theorem dX6_laysUpTo_126 : decode cX6_laysUpTo 126 = .ok (.invokestatic 87, 3) := by decide +kernel
theorem dX6_laysUpTo_129 : decode cX6_laysUpTo 129 = .ok (.istore_n 3, 1) := by decide +kernel
theorem dX6_laysUpTo_130 : decode cX6_laysUpTo 130 = .ok (.iinc 4 1, 3) := by decide +kernel
theorem dX6_laysUpTo_133 : decode cX6_laysUpTo 133 = .ok (.goto (-83), 3) := by decide +kernel
theorem dX6_laysUpTo_136 : decode cX6_laysUpTo 136 = .ok (.aload_n 0, 1) := by decide +kernel
theorem dX6_laysUpTo_137 : decode cX6_laysUpTo 137 = .ok (.getfield 54, 3) := by decide +kernel
theorem dX6_laysUpTo_140 : decode cX6_laysUpTo 140 = .ok (.iload_n 2, 1) := by decide +kernel
theorem dX6_laysUpTo_141 : decode cX6_laysUpTo 141 = .ok (.iload_n 3, 1) := by decide +kernel
theorem dX6_laysUpTo_142 : decode cX6_laysUpTo 142 = .ok (.ldc_w 303, 3) := by decide +kernel
theorem dX6_laysUpTo_145 : decode cX6_laysUpTo 145 = .ok (.if_icmp .ne 9, 3) := by decide +kernel
theorem dX6_laysUpTo_148 : decode cX6_laysUpTo 148 = .ok (.ldc_w 303, 3) := by decide +kernel
theorem dX6_laysUpTo_151 : decode cX6_laysUpTo 151 = .ok (.goto 11, 3) := by decide +kernel
theorem dX6_laysUpTo_154 : decode cX6_laysUpTo 154 = .ok (.iload_n 3, 1) := by decide +kernel
theorem dX6_laysUpTo_155 : decode cX6_laysUpTo 155 = .ok (.aload_n 0, 1) := by decide +kernel
theorem dX6_laysUpTo_156 : decode cX6_laysUpTo 156 = .ok (.getfield 42, 3) := by decide +kernel
theorem dX6_laysUpTo_159 : decode cX6_laysUpTo 159 = .ok (.iload_n 2, 1) := by decide +kernel
theorem dX6_laysUpTo_160 : decode cX6_laysUpTo 160 = .ok (.iaload, 1) := by decide +kernel
theorem dX6_laysUpTo_161 : decode cX6_laysUpTo 161 = .ok (.iadd, 1) := by decide +kernel
theorem dX6_laysUpTo_162 : decode cX6_laysUpTo 162 = .ok (.iastore, 1) := by decide +kernel
theorem dX6_laysUpTo_163 : decode cX6_laysUpTo 163 = .ok (.iinc 2 1, 3) := by decide +kernel
theorem dX6_laysUpTo_166 : decode cX6_laysUpTo 166 = .ok (.goto (-151), 3) := by decide +kernel
theorem dX6_laysUpTo_169 : decode cX6_laysUpTo 169 = .ok (.iinc 1 1, 3) := by decide +kernel
theorem dX6_laysUpTo_172 : decode cX6_laysUpTo 172 = .ok (.goto (-170), 3) := by decide +kernel
theorem dX6_laysUpTo_175 : decode cX6_laysUpTo 175 = .ok (.return_, 1) := by decide +kernel
theorem dX6_bestLaid_0 : decode cX6_bestLaid 0 = .ok (.aload_n 0, 1) := by decide +kernel
theorem dX6_bestLaid_1 : decode cX6_bestLaid 1 = .ok (.invokevirtual 113, 3) := by decide +kernel
theorem dX6_bestLaid_4 : decode cX6_bestLaid 4 = .ok (.ifCond .ne 5, 3) := by decide +kernel
theorem dX6_bestLaid_7 : decode cX6_bestLaid 7 = .ok (.iconst 0, 1) := by decide +kernel
theorem dX6_bestLaid_8 : decode cX6_bestLaid 8 = .ok (.ireturn, 1) := by decide +kernel
theorem dX6_bestLaid_9 : decode cX6_bestLaid 9 = .ok (.ldc_w 303, 3) := by decide +kernel
theorem dX6_bestLaid_12 : decode cX6_bestLaid 12 = .ok (.istore_n 1, 1) := by decide +kernel
theorem dX6_bestLaid_13 : decode cX6_bestLaid 13 = .ok (.iconst 0, 1) := by decide +kernel
theorem dX6_bestLaid_14 : decode cX6_bestLaid 14 = .ok (.istore_n 2, 1) := by decide +kernel
theorem dX6_bestLaid_15 : decode cX6_bestLaid 15 = .ok (.iload_n 2, 1) := by decide +kernel
theorem dX6_bestLaid_16 : decode cX6_bestLaid 16 = .ok (.aload_n 0, 1) := by decide +kernel
theorem dX6_bestLaid_17 : decode cX6_bestLaid 17 = .ok (.getfield 45, 3) := by decide +kernel
theorem dX6_bestLaid_20 : decode cX6_bestLaid 20 = .ok (.iconst 0, 1) := by decide +kernel
theorem dX6_bestLaid_21 : decode cX6_bestLaid 21 = .ok (.iaload, 1) := by decide +kernel
theorem dX6_bestLaid_22 : decode cX6_bestLaid 22 = .ok (.if_icmp .ge 20, 3) := by decide +kernel
theorem dX6_bestLaid_25 : decode cX6_bestLaid 25 = .ok (.iload_n 1, 1) := by decide +kernel
theorem dX6_bestLaid_26 : decode cX6_bestLaid 26 = .ok (.aload_n 0, 1) := by decide +kernel
theorem dX6_bestLaid_27 : decode cX6_bestLaid 27 = .ok (.getfield 51, 3) := by decide +kernel
theorem dX6_bestLaid_30 : decode cX6_bestLaid 30 = .ok (.iload_n 2, 1) := by decide +kernel
theorem dX6_bestLaid_31 : decode cX6_bestLaid 31 = .ok (.iaload, 1) := by decide +kernel
theorem dX6_bestLaid_32 : decode cX6_bestLaid 32 = .ok (.invokestatic 87, 3) := by decide +kernel
theorem dX6_bestLaid_35 : decode cX6_bestLaid 35 = .ok (.istore_n 1, 1) := by decide +kernel
theorem dX6_bestLaid_36 : decode cX6_bestLaid 36 = .ok (.iinc 2 1, 3) := by decide +kernel
theorem dX6_bestLaid_39 : decode cX6_bestLaid 39 = .ok (.goto (-24), 3) := by decide +kernel
theorem dX6_bestLaid_42 : decode cX6_bestLaid 42 = .ok (.iload_n 1, 1) := by decide +kernel
theorem dX6_bestLaid_43 : decode cX6_bestLaid 43 = .ok (.ireturn, 1) := by decide +kernel
theorem dX6_bestNow_0 : decode cX6_bestNow 0 = .ok (.aload_n 0, 1) := by decide +kernel
theorem dX6_bestNow_1 : decode cX6_bestNow 1 = .ok (.invokevirtual 312, 3) := by decide +kernel
theorem dX6_bestNow_4 : decode cX6_bestNow 4 = .ok (.aload_n 0, 1) := by decide +kernel
theorem dX6_bestNow_5 : decode cX6_bestNow 5 = .ok (.invokevirtual 315, 3) := by decide +kernel
theorem dX6_bestNow_8 : decode cX6_bestNow 8 = .ok (.ireturn, 1) := by decide +kernel
theorem dX6_orNone_0 : decode cX6_orNone 0 = .ok (.iload_n 0, 1) := by decide +kernel
theorem dX6_orNone_1 : decode cX6_orNone 1 = .ok (.ldc_w 303, 3) := by decide +kernel
theorem dX6_orNone_4 : decode cX6_orNone 4 = .ok (.if_icmp .lt 7, 3) := by decide +kernel
theorem dX6_orNone_7 : decode cX6_orNone 7 = .ok (.iconst (-1), 1) := by decide +kernel
theorem dX6_orNone_8 : decode cX6_orNone 8 = .ok (.goto 4, 3) := by decide +kernel
theorem dX6_orNone_11 : decode cX6_orNone 11 = .ok (.iload_n 0, 1) := by decide +kernel
theorem dX6_orNone_12 : decode cX6_orNone 12 = .ok (.ireturn, 1) := by decide +kernel
theorem dX6_chooses_0 : decode cX6_chooses 0 = .ok (.aload_n 0, 1) := by decide +kernel
theorem dX6_chooses_1 : decode cX6_chooses 1 = .ok (.invokevirtual 318, 3) := by decide +kernel
theorem dX6_chooses_4 : decode cX6_chooses 4 = .ok (.istore_n 1, 1) := by decide +kernel
theorem dX6_chooses_5 : decode cX6_chooses 5 = .ok (.iconst 0, 1) := by decide +kernel
theorem dX6_chooses_6 : decode cX6_chooses 6 = .ok (.istore_n 2, 1) := by decide +kernel
theorem dX6_chooses_7 : decode cX6_chooses 7 = .ok (.iload_n 2, 1) := by decide +kernel
theorem dX6_chooses_8 : decode cX6_chooses 8 = .ok (.aload_n 0, 1) := by decide +kernel
theorem dX6_chooses_9 : decode cX6_chooses 9 = .ok (.invokevirtual 113, 3) := by decide +kernel
theorem dX6_chooses_12 : decode cX6_chooses 12 = .ok (.if_icmp .ge 65, 3) := by decide +kernel
theorem dX6_chooses_15 : decode cX6_chooses 15 = .ok (.iload_n 1, 1) := by decide +kernel
theorem dX6_chooses_16 : decode cX6_chooses 16 = .ok (.ldc_w 303, 3) := by decide +kernel
theorem dX6_chooses_19 : decode cX6_chooses 19 = .ok (.if_icmp .ge 58, 3) := by decide +kernel
theorem dX6_chooses_22 : decode cX6_chooses 22 = .ok (.bipush 10, 2) := by decide +kernel
theorem dX6_chooses_24 : decode cX6_chooses 24 = .ok (.iload_n 2, 1) := by decide +kernel
theorem dX6_chooses_25 : decode cX6_chooses 25 = .ok (.imul, 1) := by decide +kernel
theorem dX6_chooses_26 : decode cX6_chooses 26 = .ok (.istore_n 3, 1) := by decide +kernel
theorem dX6_chooses_27 : decode cX6_chooses 27 = .ok (.aload_n 0, 1) := by decide +kernel
theorem dX6_chooses_28 : decode cX6_chooses 28 = .ok (.getfield 51, 3) := by decide +kernel
theorem dX6_chooses_31 : decode cX6_chooses 31 = .ok (.iload_n 3, 1) := by decide +kernel
theorem dX6_chooses_32 : decode cX6_chooses 32 = .ok (.iaload, 1) := by decide +kernel
theorem dX6_chooses_33 : decode cX6_chooses 33 = .ok (.aload_n 0, 1) := by decide +kernel
theorem dX6_chooses_34 : decode cX6_chooses 34 = .ok (.iload_n 2, 1) := by decide +kernel
theorem dX6_chooses_35 : decode cX6_chooses 35 = .ok (.iload_n 3, 1) := by decide +kernel
theorem dX6_chooses_36 : decode cX6_chooses 36 = .ok (.invokevirtual 321, 3) := by decide +kernel
theorem dX6_chooses_39 : decode cX6_chooses 39 = .ok (.iadd, 1) := by decide +kernel
theorem dX6_chooses_40 : decode cX6_chooses 40 = .ok (.iload_n 1, 1) := by decide +kernel
theorem dX6_chooses_41 : decode cX6_chooses 41 = .ok (.if_icmp .eq 9, 3) := by decide +kernel
theorem dX6_chooses_44 : decode cX6_chooses 44 = .ok (.iinc 3 1, 3) := by decide +kernel
theorem dX6_chooses_47 : decode cX6_chooses 47 = .ok (.goto (-20), 3) := by decide +kernel
theorem dX6_chooses_50 : decode cX6_chooses 50 = .ok (.aload_n 0, 1) := by decide +kernel
theorem dX6_chooses_51 : decode cX6_chooses 51 = .ok (.getfield 51, 3) := by decide +kernel
theorem dX6_chooses_54 : decode cX6_chooses 54 = .ok (.iload_n 3, 1) := by decide +kernel
theorem dX6_chooses_55 : decode cX6_chooses 55 = .ok (.iaload, 1) := by decide +kernel
theorem dX6_chooses_56 : decode cX6_chooses 56 = .ok (.aload_n 0, 1) := by decide +kernel
theorem dX6_chooses_57 : decode cX6_chooses 57 = .ok (.getfield 42, 3) := by decide +kernel
theorem dX6_chooses_60 : decode cX6_chooses 60 = .ok (.iload_n 3, 1) := by decide +kernel
theorem dX6_chooses_61 : decode cX6_chooses 61 = .ok (.iaload, 1) := by decide +kernel
theorem dX6_chooses_62 : decode cX6_chooses 62 = .ok (.isub, 1) := by decide +kernel
theorem dX6_chooses_63 : decode cX6_chooses 63 = .ok (.istore_n 1, 1) := by decide +kernel
theorem dX6_chooses_64 : decode cX6_chooses 64 = .ok (.aload_n 0, 1) := by decide +kernel
theorem dX6_chooses_65 : decode cX6_chooses 65 = .ok (.getfield 48, 3) := by decide +kernel
theorem dX6_chooses_68 : decode cX6_chooses 68 = .ok (.iload_n 2, 1) := by decide +kernel
theorem dX6_chooses_69 : decode cX6_chooses 69 = .ok (.iload_n 3, 1) := by decide +kernel
theorem dX6_chooses_70 : decode cX6_chooses 70 = .ok (.iastore, 1) := by decide +kernel
theorem dX6_chooses_71 : decode cX6_chooses 71 = .ok (.iinc 2 1, 3) := by decide +kernel
theorem dX6_chooses_74 : decode cX6_chooses 74 = .ok (.goto (-67), 3) := by decide +kernel
theorem dX6_chooses_77 : decode cX6_chooses 77 = .ok (.iload_n 1, 1) := by decide +kernel
theorem dX6_chooses_78 : decode cX6_chooses 78 = .ok (.ldc_w 303, 3) := by decide +kernel
theorem dX6_chooses_81 : decode cX6_chooses 81 = .ok (.if_icmp .ge 7, 3) := by decide +kernel
theorem dX6_chooses_84 : decode cX6_chooses 84 = .ok (.iconst 1, 1) := by decide +kernel
theorem dX6_chooses_85 : decode cX6_chooses 85 = .ok (.goto 4, 3) := by decide +kernel
theorem dX6_chooses_88 : decode cX6_chooses 88 = .ok (.iconst 0, 1) := by decide +kernel
theorem dX6_chooses_89 : decode cX6_chooses 89 = .ok (.ireturn, 1) := by decide +kernel
theorem dX6_wayInto_0 : decode cX6_wayInto 0 = .ok (.iload_n 1, 1) := by decide +kernel
theorem dX6_wayInto_1 : decode cX6_wayInto 1 = .ok (.ifCond .ne 5, 3) := by decide +kernel
theorem dX6_wayInto_4 : decode cX6_wayInto 4 = .ok (.iconst 0, 1) := by decide +kernel
theorem dX6_wayInto_5 : decode cX6_wayInto 5 = .ok (.ireturn, 1) := by decide +kernel
theorem dX6_wayInto_6 : decode cX6_wayInto 6 = .ok (.aload_n 0, 1) := by decide +kernel
theorem dX6_wayInto_7 : decode cX6_wayInto 7 = .ok (.iload_n 1, 1) := by decide +kernel
theorem dX6_wayInto_8 : decode cX6_wayInto 8 = .ok (.iconst 1, 1) := by decide +kernel
theorem dX6_wayInto_9 : decode cX6_wayInto 9 = .ok (.isub, 1) := by decide +kernel
theorem dX6_wayInto_10 : decode cX6_wayInto 10 = .ok (.aload_n 0, 1) := by decide +kernel
theorem dX6_wayInto_11 : decode cX6_wayInto 11 = .ok (.getfield 39, 3) := by decide +kernel
theorem dX6_wayInto_14 : decode cX6_wayInto 14 = .ok (.aload_n 0, 1) := by decide +kernel
theorem dX6_wayInto_15 : decode cX6_wayInto 15 = .ok (.getfield 48, 3) := by decide +kernel
theorem dX6_wayInto_18 : decode cX6_wayInto 18 = .ok (.iload_n 1, 1) := by decide +kernel
theorem dX6_wayInto_19 : decode cX6_wayInto 19 = .ok (.iconst 1, 1) := by decide +kernel
theorem dX6_wayInto_20 : decode cX6_wayInto 20 = .ok (.isub, 1) := by decide +kernel
theorem dX6_wayInto_21 : decode cX6_wayInto 21 = .ok (.iaload, 1) := by decide +kernel
theorem dX6_wayInto_22 : decode cX6_wayInto 22 = .ok (.iaload, 1) := by decide +kernel
theorem dX6_wayInto_23 : decode cX6_wayInto 23 = .ok (.aload_n 0, 1) := by decide +kernel
theorem dX6_wayInto_24 : decode cX6_wayInto 24 = .ok (.getfield 39, 3) := by decide +kernel
theorem dX6_wayInto_27 : decode cX6_wayInto 27 = .ok (.iload_n 2, 1) := by decide +kernel
theorem dX6_wayInto_28 : decode cX6_wayInto 28 = .ok (.iaload, 1) := by decide +kernel
theorem dX6_wayInto_29 : decode cX6_wayInto 29 = .ok (.invokevirtual 304, 3) := by decide +kernel
theorem dX6_wayInto_32 : decode cX6_wayInto 32 = .ok (.istore_n 3, 1) := by decide +kernel
theorem dX6_wayInto_33 : decode cX6_wayInto 33 = .ok (.iload_n 3, 1) := by decide +kernel
theorem dX6_wayInto_34 : decode cX6_wayInto 34 = .ok (.iconst (-1), 1) := by decide +kernel
theorem dX6_wayInto_35 : decode cX6_wayInto 35 = .ok (.if_icmp .ne 9, 3) := by decide +kernel
theorem dX6_wayInto_38 : decode cX6_wayInto 38 = .ok (.ldc_w 303, 3) := by decide +kernel
theorem dX6_wayInto_41 : decode cX6_wayInto 41 = .ok (.goto 4, 3) := by decide +kernel
theorem dX6_wayInto_44 : decode cX6_wayInto 44 = .ok (.iload_n 3, 1) := by decide +kernel
theorem dX6_wayInto_45 : decode cX6_wayInto 45 = .ok (.ireturn, 1) := by decide +kernel
theorem dX6_keysAt_0 : decode cX6_keysAt 0 = .ok (.iconst (-1), 1) := by decide +kernel
theorem dX6_keysAt_1 : decode cX6_keysAt 1 = .ok (.istore_n 2, 1) := by decide +kernel
theorem dX6_keysAt_2 : decode cX6_keysAt 2 = .ok (.iconst 0, 1) := by decide +kernel
theorem dX6_keysAt_3 : decode cX6_keysAt 3 = .ok (.istore_n 3, 1) := by decide +kernel
theorem dX6_keysAt_4 : decode cX6_keysAt 4 = .ok (.iload_n 3, 1) := by decide +kernel
theorem dX6_keysAt_5 : decode cX6_keysAt 5 = .ok (.aload_n 0, 1) := by decide +kernel
theorem dX6_keysAt_6 : decode cX6_keysAt 6 = .ok (.invokevirtual 113, 3) := by decide +kernel
theorem dX6_keysAt_9 : decode cX6_keysAt 9 = .ok (.if_icmp .ge 71, 3) := by decide +kernel
theorem dX6_keysAt_12 : decode cX6_keysAt 12 = .ok (.iconst 0, 1) := by decide +kernel
theorem dX6_keysAt_13 : decode cX6_keysAt 13 = .ok (.istore 4, 2) := by decide +kernel
theorem dX6_keysAt_15 : decode cX6_keysAt 15 = .ok (.iload 4, 2) := by decide +kernel
theorem dX6_keysAt_17 : decode cX6_keysAt 17 = .ok (.aload_n 0, 1) := by decide +kernel
theorem dX6_keysAt_18 : decode cX6_keysAt 18 = .ok (.iload_n 3, 1) := by decide +kernel
theorem dX6_keysAt_19 : decode cX6_keysAt 19 = .ok (.invokevirtual 239, 3) := by decide +kernel
theorem dX6_keysAt_22 : decode cX6_keysAt 22 = .ok (.if_icmp .ge 52, 3) := by decide +kernel
theorem dX6_keysAt_25 : decode cX6_keysAt 25 = .ok (.iload_n 2, 1) := by decide +kernel
theorem dX6_keysAt_26 : decode cX6_keysAt 26 = .ok (.iconst (-1), 1) := by decide +kernel
theorem dX6_keysAt_27 : decode cX6_keysAt 27 = .ok (.if_icmp .ne 11, 3) := by decide +kernel
theorem dX6_keysAt_30 : decode cX6_keysAt 30 = .ok (.aload_n 0, 1) := by decide +kernel
theorem dX6_keysAt_31 : decode cX6_keysAt 31 = .ok (.iload_n 3, 1) := by decide +kernel
theorem dX6_keysAt_32 : decode cX6_keysAt 32 = .ok (.iload 4, 2) := by decide +kernel
theorem dX6_keysAt_34 : decode cX6_keysAt 34 = .ok (.invokevirtual 260, 3) := by decide +kernel
theorem dX6_keysAt_37 : decode cX6_keysAt 37 = .ok (.istore_n 2, 1) := by decide +kernel
theorem dX6_keysAt_38 : decode cX6_keysAt 38 = .ok (.iload_n 1, 1) := by decide +kernel
theorem dX6_keysAt_39 : decode cX6_keysAt 39 = .ok (.ifCond .eq 17, 3) := by decide +kernel
theorem dX6_keysAt_42 : decode cX6_keysAt 42 = .ok (.iload_n 2, 1) := by decide +kernel
theorem dX6_keysAt_43 : decode cX6_keysAt 43 = .ok (.aload_n 0, 1) := by decide +kernel
theorem dX6_keysAt_44 : decode cX6_keysAt 44 = .ok (.iload_n 3, 1) := by decide +kernel
theorem dX6_keysAt_45 : decode cX6_keysAt 45 = .ok (.iload 4, 2) := by decide +kernel
theorem dX6_keysAt_47 : decode cX6_keysAt 47 = .ok (.invokevirtual 260, 3) := by decide +kernel
theorem dX6_keysAt_50 : decode cX6_keysAt 50 = .ok (.invokestatic 92, 3) := by decide +kernel
theorem dX6_keysAt_53 : decode cX6_keysAt 53 = .ok (.goto 14, 3) := by decide +kernel
theorem dX6_keysAt_56 : decode cX6_keysAt 56 = .ok (.iload_n 2, 1) := by decide +kernel
theorem dX6_keysAt_57 : decode cX6_keysAt 57 = .ok (.aload_n 0, 1) := by decide +kernel
theorem dX6_keysAt_58 : decode cX6_keysAt 58 = .ok (.iload_n 3, 1) := by decide +kernel
theorem dX6_keysAt_59 : decode cX6_keysAt 59 = .ok (.iload 4, 2) := by decide +kernel
theorem dX6_keysAt_61 : decode cX6_keysAt 61 = .ok (.invokevirtual 260, 3) := by decide +kernel
theorem dX6_keysAt_64 : decode cX6_keysAt 64 = .ok (.invokestatic 87, 3) := by decide +kernel
theorem dX6_keysAt_67 : decode cX6_keysAt 67 = .ok (.istore_n 2, 1) := by decide +kernel
theorem dX6_keysAt_68 : decode cX6_keysAt 68 = .ok (.iinc 4 1, 3) := by decide +kernel
theorem dX6_keysAt_71 : decode cX6_keysAt 71 = .ok (.goto (-56), 3) := by decide +kernel
theorem dX6_keysAt_74 : decode cX6_keysAt 74 = .ok (.iinc 3 1, 3) := by decide +kernel
theorem dX6_keysAt_77 : decode cX6_keysAt 77 = .ok (.goto (-73), 3) := by decide +kernel
theorem dX6_keysAt_80 : decode cX6_keysAt 80 = .ok (.iload_n 2, 1) := by decide +kernel
theorem dX6_keysAt_81 : decode cX6_keysAt 81 = .ok (.ireturn, 1) := by decide +kernel
theorem dX6_blacks_0 : decode cX6_blacks 0 = .ok (.iconst 0, 1) := by decide +kernel
theorem dX6_blacks_1 : decode cX6_blacks 1 = .ok (.istore_n 1, 1) := by decide +kernel
theorem dX6_blacks_2 : decode cX6_blacks 2 = .ok (.iconst 0, 1) := by decide +kernel
theorem dX6_blacks_3 : decode cX6_blacks 3 = .ok (.istore_n 2, 1) := by decide +kernel
theorem dX6_blacks_4 : decode cX6_blacks 4 = .ok (.iload_n 2, 1) := by decide +kernel
theorem dX6_blacks_5 : decode cX6_blacks 5 = .ok (.aload_n 0, 1) := by decide +kernel
theorem dX6_blacks_6 : decode cX6_blacks 6 = .ok (.invokevirtual 113, 3) := by decide +kernel
theorem dX6_blacks_9 : decode cX6_blacks 9 = .ok (.if_icmp .ge 46, 3) := by decide +kernel
theorem dX6_blacks_12 : decode cX6_blacks 12 = .ok (.iconst 0, 1) := by decide +kernel
theorem dX6_blacks_13 : decode cX6_blacks 13 = .ok (.istore_n 3, 1) := by decide +kernel
theorem dX6_blacks_14 : decode cX6_blacks 14 = .ok (.iload_n 3, 1) := by decide +kernel
theorem dX6_blacks_15 : decode cX6_blacks 15 = .ok (.aload_n 0, 1) := by decide +kernel
theorem dX6_blacks_16 : decode cX6_blacks 16 = .ok (.iload_n 2, 1) := by decide +kernel
theorem dX6_blacks_17 : decode cX6_blacks 17 = .ok (.invokevirtual 239, 3) := by decide +kernel
theorem dX6_blacks_20 : decode cX6_blacks 20 = .ok (.if_icmp .ge 29, 3) := by decide +kernel
theorem dX6_blacks_23 : decode cX6_blacks 23 = .ok (.iload_n 1, 1) := by decide +kernel
theorem dX6_blacks_24 : decode cX6_blacks 24 = .ok (.aload_n 0, 1) := by decide +kernel
theorem dX6_blacks_25 : decode cX6_blacks 25 = .ok (.iload_n 2, 1) := by decide +kernel
theorem dX6_blacks_26 : decode cX6_blacks 26 = .ok (.iload_n 3, 1) := by decide +kernel
theorem dX6_blacks_27 : decode cX6_blacks 27 = .ok (.invokevirtual 260, 3) := by decide +kernel
theorem dX6_blacks_30 : decode cX6_blacks 30 = .ok (.invokestatic 263, 3) := by decide +kernel
theorem dX6_blacks_33 : decode cX6_blacks 33 = .ok (.ifCond .eq 7, 3) := by decide +kernel
theorem dX6_blacks_36 : decode cX6_blacks 36 = .ok (.iconst 1, 1) := by decide +kernel
theorem dX6_blacks_37 : decode cX6_blacks 37 = .ok (.goto 4, 3) := by decide +kernel
theorem dX6_blacks_40 : decode cX6_blacks 40 = .ok (.iconst 0, 1) := by decide +kernel
theorem dX6_blacks_41 : decode cX6_blacks 41 = .ok (.iadd, 1) := by decide +kernel
theorem dX6_blacks_42 : decode cX6_blacks 42 = .ok (.istore_n 1, 1) := by decide +kernel
theorem dX6_blacks_43 : decode cX6_blacks 43 = .ok (.iinc 3 1, 3) := by decide +kernel
theorem dX6_blacks_46 : decode cX6_blacks 46 = .ok (.goto (-32), 3) := by decide +kernel
theorem dX6_blacks_49 : decode cX6_blacks 49 = .ok (.iinc 2 1, 3) := by decide +kernel
theorem dX6_blacks_52 : decode cX6_blacks 52 = .ok (.goto (-48), 3) := by decide +kernel
theorem dX6_blacks_55 : decode cX6_blacks 55 = .ok (.iload_n 1, 1) := by decide +kernel
theorem dX6_blacks_56 : decode cX6_blacks 56 = .ok (.ireturn, 1) := by decide +kernel
theorem dX6_freePassages_0 : decode cX6_freePassages 0 = .ok (.iconst 0, 1) := by decide +kernel
theorem dX6_freePassages_1 : decode cX6_freePassages 1 = .ok (.istore_n 1, 1) := by decide +kernel
theorem dX6_freePassages_2 : decode cX6_freePassages 2 = .ok (.iconst 0, 1) := by decide +kernel
theorem dX6_freePassages_3 : decode cX6_freePassages 3 = .ok (.istore_n 2, 1) := by decide +kernel
theorem dX6_freePassages_4 : decode cX6_freePassages 4 = .ok (.iload_n 2, 1) := by decide +kernel
theorem dX6_freePassages_5 : decode cX6_freePassages 5 = .ok (.iconst 1, 1) := by decide +kernel
theorem dX6_freePassages_6 : decode cX6_freePassages 6 = .ok (.iadd, 1) := by decide +kernel
theorem dX6_freePassages_7 : decode cX6_freePassages 7 = .ok (.aload_n 0, 1) := by decide +kernel
theorem dX6_freePassages_8 : decode cX6_freePassages 8 = .ok (.invokevirtual 113, 3) := by decide +kernel
theorem dX6_freePassages_11 : decode cX6_freePassages 11 = .ok (.if_icmp .ge 25, 3) := by decide +kernel
theorem dX6_freePassages_14 : decode cX6_freePassages 14 = .ok (.iload_n 1, 1) := by decide +kernel
theorem dX6_freePassages_15 : decode cX6_freePassages 15 = .ok (.aload_n 0, 1) := by decide +kernel
theorem dX6_freePassages_16 : decode cX6_freePassages 16 = .ok (.iload_n 2, 1) := by decide +kernel
theorem dX6_freePassages_17 : decode cX6_freePassages 17 = .ok (.invokevirtual 280, 3) := by decide +kernel
theorem dX6_freePassages_20 : decode cX6_freePassages 20 = .ok (.ifCond .eq 7, 3) := by decide +kernel
theorem dX6_freePassages_23 : decode cX6_freePassages 23 = .ok (.iconst 1, 1) := by decide +kernel
theorem dX6_freePassages_24 : decode cX6_freePassages 24 = .ok (.goto 4, 3) := by decide +kernel
theorem dX6_freePassages_27 : decode cX6_freePassages 27 = .ok (.iconst 0, 1) := by decide +kernel
theorem dX6_freePassages_28 : decode cX6_freePassages 28 = .ok (.iadd, 1) := by decide +kernel
theorem dX6_freePassages_29 : decode cX6_freePassages 29 = .ok (.istore_n 1, 1) := by decide +kernel
theorem dX6_freePassages_30 : decode cX6_freePassages 30 = .ok (.iinc 2 1, 3) := by decide +kernel
theorem dX6_freePassages_33 : decode cX6_freePassages 33 = .ok (.goto (-29), 3) := by decide +kernel
theorem dX6_freePassages_36 : decode cX6_freePassages 36 = .ok (.iload_n 1, 1) := by decide +kernel
theorem dX6_freePassages_37 : decode cX6_freePassages 37 = .ok (.ireturn, 1) := by decide +kernel
theorem dX6_count_0 : decode cX6_count 0 = .ok (.aload_n 0, 1) := by decide +kernel
theorem dX6_count_1 : decode cX6_count 1 = .ok (.iload_n 1, 1) := by decide +kernel
theorem dX6_count_2 : decode cX6_count 2 = .ok (.iconst 0, 1) := by decide +kernel
theorem dX6_count_3 : decode cX6_count 3 = .ok (.bipush 6, 2) := by decide +kernel
theorem dX6_count_5 : decode cX6_count 5 = .ok (.invokestatic 105, 3) := by decide +kernel
theorem dX6_count_8 : decode cX6_count 8 = .ok (.ifCond .eq 7, 3) := by decide +kernel
theorem dX6_count_11 : decode cX6_count 11 = .ok (.iconst 0, 1) := by decide +kernel
theorem dX6_count_12 : decode cX6_count 12 = .ok (.goto 4, 3) := by decide +kernel
theorem dX6_count_15 : decode cX6_count 15 = .ok (.iconst 1, 1) := by decide +kernel
theorem dX6_count_16 : decode cX6_count 16 = .ok (.putfield 95, 3) := by decide +kernel
theorem dX6_count_19 : decode cX6_count 19 = .ok (.aload_n 0, 1) := by decide +kernel
theorem dX6_count_20 : decode cX6_count 20 = .ok (.getfield 95, 3) := by decide +kernel
theorem dX6_count_23 : decode cX6_count 23 = .ok (.ifCond .le 5, 3) := by decide +kernel
theorem dX6_count_26 : decode cX6_count 26 = .ok (.iconst 0, 1) := by decide +kernel
theorem dX6_count_27 : decode cX6_count 27 = .ok (.ireturn, 1) := by decide +kernel
theorem dX6_count_28 : decode cX6_count 28 = .ok (.iload_n 1, 1) := by decide +kernel
theorem dX6_count_29 : decode cX6_count 29 = .ok (.tableswitch 73 0 5 #[39, 44, 49, 56, 62, 68], 39) := by decide +kernel
theorem dX6_count_68 : decode cX6_count 68 = .ok (.aload_n 0, 1) := by decide +kernel
theorem dX6_count_69 : decode cX6_count 69 = .ok (.invokevirtual 113, 3) := by decide +kernel
theorem dX6_count_72 : decode cX6_count 72 = .ok (.ireturn, 1) := by decide +kernel
theorem dX6_count_73 : decode cX6_count 73 = .ok (.aload_n 0, 1) := by decide +kernel
theorem dX6_count_74 : decode cX6_count 74 = .ok (.invokevirtual 324, 3) := by decide +kernel
theorem dX6_count_77 : decode cX6_count 77 = .ok (.ireturn, 1) := by decide +kernel
theorem dX6_count_78 : decode cX6_count 78 = .ok (.aload_n 0, 1) := by decide +kernel
theorem dX6_count_79 : decode cX6_count 79 = .ok (.getfield 7, 3) := by decide +kernel
theorem dX6_count_82 : decode cX6_count 82 = .ok (.iconst 1, 1) := by decide +kernel
theorem dX6_count_83 : decode cX6_count 83 = .ok (.iaload, 1) := by decide +kernel
theorem dX6_count_84 : decode cX6_count 84 = .ok (.ireturn, 1) := by decide +kernel
theorem dX6_count_85 : decode cX6_count 85 = .ok (.aload_n 0, 1) := by decide +kernel
theorem dX6_count_86 : decode cX6_count 86 = .ok (.iconst 0, 1) := by decide +kernel
theorem dX6_count_87 : decode cX6_count 87 = .ok (.invokevirtual 327, 3) := by decide +kernel
theorem dX6_count_90 : decode cX6_count 90 = .ok (.ireturn, 1) := by decide +kernel
theorem dX6_count_91 : decode cX6_count 91 = .ok (.aload_n 0, 1) := by decide +kernel
theorem dX6_count_92 : decode cX6_count 92 = .ok (.iconst 1, 1) := by decide +kernel
theorem dX6_count_93 : decode cX6_count 93 = .ok (.invokevirtual 327, 3) := by decide +kernel
theorem dX6_count_96 : decode cX6_count 96 = .ok (.ireturn, 1) := by decide +kernel
theorem dX6_count_97 : decode cX6_count 97 = .ok (.aload_n 0, 1) := by decide +kernel
theorem dX6_count_98 : decode cX6_count 98 = .ok (.invokevirtual 331, 3) := by decide +kernel
theorem dX6_count_101 : decode cX6_count 101 = .ok (.ireturn, 1) := by decide +kernel
theorem dX6_count_102 : decode cX6_count 102 = .ok (.aload_n 0, 1) := by decide +kernel
theorem dX6_count_103 : decode cX6_count 103 = .ok (.invokevirtual 334, 3) := by decide +kernel
theorem dX6_count_106 : decode cX6_count 106 = .ok (.ireturn, 1) := by decide +kernel
theorem dX6_event_0 : decode cX6_event 0 = .ok (.aload_n 0, 1) := by decide +kernel
theorem dX6_event_1 : decode cX6_event 1 = .ok (.aload_n 0, 1) := by decide +kernel
theorem dX6_event_2 : decode cX6_event 2 = .ok (.iload_n 1, 1) := by decide +kernel
theorem dX6_event_3 : decode cX6_event 3 = .ok (.invokevirtual 236, 3) := by decide +kernel
theorem dX6_event_6 : decode cX6_event 6 = .ok (.ifCond .ne 7, 3) := by decide +kernel
theorem dX6_event_9 : decode cX6_event 9 = .ok (.iconst 1, 1) := by decide +kernel
theorem dX6_event_10 : decode cX6_event 10 = .ok (.goto 17, 3) := by decide +kernel
theorem dX6_event_13 : decode cX6_event 13 = .ok (.iload_n 2, 1) := by decide +kernel
theorem dX6_event_14 : decode cX6_event 14 = .ok (.iconst 0, 1) := by decide +kernel
theorem dX6_event_15 : decode cX6_event 15 = .ok (.iconst 2, 1) := by decide +kernel
theorem dX6_event_16 : decode cX6_event 16 = .ok (.invokestatic 105, 3) := by decide +kernel
theorem dX6_event_19 : decode cX6_event 19 = .ok (.ifCond .eq 7, 3) := by decide +kernel
theorem dX6_event_22 : decode cX6_event 22 = .ok (.iconst 0, 1) := by decide +kernel
theorem dX6_event_23 : decode cX6_event 23 = .ok (.goto 4, 3) := by decide +kernel
theorem dX6_event_26 : decode cX6_event 26 = .ok (.iconst 2, 1) := by decide +kernel
theorem dX6_event_27 : decode cX6_event 27 = .ok (.putfield 95, 3) := by decide +kernel
theorem dX6_event_30 : decode cX6_event 30 = .ok (.aload_n 0, 1) := by decide +kernel
theorem dX6_event_31 : decode cX6_event 31 = .ok (.getfield 95, 3) := by decide +kernel
theorem dX6_event_34 : decode cX6_event 34 = .ok (.ifCond .le 5, 3) := by decide +kernel
theorem dX6_event_37 : decode cX6_event 37 = .ok (.iconst 0, 1) := by decide +kernel
theorem dX6_event_38 : decode cX6_event 38 = .ok (.ireturn, 1) := by decide +kernel
theorem dX6_event_39 : decode cX6_event 39 = .ok (.aload_n 0, 1) := by decide +kernel
theorem dX6_event_40 : decode cX6_event 40 = .ok (.invokevirtual 297, 3) := by decide +kernel
theorem dX6_event_43 : decode cX6_event 43 = .ok (.iload_n 2, 1) := by decide +kernel
theorem dX6_event_44 : decode cX6_event 44 = .ok (.ifCond .ne 11, 3) := by decide +kernel
theorem dX6_event_47 : decode cX6_event 47 = .ok (.aload_n 0, 1) := by decide +kernel
theorem dX6_event_48 : decode cX6_event 48 = .ok (.iload_n 1, 1) := by decide +kernel
theorem dX6_event_49 : decode cX6_event 49 = .ok (.invokevirtual 239, 3) := by decide +kernel
theorem dX6_event_52 : decode cX6_event 52 = .ok (.goto 22, 3) := by decide +kernel
theorem dX6_event_55 : decode cX6_event 55 = .ok (.iload_n 2, 1) := by decide +kernel
theorem dX6_event_56 : decode cX6_event 56 = .ok (.iconst 1, 1) := by decide +kernel
theorem dX6_event_57 : decode cX6_event 57 = .ok (.if_icmp .ne 11, 3) := by decide +kernel
theorem dX6_event_60 : decode cX6_event 60 = .ok (.aload_n 0, 1) := by decide +kernel
theorem dX6_event_61 : decode cX6_event 61 = .ok (.iload_n 1, 1) := by decide +kernel
theorem dX6_event_62 : decode cX6_event 62 = .ok (.invokevirtual 242, 3) := by decide +kernel
theorem dX6_event_65 : decode cX6_event 65 = .ok (.goto 9, 3) := by decide +kernel
theorem dX6_event_68 : decode cX6_event 68 = .ok (.aload_n 0, 1) := by decide +kernel
theorem dX6_event_69 : decode cX6_event 69 = .ok (.getfield 45, 3) := by decide +kernel
theorem dX6_event_72 : decode cX6_event 72 = .ok (.iload_n 1, 1) := by decide +kernel
theorem dX6_event_73 : decode cX6_event 73 = .ok (.iaload, 1) := by decide +kernel
theorem dX6_event_74 : decode cX6_event 74 = .ok (.ireturn, 1) := by decide +kernel
theorem dX6_note_0 : decode cX6_note 0 = .ok (.aload_n 0, 1) := by decide +kernel
theorem dX6_note_1 : decode cX6_note 1 = .ok (.aload_n 0, 1) := by decide +kernel
theorem dX6_note_2 : decode cX6_note 2 = .ok (.iload_n 1, 1) := by decide +kernel
theorem dX6_note_3 : decode cX6_note 3 = .ok (.iload_n 2, 1) := by decide +kernel
theorem dX6_note_4 : decode cX6_note 4 = .ok (.invokevirtual 337, 3) := by decide +kernel
theorem dX6_note_7 : decode cX6_note 7 = .ok (.ifCond .ne 7, 3) := by decide +kernel
theorem dX6_note_10 : decode cX6_note 10 = .ok (.iconst 1, 1) := by decide +kernel
theorem dX6_note_11 : decode cX6_note 11 = .ok (.goto 17, 3) := by decide +kernel
theorem dX6_note_14 : decode cX6_note 14 = .ok (.iload_n 3, 1) := by decide +kernel
theorem dX6_note_15 : decode cX6_note 15 = .ok (.iconst 0, 1) := by decide +kernel
theorem dX6_note_16 : decode cX6_note 16 = .ok (.iconst 1, 1) := by decide +kernel
theorem dX6_note_17 : decode cX6_note 17 = .ok (.invokestatic 105, 3) := by decide +kernel
theorem dX6_note_20 : decode cX6_note 20 = .ok (.ifCond .eq 7, 3) := by decide +kernel
theorem dX6_note_23 : decode cX6_note 23 = .ok (.iconst 0, 1) := by decide +kernel
theorem dX6_note_24 : decode cX6_note 24 = .ok (.goto 4, 3) := by decide +kernel
theorem dX6_note_27 : decode cX6_note 27 = .ok (.iconst 2, 1) := by decide +kernel
theorem dX6_note_28 : decode cX6_note 28 = .ok (.putfield 95, 3) := by decide +kernel
theorem dX6_note_31 : decode cX6_note 31 = .ok (.aload_n 0, 1) := by decide +kernel
theorem dX6_note_32 : decode cX6_note 32 = .ok (.getfield 95, 3) := by decide +kernel
theorem dX6_note_35 : decode cX6_note 35 = .ok (.ifCond .le 5, 3) := by decide +kernel
theorem dX6_note_38 : decode cX6_note 38 = .ok (.iconst 0, 1) := by decide +kernel
theorem dX6_note_39 : decode cX6_note 39 = .ok (.ireturn, 1) := by decide +kernel
theorem dX6_note_40 : decode cX6_note 40 = .ok (.iload_n 3, 1) := by decide +kernel
theorem dX6_note_41 : decode cX6_note 41 = .ok (.ifCond .ne 12, 3) := by decide +kernel
theorem dX6_note_44 : decode cX6_note 44 = .ok (.aload_n 0, 1) := by decide +kernel
theorem dX6_note_45 : decode cX6_note 45 = .ok (.iload_n 1, 1) := by decide +kernel
theorem dX6_note_46 : decode cX6_note 46 = .ok (.iload_n 2, 1) := by decide +kernel
theorem dX6_note_47 : decode cX6_note 47 = .ok (.invokevirtual 260, 3) := by decide +kernel
theorem dX6_note_50 : decode cX6_note 50 = .ok (.goto 9, 3) := by decide +kernel
theorem dX6_note_53 : decode cX6_note 53 = .ok (.aload_n 0, 1) := by decide +kernel
theorem dX6_note_54 : decode cX6_note 54 = .ok (.iload_n 1, 1) := by decide +kernel
theorem dX6_note_55 : decode cX6_note 55 = .ok (.iload_n 2, 1) := by decide +kernel
theorem dX6_note_56 : decode cX6_note 56 = .ok (.invokevirtual 251, 3) := by decide +kernel
theorem dX6_note_59 : decode cX6_note 59 = .ok (.ireturn, 1) := by decide +kernel
theorem dX6_weight_0 : decode cX6_weight 0 = .ok (.aload_n 0, 1) := by decide +kernel
theorem dX6_weight_1 : decode cX6_weight 1 = .ok (.iload_n 1, 1) := by decide +kernel
theorem dX6_weight_2 : decode cX6_weight 2 = .ok (.iconst 0, 1) := by decide +kernel
theorem dX6_weight_3 : decode cX6_weight 3 = .ok (.bipush 9, 2) := by decide +kernel
theorem dX6_weight_5 : decode cX6_weight 5 = .ok (.invokestatic 105, 3) := by decide +kernel
theorem dX6_weight_8 : decode cX6_weight 8 = .ok (.ifCond .eq 7, 3) := by decide +kernel
theorem dX6_weight_11 : decode cX6_weight 11 = .ok (.iconst 0, 1) := by decide +kernel
theorem dX6_weight_12 : decode cX6_weight 12 = .ok (.goto 4, 3) := by decide +kernel
theorem dX6_weight_15 : decode cX6_weight 15 = .ok (.iconst 1, 1) := by decide +kernel
theorem dX6_weight_16 : decode cX6_weight 16 = .ok (.putfield 95, 3) := by decide +kernel
theorem dX6_weight_19 : decode cX6_weight 19 = .ok (.aload_n 0, 1) := by decide +kernel
theorem dX6_weight_20 : decode cX6_weight 20 = .ok (.getfield 95, 3) := by decide +kernel
theorem dX6_weight_23 : decode cX6_weight 23 = .ok (.ifCond .le 7, 3) := by decide +kernel
theorem dX6_weight_26 : decode cX6_weight 26 = .ok (.iconst 0, 1) := by decide +kernel
theorem dX6_weight_27 : decode cX6_weight 27 = .ok (.goto 8, 3) := by decide +kernel
theorem dX6_weight_30 : decode cX6_weight 30 = .ok (.aload_n 0, 1) := by decide +kernel
theorem dX6_weight_31 : decode cX6_weight 31 = .ok (.iload_n 1, 1) := by decide +kernel
theorem dX6_weight_32 : decode cX6_weight 32 = .ok (.invokevirtual 245, 3) := by decide +kernel
theorem dX6_weight_35 : decode cX6_weight 35 = .ok (.ireturn, 1) := by decide +kernel
theorem dX6_span_0 : decode cX6_span 0 = .ok (.aload_n 0, 1) := by decide +kernel
theorem dX6_span_1 : decode cX6_span 1 = .ok (.iload_n 1, 1) := by decide +kernel
theorem dX6_span_2 : decode cX6_span 2 = .ok (.invokestatic 341, 3) := by decide +kernel
theorem dX6_span_5 : decode cX6_span 5 = .ok (.ifCond .eq 10, 3) := by decide +kernel
theorem dX6_span_8 : decode cX6_span 8 = .ok (.iload_n 2, 1) := by decide +kernel
theorem dX6_span_9 : decode cX6_span 9 = .ok (.invokestatic 341, 3) := by decide +kernel
theorem dX6_span_12 : decode cX6_span 12 = .ok (.ifCond .ne 7, 3) := by decide +kernel
theorem dX6_span_15 : decode cX6_span 15 = .ok (.iconst 1, 1) := by decide +kernel
theorem dX6_span_16 : decode cX6_span 16 = .ok (.goto 22, 3) := by decide +kernel
theorem dX6_span_19 : decode cX6_span 19 = .ok (.iload_n 1, 1) := by decide +kernel
theorem dX6_span_20 : decode cX6_span 20 = .ok (.iload_n 2, 1) := by decide +kernel
theorem dX6_span_21 : decode cX6_span 21 = .ok (.if_icmp .eq 16, 3) := by decide +kernel
theorem dX6_span_24 : decode cX6_span 24 = .ok (.iload_n 3, 1) := by decide +kernel
theorem dX6_span_25 : decode cX6_span 25 = .ok (.iconst 0, 1) := by decide +kernel
theorem dX6_span_26 : decode cX6_span 26 = .ok (.iconst 2, 1) := by decide +kernel
theorem dX6_span_27 : decode cX6_span 27 = .ok (.invokestatic 105, 3) := by decide +kernel
theorem dX6_span_30 : decode cX6_span 30 = .ok (.ifCond .eq 7, 3) := by decide +kernel
theorem dX6_span_33 : decode cX6_span 33 = .ok (.iconst 0, 1) := by decide +kernel
theorem dX6_span_34 : decode cX6_span 34 = .ok (.goto 4, 3) := by decide +kernel
theorem dX6_span_37 : decode cX6_span 37 = .ok (.iconst 2, 1) := by decide +kernel
theorem dX6_span_38 : decode cX6_span 38 = .ok (.putfield 95, 3) := by decide +kernel
theorem dX6_span_41 : decode cX6_span 41 = .ok (.aload_n 0, 1) := by decide +kernel
theorem dX6_span_42 : decode cX6_span 42 = .ok (.getfield 95, 3) := by decide +kernel
theorem dX6_span_45 : decode cX6_span 45 = .ok (.ifCond .le 7, 3) := by decide +kernel
theorem dX6_span_48 : decode cX6_span 48 = .ok (.iconst 0, 1) := by decide +kernel
theorem dX6_span_49 : decode cX6_span 49 = .ok (.goto 15, 3) := by decide +kernel
theorem dX6_span_52 : decode cX6_span 52 = .ok (.aload_n 0, 1) := by decide +kernel
theorem dX6_span_53 : decode cX6_span 53 = .ok (.getfield 7, 3) := by decide +kernel
theorem dX6_span_56 : decode cX6_span 56 = .ok (.iload_n 1, 1) := by decide +kernel
theorem dX6_span_57 : decode cX6_span 57 = .ok (.iload_n 2, 1) := by decide +kernel
theorem dX6_span_58 : decode cX6_span 58 = .ok (.invokestatic 76, 3) := by decide +kernel
theorem dX6_span_61 : decode cX6_span 61 = .ok (.iload_n 3, 1) := by decide +kernel
theorem dX6_span_62 : decode cX6_span 62 = .ok (.iadd, 1) := by decide +kernel
theorem dX6_span_63 : decode cX6_span 63 = .ok (.iaload, 1) := by decide +kernel
theorem dX6_span_64 : decode cX6_span 64 = .ok (.ireturn, 1) := by decide +kernel
theorem dX6_isOnBoard_0 : decode cX6_isOnBoard 0 = .ok (.iload_n 0, 1) := by decide +kernel
theorem dX6_isOnBoard_1 : decode cX6_isOnBoard 1 = .ok (.bipush 21, 2) := by decide +kernel
theorem dX6_isOnBoard_3 : decode cX6_isOnBoard 3 = .ok (.bipush 108, 2) := by decide +kernel
theorem dX6_isOnBoard_5 : decode cX6_isOnBoard 5 = .ok (.invokestatic 105, 3) := by decide +kernel
theorem dX6_isOnBoard_8 : decode cX6_isOnBoard 8 = .ok (.ireturn, 1) := by decide +kernel
theorem dX6_link_0 : decode cX6_link 0 = .ok (.aload_n 0, 1) := by decide +kernel
theorem dX6_link_1 : decode cX6_link 1 = .ok (.iload_n 1, 1) := by decide +kernel
theorem dX6_link_2 : decode cX6_link 2 = .ok (.invokestatic 341, 3) := by decide +kernel
theorem dX6_link_5 : decode cX6_link 5 = .ok (.ifCond .eq 10, 3) := by decide +kernel
theorem dX6_link_8 : decode cX6_link 8 = .ok (.iload_n 3, 1) := by decide +kernel
theorem dX6_link_9 : decode cX6_link 9 = .ok (.invokestatic 341, 3) := by decide +kernel
theorem dX6_link_12 : decode cX6_link 12 = .ok (.ifCond .ne 7, 3) := by decide +kernel
theorem dX6_link_15 : decode cX6_link 15 = .ok (.iconst 1, 1) := by decide +kernel
theorem dX6_link_16 : decode cX6_link 16 = .ok (.goto 23, 3) := by decide +kernel
theorem dX6_link_19 : decode cX6_link 19 = .ok (.iload_n 2, 1) := by decide +kernel
theorem dX6_link_20 : decode cX6_link 20 = .ok (.invokestatic 344, 3) := by decide +kernel
theorem dX6_link_23 : decode cX6_link 23 = .ok (.ifCond .eq 15, 3) := by decide +kernel
theorem dX6_link_26 : decode cX6_link 26 = .ok (.iload 4, 2) := by decide +kernel
theorem dX6_link_28 : decode cX6_link 28 = .ok (.invokestatic 344, 3) := by decide +kernel
theorem dX6_link_31 : decode cX6_link 31 = .ok (.ifCond .eq 7, 3) := by decide +kernel
theorem dX6_link_34 : decode cX6_link 34 = .ok (.iconst 0, 1) := by decide +kernel
theorem dX6_link_35 : decode cX6_link 35 = .ok (.goto 4, 3) := by decide +kernel
theorem dX6_link_38 : decode cX6_link 38 = .ok (.iconst 2, 1) := by decide +kernel
theorem dX6_link_39 : decode cX6_link 39 = .ok (.putfield 95, 3) := by decide +kernel
theorem dX6_link_42 : decode cX6_link 42 = .ok (.aload_n 0, 1) := by decide +kernel
theorem dX6_link_43 : decode cX6_link 43 = .ok (.getfield 95, 3) := by decide +kernel
theorem dX6_link_46 : decode cX6_link 46 = .ok (.ifCond .le 7, 3) := by decide +kernel
theorem dX6_link_49 : decode cX6_link 49 = .ok (.iconst 0, 1) := by decide +kernel
theorem dX6_link_50 : decode cX6_link 50 = .ok (.goto 12, 3) := by decide +kernel
theorem dX6_link_53 : decode cX6_link 53 = .ok (.aload_n 0, 1) := by decide +kernel
theorem dX6_link_54 : decode cX6_link 54 = .ok (.iload_n 1, 1) := by decide +kernel
theorem dX6_link_55 : decode cX6_link 55 = .ok (.iload_n 2, 1) := by decide +kernel
theorem dX6_link_56 : decode cX6_link 56 = .ok (.iload_n 3, 1) := by decide +kernel
theorem dX6_link_57 : decode cX6_link 57 = .ok (.iload 4, 2) := by decide +kernel
theorem dX6_link_59 : decode cX6_link 59 = .ok (.invokevirtual 276, 3) := by decide +kernel
theorem dX6_link_62 : decode cX6_link 62 = .ok (.ireturn, 1) := by decide +kernel
theorem dX6_best_0 : decode cX6_best 0 = .ok (.aload_n 0, 1) := by decide +kernel
theorem dX6_best_1 : decode cX6_best 1 = .ok (.iconst 0, 1) := by decide +kernel
theorem dX6_best_2 : decode cX6_best 2 = .ok (.putfield 95, 3) := by decide +kernel
theorem dX6_best_5 : decode cX6_best 5 = .ok (.aload_n 0, 1) := by decide +kernel
theorem dX6_best_6 : decode cX6_best 6 = .ok (.invokevirtual 318, 3) := by decide +kernel
theorem dX6_best_9 : decode cX6_best 9 = .ok (.invokestatic 347, 3) := by decide +kernel
theorem dX6_best_12 : decode cX6_best 12 = .ok (.ireturn, 1) := by decide +kernel
theorem dX6_finger_0 : decode cX6_finger 0 = .ok (.aload_n 0, 1) := by decide +kernel
theorem dX6_finger_1 : decode cX6_finger 1 = .ok (.aload_n 0, 1) := by decide +kernel
theorem dX6_finger_2 : decode cX6_finger 2 = .ok (.iload_n 1, 1) := by decide +kernel
theorem dX6_finger_3 : decode cX6_finger 3 = .ok (.iload_n 2, 1) := by decide +kernel
theorem dX6_finger_4 : decode cX6_finger 4 = .ok (.invokevirtual 337, 3) := by decide +kernel
theorem dX6_finger_7 : decode cX6_finger 7 = .ok (.ifCond .ne 7, 3) := by decide +kernel
theorem dX6_finger_10 : decode cX6_finger 10 = .ok (.iconst 1, 1) := by decide +kernel
theorem dX6_finger_11 : decode cX6_finger 11 = .ok (.goto 15, 3) := by decide +kernel
theorem dX6_finger_14 : decode cX6_finger 14 = .ok (.aload_n 0, 1) := by decide +kernel
theorem dX6_finger_15 : decode cX6_finger 15 = .ok (.invokevirtual 350, 3) := by decide +kernel
theorem dX6_finger_18 : decode cX6_finger 18 = .ok (.ifCond .eq 7, 3) := by decide +kernel
theorem dX6_finger_21 : decode cX6_finger 21 = .ok (.iconst 0, 1) := by decide +kernel
theorem dX6_finger_22 : decode cX6_finger 22 = .ok (.goto 4, 3) := by decide +kernel
theorem dX6_finger_25 : decode cX6_finger 25 = .ok (.iconst 2, 1) := by decide +kernel
theorem dX6_finger_26 : decode cX6_finger 26 = .ok (.putfield 95, 3) := by decide +kernel
theorem dX6_finger_29 : decode cX6_finger 29 = .ok (.aload_n 0, 1) := by decide +kernel
theorem dX6_finger_30 : decode cX6_finger 30 = .ok (.getfield 95, 3) := by decide +kernel
theorem dX6_finger_33 : decode cX6_finger 33 = .ok (.ifCond .le 7, 3) := by decide +kernel
theorem dX6_finger_36 : decode cX6_finger 36 = .ok (.iconst 0, 1) := by decide +kernel
theorem dX6_finger_37 : decode cX6_finger 37 = .ok (.goto 18, 3) := by decide +kernel
theorem dX6_finger_40 : decode cX6_finger 40 = .ok (.aload_n 0, 1) := by decide +kernel
theorem dX6_finger_41 : decode cX6_finger 41 = .ok (.getfield 39, 3) := by decide +kernel
theorem dX6_finger_44 : decode cX6_finger 44 = .ok (.aload_n 0, 1) := by decide +kernel
theorem dX6_finger_45 : decode cX6_finger 45 = .ok (.getfield 48, 3) := by decide +kernel
theorem dX6_finger_48 : decode cX6_finger 48 = .ok (.iload_n 1, 1) := by decide +kernel
theorem dX6_finger_49 : decode cX6_finger 49 = .ok (.iaload, 1) := by decide +kernel
theorem dX6_finger_50 : decode cX6_finger 50 = .ok (.iaload, 1) := by decide +kernel
theorem dX6_finger_51 : decode cX6_finger 51 = .ok (.iload_n 2, 1) := by decide +kernel
theorem dX6_finger_52 : decode cX6_finger 52 = .ok (.invokestatic 266, 3) := by decide +kernel
theorem dX6_finger_55 : decode cX6_finger 55 = .ok (.ireturn, 1) := by decide +kernel
theorem dX6_part_0 : decode cX6_part 0 = .ok (.aload_n 0, 1) := by decide +kernel
theorem dX6_part_1 : decode cX6_part 1 = .ok (.aload_n 0, 1) := by decide +kernel
theorem dX6_part_2 : decode cX6_part 2 = .ok (.iload_n 1, 1) := by decide +kernel
theorem dX6_part_3 : decode cX6_part 3 = .ok (.invokevirtual 236, 3) := by decide +kernel
theorem dX6_part_6 : decode cX6_part 6 = .ok (.ifCond .ne 7, 3) := by decide +kernel
theorem dX6_part_9 : decode cX6_part 9 = .ok (.iconst 1, 1) := by decide +kernel
theorem dX6_part_10 : decode cX6_part 10 = .ok (.goto 28, 3) := by decide +kernel
theorem dX6_part_13 : decode cX6_part 13 = .ok (.iload_n 2, 1) := by decide +kernel
theorem dX6_part_14 : decode cX6_part 14 = .ok (.iconst 0, 1) := by decide +kernel
theorem dX6_part_15 : decode cX6_part 15 = .ok (.iconst 2, 1) := by decide +kernel
theorem dX6_part_16 : decode cX6_part 16 = .ok (.invokestatic 105, 3) := by decide +kernel
theorem dX6_part_19 : decode cX6_part 19 = .ok (.ifCond .ne 7, 3) := by decide +kernel
theorem dX6_part_22 : decode cX6_part 22 = .ok (.iconst 2, 1) := by decide +kernel
theorem dX6_part_23 : decode cX6_part 23 = .ok (.goto 15, 3) := by decide +kernel
theorem dX6_part_26 : decode cX6_part 26 = .ok (.aload_n 0, 1) := by decide +kernel
theorem dX6_part_27 : decode cX6_part 27 = .ok (.invokevirtual 350, 3) := by decide +kernel
theorem dX6_part_30 : decode cX6_part 30 = .ok (.ifCond .eq 7, 3) := by decide +kernel
theorem dX6_part_33 : decode cX6_part 33 = .ok (.iconst 0, 1) := by decide +kernel
theorem dX6_part_34 : decode cX6_part 34 = .ok (.goto 4, 3) := by decide +kernel
theorem dX6_part_37 : decode cX6_part 37 = .ok (.iconst 3, 1) := by decide +kernel
theorem dX6_part_38 : decode cX6_part 38 = .ok (.putfield 95, 3) := by decide +kernel
theorem dX6_part_41 : decode cX6_part 41 = .ok (.aload_n 0, 1) := by decide +kernel
theorem dX6_part_42 : decode cX6_part 42 = .ok (.getfield 95, 3) := by decide +kernel
theorem dX6_part_45 : decode cX6_part 45 = .ok (.ifCond .le 5, 3) := by decide +kernel
theorem dX6_part_48 : decode cX6_part 48 = .ok (.iconst 0, 1) := by decide +kernel
theorem dX6_part_49 : decode cX6_part 49 = .ok (.ireturn, 1) := by decide +kernel
theorem dX6_part_50 : decode cX6_part 50 = .ok (.iload_n 2, 1) := by decide +kernel
theorem dX6_part_51 : decode cX6_part 51 = .ok (.ifCond .ne 15, 3) := by decide +kernel
theorem dX6_part_54 : decode cX6_part 54 = .ok (.aload_n 0, 1) := by decide +kernel
theorem dX6_part_55 : decode cX6_part 55 = .ok (.getfield 42, 3) := by decide +kernel
theorem dX6_part_58 : decode cX6_part 58 = .ok (.aload_n 0, 1) := by decide +kernel
theorem dX6_part_59 : decode cX6_part 59 = .ok (.getfield 48, 3) := by decide +kernel
theorem dX6_part_62 : decode cX6_part 62 = .ok (.iload_n 1, 1) := by decide +kernel
theorem dX6_part_63 : decode cX6_part 63 = .ok (.iaload, 1) := by decide +kernel
theorem dX6_part_64 : decode cX6_part 64 = .ok (.iaload, 1) := by decide +kernel
theorem dX6_part_65 : decode cX6_part 65 = .ok (.ireturn, 1) := by decide +kernel
theorem dX6_part_66 : decode cX6_part 66 = .ok (.iload_n 1, 1) := by decide +kernel
theorem dX6_part_67 : decode cX6_part 67 = .ok (.ifCond .ne 5, 3) := by decide +kernel
theorem dX6_part_70 : decode cX6_part 70 = .ok (.iconst 0, 1) := by decide +kernel
theorem dX6_part_71 : decode cX6_part 71 = .ok (.ireturn, 1) := by decide +kernel
theorem dX6_part_72 : decode cX6_part 72 = .ok (.aload_n 0, 1) := by decide +kernel
theorem dX6_part_73 : decode cX6_part 73 = .ok (.getfield 39, 3) := by decide +kernel
theorem dX6_part_76 : decode cX6_part 76 = .ok (.aload_n 0, 1) := by decide +kernel
theorem dX6_part_77 : decode cX6_part 77 = .ok (.getfield 48, 3) := by decide +kernel
theorem dX6_part_80 : decode cX6_part 80 = .ok (.iload_n 1, 1) := by decide +kernel
theorem dX6_part_81 : decode cX6_part 81 = .ok (.iconst 1, 1) := by decide +kernel
theorem dX6_part_82 : decode cX6_part 82 = .ok (.isub, 1) := by decide +kernel
theorem dX6_part_83 : decode cX6_part 83 = .ok (.iaload, 1) := by decide +kernel
theorem dX6_part_84 : decode cX6_part 84 = .ok (.iaload, 1) := by decide +kernel
theorem dX6_part_85 : decode cX6_part 85 = .ok (.istore_n 3, 1) := by decide +kernel
theorem dX6_part_86 : decode cX6_part 86 = .ok (.aload_n 0, 1) := by decide +kernel
theorem dX6_part_87 : decode cX6_part 87 = .ok (.getfield 39, 3) := by decide +kernel
theorem dX6_part_90 : decode cX6_part 90 = .ok (.aload_n 0, 1) := by decide +kernel
theorem dX6_part_91 : decode cX6_part 91 = .ok (.getfield 48, 3) := by decide +kernel
theorem dX6_part_94 : decode cX6_part 94 = .ok (.iload_n 1, 1) := by decide +kernel
theorem dX6_part_95 : decode cX6_part 95 = .ok (.iaload, 1) := by decide +kernel
theorem dX6_part_96 : decode cX6_part 96 = .ok (.iaload, 1) := by decide +kernel
theorem dX6_part_97 : decode cX6_part 97 = .ok (.istore 4, 2) := by decide +kernel
theorem dX6_part_99 : decode cX6_part 99 = .ok (.iload_n 2, 1) := by decide +kernel
theorem dX6_part_100 : decode cX6_part 100 = .ok (.iconst 1, 1) := by decide +kernel
theorem dX6_part_101 : decode cX6_part 101 = .ok (.if_icmp .ne 16, 3) := by decide +kernel
theorem dX6_part_104 : decode cX6_part 104 = .ok (.aload_n 0, 1) := by decide +kernel
theorem dX6_part_105 : decode cX6_part 105 = .ok (.iload_n 1, 1) := by decide +kernel
theorem dX6_part_106 : decode cX6_part 106 = .ok (.iconst 1, 1) := by decide +kernel
theorem dX6_part_107 : decode cX6_part 107 = .ok (.isub, 1) := by decide +kernel
theorem dX6_part_108 : decode cX6_part 108 = .ok (.iload_n 3, 1) := by decide +kernel
theorem dX6_part_109 : decode cX6_part 109 = .ok (.iload 4, 2) := by decide +kernel
theorem dX6_part_111 : decode cX6_part 111 = .ok (.invokevirtual 304, 3) := by decide +kernel
theorem dX6_part_114 : decode cX6_part 114 = .ok (.goto 13, 3) := by decide +kernel
theorem dX6_part_117 : decode cX6_part 117 = .ok (.aload_n 0, 1) := by decide +kernel
theorem dX6_part_118 : decode cX6_part 118 = .ok (.iload_n 1, 1) := by decide +kernel
theorem dX6_part_119 : decode cX6_part 119 = .ok (.iconst 1, 1) := by decide +kernel
theorem dX6_part_120 : decode cX6_part 120 = .ok (.isub, 1) := by decide +kernel
theorem dX6_part_121 : decode cX6_part 121 = .ok (.iload_n 3, 1) := by decide +kernel
theorem dX6_part_122 : decode cX6_part 122 = .ok (.iload 4, 2) := by decide +kernel
theorem dX6_part_124 : decode cX6_part 124 = .ok (.invokevirtual 354, 3) := by decide +kernel
theorem dX6_part_127 : decode cX6_part 127 = .ok (.ireturn, 1) := by decide +kernel
theorem dX6_many_0 : decode cX6_many 0 = .ok (.aload_n 0, 1) := by decide +kernel
theorem dX6_many_1 : decode cX6_many 1 = .ok (.iconst 0, 1) := by decide +kernel
theorem dX6_many_2 : decode cX6_many 2 = .ok (.putfield 95, 3) := by decide +kernel
theorem dX6_many_5 : decode cX6_many 5 = .ok (.aload_n 0, 1) := by decide +kernel
theorem dX6_many_6 : decode cX6_many 6 = .ok (.invokevirtual 318, 3) := by decide +kernel
theorem dX6_many_9 : decode cX6_many 9 = .ok (.istore_n 2, 1) := by decide +kernel
theorem dX6_many_10 : decode cX6_many 10 = .ok (.aload_n 0, 1) := by decide +kernel
theorem dX6_many_11 : decode cX6_many 11 = .ok (.invokevirtual 113, 3) := by decide +kernel
theorem dX6_many_14 : decode cX6_many 14 = .ok (.ifCond .ne 5, 3) := by decide +kernel
theorem dX6_many_17 : decode cX6_many 17 = .ok (.lconst 1, 1) := by decide +kernel
theorem dX6_many_18 : decode cX6_many 18 = .ok (.lreturn, 1) := by decide +kernel
theorem dX6_many_19 : decode cX6_many 19 = .ok (.lconst 0, 1) := by decide +kernel
theorem dX6_many_20 : decode cX6_many 20 = .ok (.lstore_n 3, 1) := by decide +kernel
theorem dX6_many_21 : decode cX6_many 21 = .ok (.iconst 0, 1) := by decide +kernel
theorem dX6_many_22 : decode cX6_many 22 = .ok (.istore 5, 2) := by decide +kernel
theorem dX6_many_24 : decode cX6_many 24 = .ok (.iload 5, 2) := by decide +kernel
theorem dX6_many_26 : decode cX6_many 26 = .ok (.aload_n 0, 1) := by decide +kernel
theorem dX6_many_27 : decode cX6_many 27 = .ok (.getfield 45, 3) := by decide +kernel
theorem dX6_many_30 : decode cX6_many 30 = .ok (.iconst 0, 1) := by decide +kernel
theorem dX6_many_31 : decode cX6_many 31 = .ok (.iaload, 1) := by decide +kernel
theorem dX6_many_32 : decode cX6_many 32 = .ok (.if_icmp .ge 61, 3) := by decide +kernel
theorem dX6_many_35 : decode cX6_many 35 = .ok (.ldc2_w 307, 3) := by decide +kernel
theorem dX6_many_38 : decode cX6_many 38 = .ok (.lload_n 3, 1) := by decide +kernel
theorem dX6_many_39 : decode cX6_many 39 = .ok (.iload_n 1, 1) := by decide +kernel
theorem dX6_many_40 : decode cX6_many 40 = .ok (.ifCond .ne 13, 3) := by decide +kernel
theorem dX6_many_43 : decode cX6_many 43 = .ok (.aload_n 0, 1) := by decide +kernel
theorem dX6_many_44 : decode cX6_many 44 = .ok (.getfield 57, 3) := by decide +kernel
theorem dX6_many_47 : decode cX6_many 47 = .ok (.iload 5, 2) := by decide +kernel
theorem dX6_many_49 : decode cX6_many 49 = .ok (.laload, 1) := by decide +kernel
theorem dX6_many_50 : decode cX6_many 50 = .ok (.goto 32, 3) := by decide +kernel
theorem dX6_many_53 : decode cX6_many 53 = .ok (.aload_n 0, 1) := by decide +kernel
theorem dX6_many_54 : decode cX6_many 54 = .ok (.getfield 51, 3) := by decide +kernel
theorem dX6_many_57 : decode cX6_many 57 = .ok (.iload 5, 2) := by decide +kernel
theorem dX6_many_59 : decode cX6_many 59 = .ok (.iaload, 1) := by decide +kernel
theorem dX6_many_60 : decode cX6_many 60 = .ok (.iload_n 2, 1) := by decide +kernel
theorem dX6_many_61 : decode cX6_many 61 = .ok (.if_icmp .ne 20, 3) := by decide +kernel
theorem dX6_many_64 : decode cX6_many 64 = .ok (.iload_n 2, 1) := by decide +kernel
theorem dX6_many_65 : decode cX6_many 65 = .ok (.ldc_w 303, 3) := by decide +kernel
theorem dX6_many_68 : decode cX6_many 68 = .ok (.if_icmp .ge 13, 3) := by decide +kernel
theorem dX6_many_71 : decode cX6_many 71 = .ok (.aload_n 0, 1) := by decide +kernel
theorem dX6_many_72 : decode cX6_many 72 = .ok (.getfield 61, 3) := by decide +kernel
theorem dX6_many_75 : decode cX6_many 75 = .ok (.iload 5, 2) := by decide +kernel
theorem dX6_many_77 : decode cX6_many 77 = .ok (.laload, 1) := by decide +kernel
theorem dX6_many_78 : decode cX6_many 78 = .ok (.goto 4, 3) := by decide +kernel
theorem dX6_many_81 : decode cX6_many 81 = .ok (.lconst 0, 1) := by decide +kernel
theorem dX6_many_82 : decode cX6_many 82 = .ok (.ladd, 1) := by decide +kernel
theorem dX6_many_83 : decode cX6_many 83 = .ok (.invokestatic 309, 3) := by decide +kernel
theorem dX6_many_86 : decode cX6_many 86 = .ok (.lstore_n 3, 1) := by decide +kernel
theorem dX6_many_87 : decode cX6_many 87 = .ok (.iinc 5 1, 3) := by decide +kernel
theorem dX6_many_90 : decode cX6_many 90 = .ok (.goto (-66), 3) := by decide +kernel
theorem dX6_many_93 : decode cX6_many 93 = .ok (.lload_n 3, 1) := by decide +kernel
theorem dX6_many_94 : decode cX6_many 94 = .ok (.lreturn, 1) := by decide +kernel
theorem dX6_costWith_0 : decode cX6_costWith 0 = .ok (.aload_n 0, 1) := by decide +kernel
theorem dX6_costWith_1 : decode cX6_costWith 1 = .ok (.aload_n 0, 1) := by decide +kernel
theorem dX6_costWith_2 : decode cX6_costWith 2 = .ok (.iload_n 1, 1) := by decide +kernel
theorem dX6_costWith_3 : decode cX6_costWith 3 = .ok (.iload_n 2, 1) := by decide +kernel
theorem dX6_costWith_4 : decode cX6_costWith 4 = .ok (.invokevirtual 337, 3) := by decide +kernel
theorem dX6_costWith_7 : decode cX6_costWith 7 = .ok (.ifCond .eq 14, 3) := by decide +kernel
theorem dX6_costWith_10 : decode cX6_costWith 10 = .ok (.iload_n 3, 1) := by decide +kernel
theorem dX6_costWith_11 : decode cX6_costWith 11 = .ok (.invokestatic 341, 3) := by decide +kernel
theorem dX6_costWith_14 : decode cX6_costWith 14 = .ok (.ifCond .eq 7, 3) := by decide +kernel
theorem dX6_costWith_17 : decode cX6_costWith 17 = .ok (.iconst 0, 1) := by decide +kernel
theorem dX6_costWith_18 : decode cX6_costWith 18 = .ok (.goto 4, 3) := by decide +kernel
theorem dX6_costWith_21 : decode cX6_costWith 21 = .ok (.iconst 1, 1) := by decide +kernel
theorem dX6_costWith_22 : decode cX6_costWith 22 = .ok (.putfield 95, 3) := by decide +kernel
theorem dX6_costWith_25 : decode cX6_costWith 25 = .ok (.aload_n 0, 1) := by decide +kernel
theorem dX6_costWith_26 : decode cX6_costWith 26 = .ok (.getfield 95, 3) := by decide +kernel
theorem dX6_costWith_29 : decode cX6_costWith 29 = .ok (.ifCond .le 5, 3) := by decide +kernel
theorem dX6_costWith_32 : decode cX6_costWith 32 = .ok (.iconst 0, 1) := by decide +kernel
theorem dX6_costWith_33 : decode cX6_costWith 33 = .ok (.ireturn, 1) := by decide +kernel
theorem dX6_costWith_34 : decode cX6_costWith 34 = .ok (.aload_n 0, 1) := by decide +kernel
theorem dX6_costWith_35 : decode cX6_costWith 35 = .ok (.invokevirtual 312, 3) := by decide +kernel
theorem dX6_costWith_38 : decode cX6_costWith 38 = .ok (.aload_n 0, 1) := by decide +kernel
theorem dX6_costWith_39 : decode cX6_costWith 39 = .ok (.invokevirtual 357, 3) := by decide +kernel
theorem dX6_costWith_42 : decode cX6_costWith 42 = .ok (.ldc_w 303, 3) := by decide +kernel
theorem dX6_costWith_45 : decode cX6_costWith 45 = .ok (.istore 4, 2) := by decide +kernel
theorem dX6_costWith_47 : decode cX6_costWith 47 = .ok (.bipush 10, 2) := by decide +kernel
theorem dX6_costWith_49 : decode cX6_costWith 49 = .ok (.iload_n 1, 1) := by decide +kernel
theorem dX6_costWith_50 : decode cX6_costWith 50 = .ok (.imul, 1) := by decide +kernel
theorem dX6_costWith_51 : decode cX6_costWith 51 = .ok (.istore 5, 2) := by decide +kernel
theorem dX6_costWith_53 : decode cX6_costWith 53 = .ok (.iload 5, 2) := by decide +kernel
theorem dX6_costWith_55 : decode cX6_costWith 55 = .ok (.bipush 10, 2) := by decide +kernel
theorem dX6_costWith_57 : decode cX6_costWith 57 = .ok (.iload_n 1, 1) := by decide +kernel
theorem dX6_costWith_58 : decode cX6_costWith 58 = .ok (.imul, 1) := by decide +kernel
theorem dX6_costWith_59 : decode cX6_costWith 59 = .ok (.aload_n 0, 1) := by decide +kernel
theorem dX6_costWith_60 : decode cX6_costWith 60 = .ok (.getfield 45, 3) := by decide +kernel
theorem dX6_costWith_63 : decode cX6_costWith 63 = .ok (.iload_n 1, 1) := by decide +kernel
theorem dX6_costWith_64 : decode cX6_costWith 64 = .ok (.iaload, 1) := by decide +kernel
theorem dX6_costWith_65 : decode cX6_costWith 65 = .ok (.iadd, 1) := by decide +kernel
theorem dX6_costWith_66 : decode cX6_costWith 66 = .ok (.if_icmp .ge 63, 3) := by decide +kernel
theorem dX6_costWith_69 : decode cX6_costWith 69 = .ok (.aload_n 0, 1) := by decide +kernel
theorem dX6_costWith_70 : decode cX6_costWith 70 = .ok (.getfield 39, 3) := by decide +kernel
theorem dX6_costWith_73 : decode cX6_costWith 73 = .ok (.iload 5, 2) := by decide +kernel
theorem dX6_costWith_75 : decode cX6_costWith 75 = .ok (.iaload, 1) := by decide +kernel
theorem dX6_costWith_76 : decode cX6_costWith 76 = .ok (.iload_n 2, 1) := by decide +kernel
theorem dX6_costWith_77 : decode cX6_costWith 77 = .ok (.invokestatic 266, 3) := by decide +kernel
theorem dX6_costWith_80 : decode cX6_costWith 80 = .ok (.iload_n 3, 1) := by decide +kernel
theorem dX6_costWith_81 : decode cX6_costWith 81 = .ok (.if_icmp .ne 42, 3) := by decide +kernel
theorem dX6_costWith_84 : decode cX6_costWith 84 = .ok (.aload_n 0, 1) := by decide +kernel
theorem dX6_costWith_85 : decode cX6_costWith 85 = .ok (.getfield 51, 3) := by decide +kernel
theorem dX6_costWith_88 : decode cX6_costWith 88 = .ok (.iload 5, 2) := by decide +kernel
theorem dX6_costWith_90 : decode cX6_costWith 90 = .ok (.iaload, 1) := by decide +kernel
theorem dX6_costWith_91 : decode cX6_costWith 91 = .ok (.ldc_w 303, 3) := by decide +kernel
theorem dX6_costWith_94 : decode cX6_costWith 94 = .ok (.if_icmp .ge 29, 3) := by decide +kernel
theorem dX6_costWith_97 : decode cX6_costWith 97 = .ok (.aload_n 0, 1) := by decide +kernel
theorem dX6_costWith_98 : decode cX6_costWith 98 = .ok (.getfield 54, 3) := by decide +kernel
theorem dX6_costWith_101 : decode cX6_costWith 101 = .ok (.iload 5, 2) := by decide +kernel
theorem dX6_costWith_103 : decode cX6_costWith 103 = .ok (.iaload, 1) := by decide +kernel
theorem dX6_costWith_104 : decode cX6_costWith 104 = .ok (.ldc_w 303, 3) := by decide +kernel
theorem dX6_costWith_107 : decode cX6_costWith 107 = .ok (.if_icmp .ge 16, 3) := by decide +kernel
theorem dX6_costWith_110 : decode cX6_costWith 110 = .ok (.iload 4, 2) := by decide +kernel
theorem dX6_costWith_112 : decode cX6_costWith 112 = .ok (.aload_n 0, 1) := by decide +kernel
theorem dX6_costWith_113 : decode cX6_costWith 113 = .ok (.iload 5, 2) := by decide +kernel
theorem dX6_costWith_115 : decode cX6_costWith 115 = .ok (.invokevirtual 360, 3) := by decide +kernel
theorem dX6_costWith_118 : decode cX6_costWith 118 = .ok (.invokestatic 87, 3) := by decide +kernel
theorem dX6_costWith_121 : decode cX6_costWith 121 = .ok (.istore 4, 2) := by decide +kernel
theorem dX6_costWith_123 : decode cX6_costWith 123 = .ok (.iinc 5 1, 3) := by decide +kernel
theorem dX6_costWith_126 : decode cX6_costWith 126 = .ok (.goto (-73), 3) := by decide +kernel
theorem dX6_costWith_129 : decode cX6_costWith 129 = .ok (.iload 4, 2) := by decide +kernel
theorem dX6_costWith_131 : decode cX6_costWith 131 = .ok (.invokestatic 347, 3) := by decide +kernel
theorem dX6_costWith_134 : decode cX6_costWith 134 = .ok (.ireturn, 1) := by decide +kernel
theorem dX6_through_0 : decode cX6_through 0 = .ok (.aload_n 0, 1) := by decide +kernel
theorem dX6_through_1 : decode cX6_through 1 = .ok (.getfield 51, 3) := by decide +kernel
theorem dX6_through_4 : decode cX6_through 4 = .ok (.iload_n 1, 1) := by decide +kernel
theorem dX6_through_5 : decode cX6_through 5 = .ok (.iaload, 1) := by decide +kernel
theorem dX6_through_6 : decode cX6_through 6 = .ok (.ldc_w 303, 3) := by decide +kernel
theorem dX6_through_9 : decode cX6_through 9 = .ok (.if_icmp .ge 15, 3) := by decide +kernel
theorem dX6_through_12 : decode cX6_through 12 = .ok (.aload_n 0, 1) := by decide +kernel
theorem dX6_through_13 : decode cX6_through 13 = .ok (.getfield 54, 3) := by decide +kernel
theorem dX6_through_16 : decode cX6_through 16 = .ok (.iload_n 1, 1) := by decide +kernel
theorem dX6_through_17 : decode cX6_through 17 = .ok (.iaload, 1) := by decide +kernel
theorem dX6_through_18 : decode cX6_through 18 = .ok (.ldc_w 303, 3) := by decide +kernel
theorem dX6_through_21 : decode cX6_through 21 = .ok (.if_icmp .lt 9, 3) := by decide +kernel
theorem dX6_through_24 : decode cX6_through 24 = .ok (.ldc_w 303, 3) := by decide +kernel
theorem dX6_through_27 : decode cX6_through 27 = .ok (.goto 23, 3) := by decide +kernel
theorem dX6_through_30 : decode cX6_through 30 = .ok (.aload_n 0, 1) := by decide +kernel
theorem dX6_through_31 : decode cX6_through 31 = .ok (.getfield 51, 3) := by decide +kernel
theorem dX6_through_34 : decode cX6_through 34 = .ok (.iload_n 1, 1) := by decide +kernel
theorem dX6_through_35 : decode cX6_through 35 = .ok (.iaload, 1) := by decide +kernel
theorem dX6_through_36 : decode cX6_through 36 = .ok (.aload_n 0, 1) := by decide +kernel
theorem dX6_through_37 : decode cX6_through 37 = .ok (.getfield 54, 3) := by decide +kernel
theorem dX6_through_40 : decode cX6_through 40 = .ok (.iload_n 1, 1) := by decide +kernel
theorem dX6_through_41 : decode cX6_through 41 = .ok (.iaload, 1) := by decide +kernel
theorem dX6_through_42 : decode cX6_through 42 = .ok (.iadd, 1) := by decide +kernel
theorem dX6_through_43 : decode cX6_through 43 = .ok (.aload_n 0, 1) := by decide +kernel
theorem dX6_through_44 : decode cX6_through 44 = .ok (.getfield 42, 3) := by decide +kernel
theorem dX6_through_47 : decode cX6_through 47 = .ok (.iload_n 1, 1) := by decide +kernel
theorem dX6_through_48 : decode cX6_through 48 = .ok (.iaload, 1) := by decide +kernel
theorem dX6_through_49 : decode cX6_through 49 = .ok (.isub, 1) := by decide +kernel
theorem dX6_through_50 : decode cX6_through 50 = .ok (.ireturn, 1) := by decide +kernel
theorem dX6_reaches_0 : decode cX6_reaches 0 = .ok (.aload_n 0, 1) := by decide +kernel
theorem dX6_reaches_1 : decode cX6_reaches 1 = .ok (.iconst 0, 1) := by decide +kernel
theorem dX6_reaches_2 : decode cX6_reaches 2 = .ok (.putfield 95, 3) := by decide +kernel
theorem dX6_reaches_5 : decode cX6_reaches 5 = .ok (.aload_n 0, 1) := by decide +kernel
theorem dX6_reaches_6 : decode cX6_reaches 6 = .ok (.invokevirtual 297, 3) := by decide +kernel
theorem dX6_reaches_9 : decode cX6_reaches 9 = .ok (.aload_n 0, 1) := by decide +kernel
theorem dX6_reaches_10 : decode cX6_reaches 10 = .ok (.invokevirtual 357, 3) := by decide +kernel
theorem dX6_reaches_13 : decode cX6_reaches 13 = .ok (.iconst 0, 1) := by decide +kernel
theorem dX6_reaches_14 : decode cX6_reaches 14 = .ok (.istore_n 1, 1) := by decide +kernel
theorem dX6_reaches_15 : decode cX6_reaches 15 = .ok (.iconst 0, 1) := by decide +kernel
theorem dX6_reaches_16 : decode cX6_reaches 16 = .ok (.istore_n 2, 1) := by decide +kernel
theorem dX6_reaches_17 : decode cX6_reaches 17 = .ok (.iload_n 2, 1) := by decide +kernel
theorem dX6_reaches_18 : decode cX6_reaches 18 = .ok (.aload_n 0, 1) := by decide +kernel
theorem dX6_reaches_19 : decode cX6_reaches 19 = .ok (.invokevirtual 113, 3) := by decide +kernel
theorem dX6_reaches_22 : decode cX6_reaches 22 = .ok (.if_icmp .ge 55, 3) := by decide +kernel
theorem dX6_reaches_25 : decode cX6_reaches 25 = .ok (.bipush 10, 2) := by decide +kernel
theorem dX6_reaches_27 : decode cX6_reaches 27 = .ok (.iload_n 2, 1) := by decide +kernel
theorem dX6_reaches_28 : decode cX6_reaches 28 = .ok (.imul, 1) := by decide +kernel
theorem dX6_reaches_29 : decode cX6_reaches 29 = .ok (.istore_n 3, 1) := by decide +kernel
theorem dX6_reaches_30 : decode cX6_reaches 30 = .ok (.iload_n 3, 1) := by decide +kernel
theorem dX6_reaches_31 : decode cX6_reaches 31 = .ok (.bipush 10, 2) := by decide +kernel
theorem dX6_reaches_33 : decode cX6_reaches 33 = .ok (.iload_n 2, 1) := by decide +kernel
theorem dX6_reaches_34 : decode cX6_reaches 34 = .ok (.imul, 1) := by decide +kernel
theorem dX6_reaches_35 : decode cX6_reaches 35 = .ok (.aload_n 0, 1) := by decide +kernel
theorem dX6_reaches_36 : decode cX6_reaches 36 = .ok (.getfield 45, 3) := by decide +kernel
theorem dX6_reaches_39 : decode cX6_reaches 39 = .ok (.iload_n 2, 1) := by decide +kernel
theorem dX6_reaches_40 : decode cX6_reaches 40 = .ok (.iaload, 1) := by decide +kernel
theorem dX6_reaches_41 : decode cX6_reaches 41 = .ok (.iadd, 1) := by decide +kernel
theorem dX6_reaches_42 : decode cX6_reaches 42 = .ok (.if_icmp .ge 29, 3) := by decide +kernel
theorem dX6_reaches_45 : decode cX6_reaches 45 = .ok (.aload_n 0, 1) := by decide +kernel
theorem dX6_reaches_46 : decode cX6_reaches 46 = .ok (.getfield 54, 3) := by decide +kernel
theorem dX6_reaches_49 : decode cX6_reaches 49 = .ok (.iload_n 3, 1) := by decide +kernel
theorem dX6_reaches_50 : decode cX6_reaches 50 = .ok (.iaload, 1) := by decide +kernel
theorem dX6_reaches_51 : decode cX6_reaches 51 = .ok (.ldc_w 303, 3) := by decide +kernel
theorem dX6_reaches_54 : decode cX6_reaches 54 = .ok (.if_icmp .ge 9, 3) := by decide +kernel
theorem dX6_reaches_57 : decode cX6_reaches 57 = .ok (.iload_n 2, 1) := by decide +kernel
theorem dX6_reaches_58 : decode cX6_reaches 58 = .ok (.iconst 1, 1) := by decide +kernel
theorem dX6_reaches_59 : decode cX6_reaches 59 = .ok (.iadd, 1) := by decide +kernel
theorem dX6_reaches_60 : decode cX6_reaches 60 = .ok (.goto 4, 3) := by decide +kernel
theorem dX6_reaches_63 : decode cX6_reaches 63 = .ok (.iload_n 1, 1) := by decide +kernel
theorem dX6_reaches_64 : decode cX6_reaches 64 = .ok (.istore_n 1, 1) := by decide +kernel
theorem dX6_reaches_65 : decode cX6_reaches 65 = .ok (.iinc 3 1, 3) := by decide +kernel
theorem dX6_reaches_68 : decode cX6_reaches 68 = .ok (.goto (-38), 3) := by decide +kernel
theorem dX6_reaches_71 : decode cX6_reaches 71 = .ok (.iinc 2 1, 3) := by decide +kernel
theorem dX6_reaches_74 : decode cX6_reaches 74 = .ok (.goto (-57), 3) := by decide +kernel
theorem dX6_reaches_77 : decode cX6_reaches 77 = .ok (.iload_n 1, 1) := by decide +kernel
theorem dX6_reaches_78 : decode cX6_reaches 78 = .ok (.ireturn, 1) := by decide +kernel
theorem dX6_uses_0 : decode cX6_uses 0 = .ok (.aload_n 0, 1) := by decide +kernel
theorem dX6_uses_1 : decode cX6_uses 1 = .ok (.iload_n 1, 1) := by decide +kernel
theorem dX6_uses_2 : decode cX6_uses 2 = .ok (.invokestatic 341, 3) := by decide +kernel
theorem dX6_uses_5 : decode cX6_uses 5 = .ok (.ifCond .ne 7, 3) := by decide +kernel
theorem dX6_uses_8 : decode cX6_uses 8 = .ok (.iconst 1, 1) := by decide +kernel
theorem dX6_uses_9 : decode cX6_uses 9 = .ok (.goto 15, 3) := by decide +kernel
theorem dX6_uses_12 : decode cX6_uses 12 = .ok (.aload_n 0, 1) := by decide +kernel
theorem dX6_uses_13 : decode cX6_uses 13 = .ok (.invokevirtual 350, 3) := by decide +kernel
theorem dX6_uses_16 : decode cX6_uses 16 = .ok (.ifCond .eq 7, 3) := by decide +kernel
theorem dX6_uses_19 : decode cX6_uses 19 = .ok (.iconst 0, 1) := by decide +kernel
theorem dX6_uses_20 : decode cX6_uses 20 = .ok (.goto 4, 3) := by decide +kernel
theorem dX6_uses_23 : decode cX6_uses 23 = .ok (.iconst 2, 1) := by decide +kernel
theorem dX6_uses_24 : decode cX6_uses 24 = .ok (.putfield 95, 3) := by decide +kernel
theorem dX6_uses_27 : decode cX6_uses 27 = .ok (.aload_n 0, 1) := by decide +kernel
theorem dX6_uses_28 : decode cX6_uses 28 = .ok (.getfield 95, 3) := by decide +kernel
theorem dX6_uses_31 : decode cX6_uses 31 = .ok (.ifCond .le 5, 3) := by decide +kernel
theorem dX6_uses_34 : decode cX6_uses 34 = .ok (.iconst 0, 1) := by decide +kernel
theorem dX6_uses_35 : decode cX6_uses 35 = .ok (.ireturn, 1) := by decide +kernel
theorem dX6_uses_36 : decode cX6_uses 36 = .ok (.iconst 0, 1) := by decide +kernel
theorem dX6_uses_37 : decode cX6_uses 37 = .ok (.istore_n 2, 1) := by decide +kernel
theorem dX6_uses_38 : decode cX6_uses 38 = .ok (.iconst 0, 1) := by decide +kernel
theorem dX6_uses_39 : decode cX6_uses 39 = .ok (.istore_n 3, 1) := by decide +kernel
theorem dX6_uses_40 : decode cX6_uses 40 = .ok (.iload_n 3, 1) := by decide +kernel
theorem dX6_uses_41 : decode cX6_uses 41 = .ok (.aload_n 0, 1) := by decide +kernel
theorem dX6_uses_42 : decode cX6_uses 42 = .ok (.invokevirtual 113, 3) := by decide +kernel
theorem dX6_uses_45 : decode cX6_uses 45 = .ok (.if_icmp .ge 56, 3) := by decide +kernel
theorem dX6_uses_48 : decode cX6_uses 48 = .ok (.iconst 0, 1) := by decide +kernel
theorem dX6_uses_49 : decode cX6_uses 49 = .ok (.istore 4, 2) := by decide +kernel
theorem dX6_uses_51 : decode cX6_uses 51 = .ok (.iload 4, 2) := by decide +kernel
theorem dX6_uses_53 : decode cX6_uses 53 = .ok (.aload_n 0, 1) := by decide +kernel
theorem dX6_uses_54 : decode cX6_uses 54 = .ok (.iload_n 3, 1) := by decide +kernel
theorem dX6_uses_55 : decode cX6_uses 55 = .ok (.invokevirtual 239, 3) := by decide +kernel
theorem dX6_uses_58 : decode cX6_uses 58 = .ok (.if_icmp .ge 37, 3) := by decide +kernel
theorem dX6_uses_61 : decode cX6_uses 61 = .ok (.iload_n 2, 1) := by decide +kernel
theorem dX6_uses_62 : decode cX6_uses 62 = .ok (.aload_n 0, 1) := by decide +kernel
theorem dX6_uses_63 : decode cX6_uses 63 = .ok (.getfield 39, 3) := by decide +kernel
theorem dX6_uses_66 : decode cX6_uses 66 = .ok (.aload_n 0, 1) := by decide +kernel
theorem dX6_uses_67 : decode cX6_uses 67 = .ok (.getfield 48, 3) := by decide +kernel
theorem dX6_uses_70 : decode cX6_uses 70 = .ok (.iload_n 3, 1) := by decide +kernel
theorem dX6_uses_71 : decode cX6_uses 71 = .ok (.iaload, 1) := by decide +kernel
theorem dX6_uses_72 : decode cX6_uses 72 = .ok (.iaload, 1) := by decide +kernel
theorem dX6_uses_73 : decode cX6_uses 73 = .ok (.iload 4, 2) := by decide +kernel
theorem dX6_uses_75 : decode cX6_uses 75 = .ok (.invokestatic 266, 3) := by decide +kernel
theorem dX6_uses_78 : decode cX6_uses 78 = .ok (.iload_n 1, 1) := by decide +kernel
theorem dX6_uses_79 : decode cX6_uses 79 = .ok (.if_icmp .ne 7, 3) := by decide +kernel
theorem dX6_uses_82 : decode cX6_uses 82 = .ok (.iconst 1, 1) := by decide +kernel
theorem dX6_uses_83 : decode cX6_uses 83 = .ok (.goto 4, 3) := by decide +kernel
theorem dX6_uses_86 : decode cX6_uses 86 = .ok (.iconst 0, 1) := by decide +kernel
theorem dX6_uses_87 : decode cX6_uses 87 = .ok (.iadd, 1) := by decide +kernel
theorem dX6_uses_88 : decode cX6_uses 88 = .ok (.istore_n 2, 1) := by decide +kernel
theorem dX6_uses_89 : decode cX6_uses 89 = .ok (.iinc 4 1, 3) := by decide +kernel
theorem dX6_uses_92 : decode cX6_uses 92 = .ok (.goto (-41), 3) := by decide +kernel
theorem dX6_uses_95 : decode cX6_uses 95 = .ok (.iinc 3 1, 3) := by decide +kernel
theorem dX6_uses_98 : decode cX6_uses 98 = .ok (.goto (-58), 3) := by decide +kernel
theorem dX6_uses_101 : decode cX6_uses 101 = .ok (.iload_n 2, 1) := by decide +kernel
theorem dX6_uses_102 : decode cX6_uses 102 = .ok (.ireturn, 1) := by decide +kernel
theorem dX6_isSure_0 : decode cX6_isSure 0 = .ok (.iconst 0, 1) := by decide +kernel
theorem dX6_isSure_1 : decode cX6_isSure 1 = .ok (.istore 4, 2) := by decide +kernel
theorem dX6_isSure_3 : decode cX6_isSure 3 = .ok (.bipush 10, 2) := by decide +kernel
theorem dX6_isSure_5 : decode cX6_isSure 5 = .ok (.iload_n 1, 1) := by decide +kernel
theorem dX6_isSure_6 : decode cX6_isSure 6 = .ok (.imul, 1) := by decide +kernel
theorem dX6_isSure_7 : decode cX6_isSure 7 = .ok (.istore 5, 2) := by decide +kernel
theorem dX6_isSure_9 : decode cX6_isSure 9 = .ok (.iload 5, 2) := by decide +kernel
theorem dX6_isSure_11 : decode cX6_isSure 11 = .ok (.bipush 10, 2) := by decide +kernel
theorem dX6_isSure_13 : decode cX6_isSure 13 = .ok (.iload_n 1, 1) := by decide +kernel
theorem dX6_isSure_14 : decode cX6_isSure 14 = .ok (.imul, 1) := by decide +kernel
theorem dX6_isSure_15 : decode cX6_isSure 15 = .ok (.aload_n 0, 1) := by decide +kernel
theorem dX6_isSure_16 : decode cX6_isSure 16 = .ok (.getfield 45, 3) := by decide +kernel
theorem dX6_isSure_19 : decode cX6_isSure 19 = .ok (.iload_n 1, 1) := by decide +kernel
theorem dX6_isSure_20 : decode cX6_isSure 20 = .ok (.iaload, 1) := by decide +kernel
theorem dX6_isSure_21 : decode cX6_isSure 21 = .ok (.iadd, 1) := by decide +kernel
theorem dX6_isSure_22 : decode cX6_isSure 22 = .ok (.if_icmp .ge 41, 3) := by decide +kernel
theorem dX6_isSure_25 : decode cX6_isSure 25 = .ok (.iload 4, 2) := by decide +kernel
theorem dX6_isSure_27 : decode cX6_isSure 27 = .ok (.aload_n 0, 1) := by decide +kernel
theorem dX6_isSure_28 : decode cX6_isSure 28 = .ok (.iload 5, 2) := by decide +kernel
theorem dX6_isSure_30 : decode cX6_isSure 30 = .ok (.invokevirtual 360, 3) := by decide +kernel
theorem dX6_isSure_33 : decode cX6_isSure 33 = .ok (.iload_n 3, 1) := by decide +kernel
theorem dX6_isSure_34 : decode cX6_isSure 34 = .ok (.if_icmp .ne 19, 3) := by decide +kernel
theorem dX6_isSure_37 : decode cX6_isSure 37 = .ok (.iconst 1, 1) := by decide +kernel
theorem dX6_isSure_38 : decode cX6_isSure 38 = .ok (.aload_n 0, 1) := by decide +kernel
theorem dX6_isSure_39 : decode cX6_isSure 39 = .ok (.getfield 39, 3) := by decide +kernel
theorem dX6_isSure_42 : decode cX6_isSure 42 = .ok (.iload 5, 2) := by decide +kernel
theorem dX6_isSure_44 : decode cX6_isSure 44 = .ok (.iaload, 1) := by decide +kernel
theorem dX6_isSure_45 : decode cX6_isSure 45 = .ok (.iload_n 2, 1) := by decide +kernel
theorem dX6_isSure_46 : decode cX6_isSure 46 = .ok (.invokestatic 266, 3) := by decide +kernel
theorem dX6_isSure_49 : decode cX6_isSure 49 = .ok (.ishl, 1) := by decide +kernel
theorem dX6_isSure_50 : decode cX6_isSure 50 = .ok (.goto 4, 3) := by decide +kernel
theorem dX6_isSure_53 : decode cX6_isSure 53 = .ok (.iconst 0, 1) := by decide +kernel
theorem dX6_isSure_54 : decode cX6_isSure 54 = .ok (.ior, 1) := by decide +kernel
theorem dX6_isSure_55 : decode cX6_isSure 55 = .ok (.istore 4, 2) := by decide +kernel
theorem dX6_isSure_57 : decode cX6_isSure 57 = .ok (.iinc 5 1, 3) := by decide +kernel
theorem dX6_isSure_60 : decode cX6_isSure 60 = .ok (.goto (-51), 3) := by decide +kernel
theorem dX6_isSure_63 : decode cX6_isSure 63 = .ok (.iload 4, 2) := by decide +kernel
theorem dX6_isSure_65 : decode cX6_isSure 65 = .ok (.iload 4, 2) := by decide +kernel
theorem dX6_isSure_67 : decode cX6_isSure 67 = .ok (.iconst 1, 1) := by decide +kernel
theorem dX6_isSure_68 : decode cX6_isSure 68 = .ok (.isub, 1) := by decide +kernel
theorem dX6_isSure_69 : decode cX6_isSure 69 = .ok (.iand, 1) := by decide +kernel
theorem dX6_isSure_70 : decode cX6_isSure 70 = .ok (.ifCond .ne 7, 3) := by decide +kernel
theorem dX6_isSure_73 : decode cX6_isSure 73 = .ok (.iconst 1, 1) := by decide +kernel
theorem dX6_isSure_74 : decode cX6_isSure 74 = .ok (.goto 4, 3) := by decide +kernel
theorem dX6_isSure_77 : decode cX6_isSure 77 = .ok (.iconst 0, 1) := by decide +kernel
theorem dX6_isSure_78 : decode cX6_isSure 78 = .ok (.ireturn, 1) := by decide +kernel
theorem dX6_sure_0 : decode cX6_sure 0 = .ok (.aload_n 0, 1) := by decide +kernel
theorem dX6_sure_1 : decode cX6_sure 1 = .ok (.invokevirtual 318, 3) := by decide +kernel
theorem dX6_sure_4 : decode cX6_sure 4 = .ok (.istore_n 1, 1) := by decide +kernel
theorem dX6_sure_5 : decode cX6_sure 5 = .ok (.aload_n 0, 1) := by decide +kernel
theorem dX6_sure_6 : decode cX6_sure 6 = .ok (.iload_n 1, 1) := by decide +kernel
theorem dX6_sure_7 : decode cX6_sure 7 = .ok (.ldc_w 303, 3) := by decide +kernel
theorem dX6_sure_10 : decode cX6_sure 10 = .ok (.if_icmp .ge 7, 3) := by decide +kernel
theorem dX6_sure_13 : decode cX6_sure 13 = .ok (.iconst 0, 1) := by decide +kernel
theorem dX6_sure_14 : decode cX6_sure 14 = .ok (.goto 4, 3) := by decide +kernel
theorem dX6_sure_17 : decode cX6_sure 17 = .ok (.iconst 1, 1) := by decide +kernel
theorem dX6_sure_18 : decode cX6_sure 18 = .ok (.putfield 95, 3) := by decide +kernel
theorem dX6_sure_21 : decode cX6_sure 21 = .ok (.aload_n 0, 1) := by decide +kernel
theorem dX6_sure_22 : decode cX6_sure 22 = .ok (.getfield 95, 3) := by decide +kernel
theorem dX6_sure_25 : decode cX6_sure 25 = .ok (.ifCond .le 5, 3) := by decide +kernel
theorem dX6_sure_28 : decode cX6_sure 28 = .ok (.iconst 0, 1) := by decide +kernel
theorem dX6_sure_29 : decode cX6_sure 29 = .ok (.ireturn, 1) := by decide +kernel
theorem dX6_sure_30 : decode cX6_sure 30 = .ok (.aload_n 0, 1) := by decide +kernel
theorem dX6_sure_31 : decode cX6_sure 31 = .ok (.invokevirtual 357, 3) := by decide +kernel
theorem dX6_sure_34 : decode cX6_sure 34 = .ok (.iconst 0, 1) := by decide +kernel
theorem dX6_sure_35 : decode cX6_sure 35 = .ok (.istore_n 2, 1) := by decide +kernel
theorem dX6_sure_36 : decode cX6_sure 36 = .ok (.iconst 0, 1) := by decide +kernel
theorem dX6_sure_37 : decode cX6_sure 37 = .ok (.istore_n 3, 1) := by decide +kernel
theorem dX6_sure_38 : decode cX6_sure 38 = .ok (.iload_n 3, 1) := by decide +kernel
theorem dX6_sure_39 : decode cX6_sure 39 = .ok (.aload_n 0, 1) := by decide +kernel
theorem dX6_sure_40 : decode cX6_sure 40 = .ok (.invokevirtual 113, 3) := by decide +kernel
theorem dX6_sure_43 : decode cX6_sure 43 = .ok (.if_icmp .ge 47, 3) := by decide +kernel
theorem dX6_sure_46 : decode cX6_sure 46 = .ok (.iconst 0, 1) := by decide +kernel
theorem dX6_sure_47 : decode cX6_sure 47 = .ok (.istore 4, 2) := by decide +kernel
theorem dX6_sure_49 : decode cX6_sure 49 = .ok (.iload 4, 2) := by decide +kernel
theorem dX6_sure_51 : decode cX6_sure 51 = .ok (.aload_n 0, 1) := by decide +kernel
theorem dX6_sure_52 : decode cX6_sure 52 = .ok (.iload_n 3, 1) := by decide +kernel
theorem dX6_sure_53 : decode cX6_sure 53 = .ok (.invokevirtual 239, 3) := by decide +kernel
theorem dX6_sure_56 : decode cX6_sure 56 = .ok (.if_icmp .ge 28, 3) := by decide +kernel
theorem dX6_sure_59 : decode cX6_sure 59 = .ok (.iload_n 2, 1) := by decide +kernel
theorem dX6_sure_60 : decode cX6_sure 60 = .ok (.aload_n 0, 1) := by decide +kernel
theorem dX6_sure_61 : decode cX6_sure 61 = .ok (.iload_n 3, 1) := by decide +kernel
theorem dX6_sure_62 : decode cX6_sure 62 = .ok (.iload 4, 2) := by decide +kernel
theorem dX6_sure_64 : decode cX6_sure 64 = .ok (.iload_n 1, 1) := by decide +kernel
theorem dX6_sure_65 : decode cX6_sure 65 = .ok (.invokevirtual 363, 3) := by decide +kernel
theorem dX6_sure_68 : decode cX6_sure 68 = .ok (.ifCond .eq 7, 3) := by decide +kernel
theorem dX6_sure_71 : decode cX6_sure 71 = .ok (.iconst 1, 1) := by decide +kernel
theorem dX6_sure_72 : decode cX6_sure 72 = .ok (.goto 4, 3) := by decide +kernel
theorem dX6_sure_75 : decode cX6_sure 75 = .ok (.iconst 0, 1) := by decide +kernel
theorem dX6_sure_76 : decode cX6_sure 76 = .ok (.iadd, 1) := by decide +kernel
theorem dX6_sure_77 : decode cX6_sure 77 = .ok (.istore_n 2, 1) := by decide +kernel
theorem dX6_sure_78 : decode cX6_sure 78 = .ok (.iinc 4 1, 3) := by decide +kernel
theorem dX6_sure_81 : decode cX6_sure 81 = .ok (.goto (-32), 3) := by decide +kernel
theorem dX6_sure_84 : decode cX6_sure 84 = .ok (.iinc 3 1, 3) := by decide +kernel
theorem dX6_sure_87 : decode cX6_sure 87 = .ok (.goto (-49), 3) := by decide +kernel
theorem dX6_sure_90 : decode cX6_sure 90 = .ok (.iload_n 2, 1) := by decide +kernel
theorem dX6_sure_91 : decode cX6_sure 91 = .ok (.ireturn, 1) := by decide +kernel
theorem dX6_mean_0 : decode cX6_mean 0 = .ok (.aload_n 0, 1) := by decide +kernel
theorem dX6_mean_1 : decode cX6_mean 1 = .ok (.invokevirtual 318, 3) := by decide +kernel
theorem dX6_mean_4 : decode cX6_mean 4 = .ok (.istore_n 1, 1) := by decide +kernel
theorem dX6_mean_5 : decode cX6_mean 5 = .ok (.aload_n 0, 1) := by decide +kernel
theorem dX6_mean_6 : decode cX6_mean 6 = .ok (.iload_n 1, 1) := by decide +kernel
theorem dX6_mean_7 : decode cX6_mean 7 = .ok (.ldc_w 303, 3) := by decide +kernel
theorem dX6_mean_10 : decode cX6_mean 10 = .ok (.if_icmp .ge 7, 3) := by decide +kernel
theorem dX6_mean_13 : decode cX6_mean 13 = .ok (.iconst 0, 1) := by decide +kernel
theorem dX6_mean_14 : decode cX6_mean 14 = .ok (.goto 4, 3) := by decide +kernel
theorem dX6_mean_17 : decode cX6_mean 17 = .ok (.iconst 1, 1) := by decide +kernel
theorem dX6_mean_18 : decode cX6_mean 18 = .ok (.putfield 95, 3) := by decide +kernel
theorem dX6_mean_21 : decode cX6_mean 21 = .ok (.aload_n 0, 1) := by decide +kernel
theorem dX6_mean_22 : decode cX6_mean 22 = .ok (.getfield 95, 3) := by decide +kernel
theorem dX6_mean_25 : decode cX6_mean 25 = .ok (.ifCond .gt 10, 3) := by decide +kernel
theorem dX6_mean_28 : decode cX6_mean 28 = .ok (.aload_n 0, 1) := by decide +kernel
theorem dX6_mean_29 : decode cX6_mean 29 = .ok (.invokevirtual 113, 3) := by decide +kernel
theorem dX6_mean_32 : decode cX6_mean 32 = .ok (.ifCond .ne 7, 3) := by decide +kernel
theorem dX6_mean_35 : decode cX6_mean 35 = .ok (.dconst 0, 1) := by decide +kernel
theorem dX6_mean_36 : decode cX6_mean 36 = .ok (.goto 11, 3) := by decide +kernel
theorem dX6_mean_39 : decode cX6_mean 39 = .ok (.iload_n 1, 1) := by decide +kernel
theorem dX6_mean_40 : decode cX6_mean 40 = .ok (.i2d, 1) := by decide +kernel
theorem dX6_mean_41 : decode cX6_mean 41 = .ok (.aload_n 0, 1) := by decide +kernel
theorem dX6_mean_42 : decode cX6_mean 42 = .ok (.invokevirtual 324, 3) := by decide +kernel
theorem dX6_mean_45 : decode cX6_mean 45 = .ok (.i2d, 1) := by decide +kernel
theorem dX6_mean_46 : decode cX6_mean 46 = .ok (.ddiv, 1) := by decide +kernel
theorem dX6_mean_47 : decode cX6_mean 47 = .ok (.dreturn, 1) := by decide +kernel
theorem dX6_readsFingers_0 : decode cX6_readsFingers 0 = .ok (.aload_n 0, 1) := by decide +kernel
theorem dX6_readsFingers_1 : decode cX6_readsFingers 1 = .ok (.invokevirtual 209, 3) := by decide +kernel
theorem dX6_readsFingers_4 : decode cX6_readsFingers 4 = .ok (.iconst 0, 1) := by decide +kernel
theorem dX6_readsFingers_5 : decode cX6_readsFingers 5 = .ok (.istore_n 1, 1) := by decide +kernel
theorem dX6_readsFingers_6 : decode cX6_readsFingers 6 = .ok (.iload_n 1, 1) := by decide +kernel
theorem dX6_readsFingers_7 : decode cX6_readsFingers 7 = .ok (.aload_n 0, 1) := by decide +kernel
theorem dX6_readsFingers_8 : decode cX6_readsFingers 8 = .ok (.invokevirtual 113, 3) := by decide +kernel
theorem dX6_readsFingers_11 : decode cX6_readsFingers 11 = .ok (.if_icmp .ge 81, 3) := by decide +kernel
theorem dX6_readsFingers_14 : decode cX6_readsFingers 14 = .ok (.aload_n 0, 1) := by decide +kernel
theorem dX6_readsFingers_15 : decode cX6_readsFingers 15 = .ok (.getfield 64, 3) := by decide +kernel
theorem dX6_readsFingers_18 : decode cX6_readsFingers 18 = .ok (.iload_n 1, 1) := by decide +kernel
theorem dX6_readsFingers_19 : decode cX6_readsFingers 19 = .ok (.iconst 0, 1) := by decide +kernel
theorem dX6_readsFingers_20 : decode cX6_readsFingers 20 = .ok (.iastore, 1) := by decide +kernel
theorem dX6_readsFingers_21 : decode cX6_readsFingers 21 = .ok (.bipush 25, 2) := by decide +kernel
theorem dX6_readsFingers_23 : decode cX6_readsFingers 23 = .ok (.istore_n 2, 1) := by decide +kernel
theorem dX6_readsFingers_24 : decode cX6_readsFingers 24 = .ok (.iconst 0, 1) := by decide +kernel
theorem dX6_readsFingers_25 : decode cX6_readsFingers 25 = .ok (.istore_n 3, 1) := by decide +kernel
theorem dX6_readsFingers_26 : decode cX6_readsFingers 26 = .ok (.iload_n 3, 1) := by decide +kernel
theorem dX6_readsFingers_27 : decode cX6_readsFingers 27 = .ok (.aload_n 0, 1) := by decide +kernel
theorem dX6_readsFingers_28 : decode cX6_readsFingers 28 = .ok (.iload_n 1, 1) := by decide +kernel
theorem dX6_readsFingers_29 : decode cX6_readsFingers 29 = .ok (.invokevirtual 239, 3) := by decide +kernel
theorem dX6_readsFingers_32 : decode cX6_readsFingers 32 = .ok (.if_icmp .ge 54, 3) := by decide +kernel
theorem dX6_readsFingers_35 : decode cX6_readsFingers 35 = .ok (.aload_n 0, 1) := by decide +kernel
theorem dX6_readsFingers_36 : decode cX6_readsFingers 36 = .ok (.getfield 144, 3) := by decide +kernel
theorem dX6_readsFingers_39 : decode cX6_readsFingers 39 = .ok (.ifCond .ne 47, 3) := by decide +kernel
theorem dX6_readsFingers_42 : decode cX6_readsFingers 42 = .ok (.aload_n 0, 1) := by decide +kernel
theorem dX6_readsFingers_43 : decode cX6_readsFingers 43 = .ok (.getfield 134, 3) := by decide +kernel
theorem dX6_readsFingers_46 : decode cX6_readsFingers 46 = .ok (.iconst 3, 1) := by decide +kernel
theorem dX6_readsFingers_47 : decode cX6_readsFingers 47 = .ok (.if_icmp .ne 9, 3) := by decide +kernel
theorem dX6_readsFingers_50 : decode cX6_readsFingers 50 = .ok (.aload_n 0, 1) := by decide +kernel
theorem dX6_readsFingers_51 : decode cX6_readsFingers 51 = .ok (.bipush (-4), 2) := by decide +kernel
theorem dX6_readsFingers_53 : decode cX6_readsFingers 53 = .ok (.invokevirtual 162, 3) := by decide +kernel
theorem dX6_readsFingers_56 : decode cX6_readsFingers 56 = .ok (.aload_n 0, 1) := by decide +kernel
theorem dX6_readsFingers_57 : decode cX6_readsFingers 57 = .ok (.getfield 64, 3) := by decide +kernel
theorem dX6_readsFingers_60 : decode cX6_readsFingers 60 = .ok (.iload_n 1, 1) := by decide +kernel
theorem dX6_readsFingers_61 : decode cX6_readsFingers 61 = .ok (.dup2, 1) := by decide +kernel
theorem dX6_readsFingers_62 : decode cX6_readsFingers 62 = .ok (.iaload, 1) := by decide +kernel
theorem dX6_readsFingers_63 : decode cX6_readsFingers 63 = .ok (.iload_n 2, 1) := by decide +kernel
theorem dX6_readsFingers_64 : decode cX6_readsFingers 64 = .ok (.aload_n 0, 1) := by decide +kernel
theorem dX6_readsFingers_65 : decode cX6_readsFingers 65 = .ok (.iconst 1, 1) := by decide +kernel
theorem dX6_readsFingers_66 : decode cX6_readsFingers 66 = .ok (.iconst 5, 1) := by decide +kernel
theorem dX6_readsFingers_67 : decode cX6_readsFingers 67 = .ok (.iconst 1, 1) := by decide +kernel
theorem dX6_readsFingers_68 : decode cX6_readsFingers 68 = .ok (.invokevirtual 198, 3) := by decide +kernel
theorem dX6_readsFingers_71 : decode cX6_readsFingers 71 = .ok (.iconst 1, 1) := by decide +kernel
theorem dX6_readsFingers_72 : decode cX6_readsFingers 72 = .ok (.isub, 1) := by decide +kernel
theorem dX6_readsFingers_73 : decode cX6_readsFingers 73 = .ok (.imul, 1) := by decide +kernel
theorem dX6_readsFingers_74 : decode cX6_readsFingers 74 = .ok (.iadd, 1) := by decide +kernel
theorem dX6_readsFingers_75 : decode cX6_readsFingers 75 = .ok (.iastore, 1) := by decide +kernel
theorem dX6_readsFingers_76 : decode cX6_readsFingers 76 = .ok (.iload_n 2, 1) := by decide +kernel
theorem dX6_readsFingers_77 : decode cX6_readsFingers 77 = .ok (.iconst 5, 1) := by decide +kernel
theorem dX6_readsFingers_78 : decode cX6_readsFingers 78 = .ok (.idiv, 1) := by decide +kernel
theorem dX6_readsFingers_79 : decode cX6_readsFingers 79 = .ok (.istore_n 2, 1) := by decide +kernel
theorem dX6_readsFingers_80 : decode cX6_readsFingers 80 = .ok (.iinc 3 1, 3) := by decide +kernel
theorem dX6_readsFingers_83 : decode cX6_readsFingers 83 = .ok (.goto (-57), 3) := by decide +kernel
theorem dX6_readsFingers_86 : decode cX6_readsFingers 86 = .ok (.iinc 1 1, 3) := by decide +kernel
theorem dX6_readsFingers_89 : decode cX6_readsFingers 89 = .ok (.goto (-83), 3) := by decide +kernel
theorem dX6_readsFingers_92 : decode cX6_readsFingers 92 = .ok (.aload_n 0, 1) := by decide +kernel
theorem dX6_readsFingers_93 : decode cX6_readsFingers 93 = .ok (.getfield 144, 3) := by decide +kernel
theorem dX6_readsFingers_96 : decode cX6_readsFingers 96 = .ok (.ifCond .ne 30, 3) := by decide +kernel
theorem dX6_readsFingers_99 : decode cX6_readsFingers 99 = .ok (.aload_n 0, 1) := by decide +kernel
theorem dX6_readsFingers_100 : decode cX6_readsFingers 100 = .ok (.getfield 134, 3) := by decide +kernel
theorem dX6_readsFingers_103 : decode cX6_readsFingers 103 = .ok (.iconst 3, 1) := by decide +kernel
theorem dX6_readsFingers_104 : decode cX6_readsFingers 104 = .ok (.if_icmp .eq 22, 3) := by decide +kernel
theorem dX6_readsFingers_107 : decode cX6_readsFingers 107 = .ok (.aload_n 0, 1) := by decide +kernel
theorem dX6_readsFingers_108 : decode cX6_readsFingers 108 = .ok (.aload_n 0, 1) := by decide +kernel
theorem dX6_readsFingers_109 : decode cX6_readsFingers 109 = .ok (.getfield 134, 3) := by decide +kernel
theorem dX6_readsFingers_112 : decode cX6_readsFingers 112 = .ok (.iconst 1, 1) := by decide +kernel
theorem dX6_readsFingers_113 : decode cX6_readsFingers 113 = .ok (.if_icmp .ne 8, 3) := by decide +kernel
theorem dX6_readsFingers_116 : decode cX6_readsFingers 116 = .ok (.bipush (-5), 2) := by decide +kernel
theorem dX6_readsFingers_118 : decode cX6_readsFingers 118 = .ok (.goto 5, 3) := by decide +kernel
theorem dX6_readsFingers_121 : decode cX6_readsFingers 121 = .ok (.bipush (-2), 2) := by decide +kernel
theorem dX6_readsFingers_123 : decode cX6_readsFingers 123 = .ok (.invokevirtual 162, 3) := by decide +kernel
theorem dX6_readsFingers_126 : decode cX6_readsFingers 126 = .ok (.aload_n 0, 1) := by decide +kernel
theorem dX6_readsFingers_127 : decode cX6_readsFingers 127 = .ok (.invokevirtual 233, 3) := by decide +kernel
theorem dX6_readsFingers_130 : decode cX6_readsFingers 130 = .ok (.return_, 1) := by decide +kernel
theorem dX6_costOfEvent_0 : decode cX6_costOfEvent 0 = .ok (.aload_n 0, 1) := by decide +kernel
theorem dX6_costOfEvent_1 : decode cX6_costOfEvent 1 = .ok (.aload_n 0, 1) := by decide +kernel
theorem dX6_costOfEvent_2 : decode cX6_costOfEvent 2 = .ok (.getfield 64, 3) := by decide +kernel
theorem dX6_costOfEvent_5 : decode cX6_costOfEvent 5 = .ok (.iload_n 1, 1) := by decide +kernel
theorem dX6_costOfEvent_6 : decode cX6_costOfEvent 6 = .ok (.iaload, 1) := by decide +kernel
theorem dX6_costOfEvent_7 : decode cX6_costOfEvent 7 = .ok (.aload_n 0, 1) := by decide +kernel
theorem dX6_costOfEvent_8 : decode cX6_costOfEvent 8 = .ok (.iload_n 1, 1) := by decide +kernel
theorem dX6_costOfEvent_9 : decode cX6_costOfEvent 9 = .ok (.invokevirtual 239, 3) := by decide +kernel
theorem dX6_costOfEvent_12 : decode cX6_costOfEvent 12 = .ok (.invokevirtual 269, 3) := by decide +kernel
theorem dX6_costOfEvent_15 : decode cX6_costOfEvent 15 = .ok (.aload_n 0, 1) := by decide +kernel
theorem dX6_costOfEvent_16 : decode cX6_costOfEvent 16 = .ok (.iload_n 1, 1) := by decide +kernel
theorem dX6_costOfEvent_17 : decode cX6_costOfEvent 17 = .ok (.invokevirtual 273, 3) := by decide +kernel
theorem dX6_costOfEvent_20 : decode cX6_costOfEvent 20 = .ok (.ireturn, 1) := by decide +kernel
theorem dX6_faultNow_0 : decode cX6_faultNow 0 = .ok (.iconst 0, 1) := by decide +kernel
theorem dX6_faultNow_1 : decode cX6_faultNow 1 = .ok (.istore_n 1, 1) := by decide +kernel
theorem dX6_faultNow_2 : decode cX6_faultNow 2 = .ok (.iload_n 1, 1) := by decide +kernel
theorem dX6_faultNow_3 : decode cX6_faultNow 3 = .ok (.aload_n 0, 1) := by decide +kernel
theorem dX6_faultNow_4 : decode cX6_faultNow 4 = .ok (.invokevirtual 113, 3) := by decide +kernel
theorem dX6_faultNow_7 : decode cX6_faultNow 7 = .ok (.if_icmp .ge 61, 3) := by decide +kernel
theorem dX6_faultNow_10 : decode cX6_faultNow 10 = .ok (.aload_n 0, 1) := by decide +kernel
theorem dX6_faultNow_11 : decode cX6_faultNow 11 = .ok (.iload_n 1, 1) := by decide +kernel
theorem dX6_faultNow_12 : decode cX6_faultNow 12 = .ok (.invokevirtual 366, 3) := by decide +kernel
theorem dX6_faultNow_15 : decode cX6_faultNow 15 = .ok (.iconst (-1), 1) := by decide +kernel
theorem dX6_faultNow_16 : decode cX6_faultNow 16 = .ok (.if_icmp .ne 10, 3) := by decide +kernel
theorem dX6_faultNow_19 : decode cX6_faultNow 19 = .ok (.bipush 10, 2) := by decide +kernel
theorem dX6_faultNow_21 : decode cX6_faultNow 21 = .ok (.iload_n 1, 1) := by decide +kernel
theorem dX6_faultNow_22 : decode cX6_faultNow 22 = .ok (.imul, 1) := by decide +kernel
theorem dX6_faultNow_23 : decode cX6_faultNow 23 = .ok (.iconst 1, 1) := by decide +kernel
theorem dX6_faultNow_24 : decode cX6_faultNow 24 = .ok (.iadd, 1) := by decide +kernel
theorem dX6_faultNow_25 : decode cX6_faultNow 25 = .ok (.ireturn, 1) := by decide +kernel
theorem dX6_faultNow_26 : decode cX6_faultNow 26 = .ok (.iload_n 1, 1) := by decide +kernel
theorem dX6_faultNow_27 : decode cX6_faultNow 27 = .ok (.ifCond .le 35, 3) := by decide +kernel
theorem dX6_faultNow_30 : decode cX6_faultNow 30 = .ok (.aload_n 0, 1) := by decide +kernel
theorem dX6_faultNow_31 : decode cX6_faultNow 31 = .ok (.iload_n 1, 1) := by decide +kernel
theorem dX6_faultNow_32 : decode cX6_faultNow 32 = .ok (.iconst 1, 1) := by decide +kernel
theorem dX6_faultNow_33 : decode cX6_faultNow 33 = .ok (.isub, 1) := by decide +kernel
theorem dX6_faultNow_34 : decode cX6_faultNow 34 = .ok (.aload_n 0, 1) := by decide +kernel
theorem dX6_faultNow_35 : decode cX6_faultNow 35 = .ok (.getfield 64, 3) := by decide +kernel
theorem dX6_faultNow_38 : decode cX6_faultNow 38 = .ok (.iload_n 1, 1) := by decide +kernel
theorem dX6_faultNow_39 : decode cX6_faultNow 39 = .ok (.iconst 1, 1) := by decide +kernel
theorem dX6_faultNow_40 : decode cX6_faultNow 40 = .ok (.isub, 1) := by decide +kernel
theorem dX6_faultNow_41 : decode cX6_faultNow 41 = .ok (.iaload, 1) := by decide +kernel
theorem dX6_faultNow_42 : decode cX6_faultNow 42 = .ok (.aload_n 0, 1) := by decide +kernel
theorem dX6_faultNow_43 : decode cX6_faultNow 43 = .ok (.getfield 64, 3) := by decide +kernel
theorem dX6_faultNow_46 : decode cX6_faultNow 46 = .ok (.iload_n 1, 1) := by decide +kernel
theorem dX6_faultNow_47 : decode cX6_faultNow 47 = .ok (.iaload, 1) := by decide +kernel
theorem dX6_faultNow_48 : decode cX6_faultNow 48 = .ok (.invokevirtual 304, 3) := by decide +kernel
theorem dX6_faultNow_51 : decode cX6_faultNow 51 = .ok (.iconst (-1), 1) := by decide +kernel
theorem dX6_faultNow_52 : decode cX6_faultNow 52 = .ok (.if_icmp .ne 10, 3) := by decide +kernel
theorem dX6_faultNow_55 : decode cX6_faultNow 55 = .ok (.bipush 10, 2) := by decide +kernel
theorem dX6_faultNow_57 : decode cX6_faultNow 57 = .ok (.iload_n 1, 1) := by decide +kernel
theorem dX6_faultNow_58 : decode cX6_faultNow 58 = .ok (.imul, 1) := by decide +kernel
theorem dX6_faultNow_59 : decode cX6_faultNow 59 = .ok (.iconst 2, 1) := by decide +kernel
theorem dX6_faultNow_60 : decode cX6_faultNow 60 = .ok (.iadd, 1) := by decide +kernel
theorem dX6_faultNow_61 : decode cX6_faultNow 61 = .ok (.ireturn, 1) := by decide +kernel
theorem dX6_faultNow_62 : decode cX6_faultNow 62 = .ok (.iinc 1 1, 3) := by decide +kernel
theorem dX6_faultNow_65 : decode cX6_faultNow 65 = .ok (.goto (-63), 3) := by decide +kernel
theorem dX6_faultNow_68 : decode cX6_faultNow 68 = .ok (.iconst (-1), 1) := by decide +kernel
theorem dX6_faultNow_69 : decode cX6_faultNow 69 = .ok (.ireturn, 1) := by decide +kernel
theorem dX6_costOfTold_0 : decode cX6_costOfTold 0 = .ok (.aload_n 0, 1) := by decide +kernel
theorem dX6_costOfTold_1 : decode cX6_costOfTold 1 = .ok (.invokevirtual 369, 3) := by decide +kernel
theorem dX6_costOfTold_4 : decode cX6_costOfTold 4 = .ok (.aload_n 0, 1) := by decide +kernel
theorem dX6_costOfTold_5 : decode cX6_costOfTold 5 = .ok (.getfield 144, 3) := by decide +kernel
theorem dX6_costOfTold_8 : decode cX6_costOfTold 8 = .ok (.ifCond .eq 8, 3) := by decide +kernel
theorem dX6_costOfTold_11 : decode cX6_costOfTold 11 = .ok (.aload_n 0, 1) := by decide +kernel
theorem dX6_costOfTold_12 : decode cX6_costOfTold 12 = .ok (.getfield 144, 3) := by decide +kernel
theorem dX6_costOfTold_15 : decode cX6_costOfTold 15 = .ok (.ireturn, 1) := by decide +kernel
theorem dX6_costOfTold_16 : decode cX6_costOfTold 16 = .ok (.aload_n 0, 1) := by decide +kernel
theorem dX6_costOfTold_17 : decode cX6_costOfTold 17 = .ok (.invokevirtual 372, 3) := by decide +kernel
theorem dX6_costOfTold_20 : decode cX6_costOfTold 20 = .ok (.iconst (-1), 1) := by decide +kernel
theorem dX6_costOfTold_21 : decode cX6_costOfTold 21 = .ok (.if_icmp .eq 6, 3) := by decide +kernel
theorem dX6_costOfTold_24 : decode cX6_costOfTold 24 = .ok (.bipush (-10), 2) := by decide +kernel
theorem dX6_costOfTold_26 : decode cX6_costOfTold 26 = .ok (.ireturn, 1) := by decide +kernel
theorem dX6_costOfTold_27 : decode cX6_costOfTold 27 = .ok (.iconst 0, 1) := by decide +kernel
theorem dX6_costOfTold_28 : decode cX6_costOfTold 28 = .ok (.istore_n 1, 1) := by decide +kernel
theorem dX6_costOfTold_29 : decode cX6_costOfTold 29 = .ok (.iconst 0, 1) := by decide +kernel
theorem dX6_costOfTold_30 : decode cX6_costOfTold 30 = .ok (.istore_n 2, 1) := by decide +kernel
theorem dX6_costOfTold_31 : decode cX6_costOfTold 31 = .ok (.iload_n 2, 1) := by decide +kernel
theorem dX6_costOfTold_32 : decode cX6_costOfTold 32 = .ok (.aload_n 0, 1) := by decide +kernel
theorem dX6_costOfTold_33 : decode cX6_costOfTold 33 = .ok (.invokevirtual 113, 3) := by decide +kernel
theorem dX6_costOfTold_36 : decode cX6_costOfTold 36 = .ok (.if_icmp .ge 47, 3) := by decide +kernel
theorem dX6_costOfTold_39 : decode cX6_costOfTold 39 = .ok (.iload_n 1, 1) := by decide +kernel
theorem dX6_costOfTold_40 : decode cX6_costOfTold 40 = .ok (.aload_n 0, 1) := by decide +kernel
theorem dX6_costOfTold_41 : decode cX6_costOfTold 41 = .ok (.iload_n 2, 1) := by decide +kernel
theorem dX6_costOfTold_42 : decode cX6_costOfTold 42 = .ok (.invokevirtual 366, 3) := by decide +kernel
theorem dX6_costOfTold_45 : decode cX6_costOfTold 45 = .ok (.iload_n 2, 1) := by decide +kernel
theorem dX6_costOfTold_46 : decode cX6_costOfTold 46 = .ok (.ifCond .le 27, 3) := by decide +kernel
theorem dX6_costOfTold_49 : decode cX6_costOfTold 49 = .ok (.aload_n 0, 1) := by decide +kernel
theorem dX6_costOfTold_50 : decode cX6_costOfTold 50 = .ok (.iload_n 2, 1) := by decide +kernel
theorem dX6_costOfTold_51 : decode cX6_costOfTold 51 = .ok (.iconst 1, 1) := by decide +kernel
theorem dX6_costOfTold_52 : decode cX6_costOfTold 52 = .ok (.isub, 1) := by decide +kernel
theorem dX6_costOfTold_53 : decode cX6_costOfTold 53 = .ok (.aload_n 0, 1) := by decide +kernel
theorem dX6_costOfTold_54 : decode cX6_costOfTold 54 = .ok (.getfield 64, 3) := by decide +kernel
theorem dX6_costOfTold_57 : decode cX6_costOfTold 57 = .ok (.iload_n 2, 1) := by decide +kernel
theorem dX6_costOfTold_58 : decode cX6_costOfTold 58 = .ok (.iconst 1, 1) := by decide +kernel
theorem dX6_costOfTold_59 : decode cX6_costOfTold 59 = .ok (.isub, 1) := by decide +kernel
theorem dX6_costOfTold_60 : decode cX6_costOfTold 60 = .ok (.iaload, 1) := by decide +kernel
theorem dX6_costOfTold_61 : decode cX6_costOfTold 61 = .ok (.aload_n 0, 1) := by decide +kernel
theorem dX6_costOfTold_62 : decode cX6_costOfTold 62 = .ok (.getfield 64, 3) := by decide +kernel
theorem dX6_costOfTold_65 : decode cX6_costOfTold 65 = .ok (.iload_n 2, 1) := by decide +kernel
theorem dX6_costOfTold_66 : decode cX6_costOfTold 66 = .ok (.iaload, 1) := by decide +kernel
theorem dX6_costOfTold_67 : decode cX6_costOfTold 67 = .ok (.invokevirtual 304, 3) := by decide +kernel
theorem dX6_costOfTold_70 : decode cX6_costOfTold 70 = .ok (.goto 4, 3) := by decide +kernel
theorem dX6_costOfTold_73 : decode cX6_costOfTold 73 = .ok (.iconst 0, 1) := by decide +kernel
theorem dX6_costOfTold_74 : decode cX6_costOfTold 74 = .ok (.iadd, 1) := by decide +kernel
theorem dX6_costOfTold_75 : decode cX6_costOfTold 75 = .ok (.iadd, 1) := by decide +kernel
theorem dX6_costOfTold_76 : decode cX6_costOfTold 76 = .ok (.istore_n 1, 1) := by decide +kernel
theorem dX6_costOfTold_77 : decode cX6_costOfTold 77 = .ok (.iinc 2 1, 3) := by decide +kernel
theorem dX6_costOfTold_80 : decode cX6_costOfTold 80 = .ok (.goto (-49), 3) := by decide +kernel
theorem dX6_costOfTold_83 : decode cX6_costOfTold 83 = .ok (.iload_n 1, 1) := by decide +kernel
theorem dX6_costOfTold_84 : decode cX6_costOfTold 84 = .ok (.ireturn, 1) := by decide +kernel
theorem dX6_faultOfTold_0 : decode cX6_faultOfTold 0 = .ok (.aload_n 0, 1) := by decide +kernel
theorem dX6_faultOfTold_1 : decode cX6_faultOfTold 1 = .ok (.invokevirtual 369, 3) := by decide +kernel
theorem dX6_faultOfTold_4 : decode cX6_faultOfTold 4 = .ok (.aload_n 0, 1) := by decide +kernel
theorem dX6_faultOfTold_5 : decode cX6_faultOfTold 5 = .ok (.getfield 144, 3) := by decide +kernel
theorem dX6_faultOfTold_8 : decode cX6_faultOfTold 8 = .ok (.ifCond .eq 8, 3) := by decide +kernel
theorem dX6_faultOfTold_11 : decode cX6_faultOfTold 11 = .ok (.aload_n 0, 1) := by decide +kernel
theorem dX6_faultOfTold_12 : decode cX6_faultOfTold 12 = .ok (.getfield 144, 3) := by decide +kernel
theorem dX6_faultOfTold_15 : decode cX6_faultOfTold 15 = .ok (.ireturn, 1) := by decide +kernel
theorem dX6_faultOfTold_16 : decode cX6_faultOfTold 16 = .ok (.aload_n 0, 1) := by decide +kernel
theorem dX6_faultOfTold_17 : decode cX6_faultOfTold 17 = .ok (.invokevirtual 372, 3) := by decide +kernel
theorem dX6_faultOfTold_20 : decode cX6_faultOfTold 20 = .ok (.istore_n 1, 1) := by decide +kernel
theorem dX6_faultOfTold_21 : decode cX6_faultOfTold 21 = .ok (.iload_n 1, 1) := by decide +kernel
theorem dX6_faultOfTold_22 : decode cX6_faultOfTold 22 = .ok (.iconst (-1), 1) := by decide +kernel
theorem dX6_faultOfTold_23 : decode cX6_faultOfTold 23 = .ok (.if_icmp .ne 8, 3) := by decide +kernel
theorem dX6_faultOfTold_26 : decode cX6_faultOfTold 26 = .ok (.bipush (-10), 2) := by decide +kernel
theorem dX6_faultOfTold_28 : decode cX6_faultOfTold 28 = .ok (.goto 4, 3) := by decide +kernel
theorem dX6_faultOfTold_31 : decode cX6_faultOfTold 31 = .ok (.iload_n 1, 1) := by decide +kernel
theorem dX6_faultOfTold_32 : decode cX6_faultOfTold 32 = .ok (.ireturn, 1) := by decide +kernel
theorem dX6_otherHand_0 : decode cX6_otherHand 0 = .ok (.aload_n 0, 1) := by decide +kernel
theorem dX6_otherHand_1 : decode cX6_otherHand 1 = .ok (.iconst 0, 1) := by decide +kernel
theorem dX6_otherHand_2 : decode cX6_otherHand 2 = .ok (.putfield 95, 3) := by decide +kernel
theorem dX6_otherHand_5 : decode cX6_otherHand 5 = .ok (.aload_n 0, 1) := by decide +kernel
theorem dX6_otherHand_6 : decode cX6_otherHand 6 = .ok (.getfield 7, 3) := by decide +kernel
theorem dX6_otherHand_9 : decode cX6_otherHand 9 = .ok (.iconst 1, 1) := by decide +kernel
theorem dX6_otherHand_10 : decode cX6_otherHand 10 = .ok (.iconst 1, 1) := by decide +kernel
theorem dX6_otherHand_11 : decode cX6_otherHand 11 = .ok (.aload_n 0, 1) := by decide +kernel
theorem dX6_otherHand_12 : decode cX6_otherHand 12 = .ok (.getfield 7, 3) := by decide +kernel
theorem dX6_otherHand_15 : decode cX6_otherHand 15 = .ok (.iconst 1, 1) := by decide +kernel
theorem dX6_otherHand_16 : decode cX6_otherHand 16 = .ok (.iaload, 1) := by decide +kernel
theorem dX6_otherHand_17 : decode cX6_otherHand 17 = .ok (.isub, 1) := by decide +kernel
theorem dX6_otherHand_18 : decode cX6_otherHand 18 = .ok (.iastore, 1) := by decide +kernel
theorem dX6_otherHand_19 : decode cX6_otherHand 19 = .ok (.aload_n 0, 1) := by decide +kernel
theorem dX6_otherHand_20 : decode cX6_otherHand 20 = .ok (.invokevirtual 318, 3) := by decide +kernel
theorem dX6_otherHand_23 : decode cX6_otherHand 23 = .ok (.istore_n 1, 1) := by decide +kernel
theorem dX6_otherHand_24 : decode cX6_otherHand 24 = .ok (.aload_n 0, 1) := by decide +kernel
theorem dX6_otherHand_25 : decode cX6_otherHand 25 = .ok (.getfield 7, 3) := by decide +kernel
theorem dX6_otherHand_28 : decode cX6_otherHand 28 = .ok (.iconst 1, 1) := by decide +kernel
theorem dX6_otherHand_29 : decode cX6_otherHand 29 = .ok (.iconst 1, 1) := by decide +kernel
theorem dX6_otherHand_30 : decode cX6_otherHand 30 = .ok (.aload_n 0, 1) := by decide +kernel
theorem dX6_otherHand_31 : decode cX6_otherHand 31 = .ok (.getfield 7, 3) := by decide +kernel
theorem dX6_otherHand_34 : decode cX6_otherHand 34 = .ok (.iconst 1, 1) := by decide +kernel
theorem dX6_otherHand_35 : decode cX6_otherHand 35 = .ok (.iaload, 1) := by decide +kernel
theorem dX6_otherHand_36 : decode cX6_otherHand 36 = .ok (.isub, 1) := by decide +kernel
theorem dX6_otherHand_37 : decode cX6_otherHand 37 = .ok (.iastore, 1) := by decide +kernel
theorem dX6_otherHand_38 : decode cX6_otherHand 38 = .ok (.iload_n 1, 1) := by decide +kernel
theorem dX6_otherHand_39 : decode cX6_otherHand 39 = .ok (.invokestatic 347, 3) := by decide +kernel
theorem dX6_otherHand_42 : decode cX6_otherHand 42 = .ok (.ireturn, 1) := by decide +kernel
theorem dX6_canMove_0 : decode cX6_canMove 0 = .ok (.iload_n 1, 1) := by decide +kernel
theorem dX6_canMove_1 : decode cX6_canMove 1 = .ok (.bipush (-87), 2) := by decide +kernel
theorem dX6_canMove_3 : decode cX6_canMove 3 = .ok (.bipush 87, 2) := by decide +kernel
theorem dX6_canMove_5 : decode cX6_canMove 5 = .ok (.invokestatic 105, 3) := by decide +kernel
theorem dX6_canMove_8 : decode cX6_canMove 8 = .ok (.ifCond .eq 40, 3) := by decide +kernel
theorem dX6_canMove_11 : decode cX6_canMove 11 = .ok (.aload_n 0, 1) := by decide +kernel
theorem dX6_canMove_12 : decode cX6_canMove 12 = .ok (.invokevirtual 113, 3) := by decide +kernel
theorem dX6_canMove_15 : decode cX6_canMove 15 = .ok (.ifCond .eq 29, 3) := by decide +kernel
theorem dX6_canMove_18 : decode cX6_canMove 18 = .ok (.aload_n 0, 1) := by decide +kernel
theorem dX6_canMove_19 : decode cX6_canMove 19 = .ok (.iconst 0, 1) := by decide +kernel
theorem dX6_canMove_20 : decode cX6_canMove 20 = .ok (.invokevirtual 327, 3) := by decide +kernel
theorem dX6_canMove_23 : decode cX6_canMove 23 = .ok (.iload_n 1, 1) := by decide +kernel
theorem dX6_canMove_24 : decode cX6_canMove 24 = .ok (.iadd, 1) := by decide +kernel
theorem dX6_canMove_25 : decode cX6_canMove 25 = .ok (.invokestatic 344, 3) := by decide +kernel
theorem dX6_canMove_28 : decode cX6_canMove 28 = .ok (.ifCond .eq 20, 3) := by decide +kernel
theorem dX6_canMove_31 : decode cX6_canMove 31 = .ok (.aload_n 0, 1) := by decide +kernel
theorem dX6_canMove_32 : decode cX6_canMove 32 = .ok (.iconst 1, 1) := by decide +kernel
theorem dX6_canMove_33 : decode cX6_canMove 33 = .ok (.invokevirtual 327, 3) := by decide +kernel
theorem dX6_canMove_36 : decode cX6_canMove 36 = .ok (.iload_n 1, 1) := by decide +kernel
theorem dX6_canMove_37 : decode cX6_canMove 37 = .ok (.iadd, 1) := by decide +kernel
theorem dX6_canMove_38 : decode cX6_canMove 38 = .ok (.invokestatic 344, 3) := by decide +kernel
theorem dX6_canMove_41 : decode cX6_canMove 41 = .ok (.ifCond .eq 7, 3) := by decide +kernel
theorem dX6_canMove_44 : decode cX6_canMove 44 = .ok (.iconst 1, 1) := by decide +kernel
theorem dX6_canMove_45 : decode cX6_canMove 45 = .ok (.goto 4, 3) := by decide +kernel
theorem dX6_canMove_48 : decode cX6_canMove 48 = .ok (.iconst 0, 1) := by decide +kernel
theorem dX6_canMove_49 : decode cX6_canMove 49 = .ok (.ireturn, 1) := by decide +kernel
theorem dX6_moves_0 : decode cX6_moves 0 = .ok (.iconst 0, 1) := by decide +kernel
theorem dX6_moves_1 : decode cX6_moves 1 = .ok (.istore_n 2, 1) := by decide +kernel
theorem dX6_moves_2 : decode cX6_moves 2 = .ok (.iload_n 2, 1) := by decide +kernel
theorem dX6_moves_3 : decode cX6_moves 3 = .ok (.aload_n 0, 1) := by decide +kernel
theorem dX6_moves_4 : decode cX6_moves 4 = .ok (.invokevirtual 113, 3) := by decide +kernel
theorem dX6_moves_7 : decode cX6_moves 7 = .ok (.if_icmp .ge 46, 3) := by decide +kernel
theorem dX6_moves_10 : decode cX6_moves 10 = .ok (.iconst 0, 1) := by decide +kernel
theorem dX6_moves_11 : decode cX6_moves 11 = .ok (.istore_n 3, 1) := by decide +kernel
theorem dX6_moves_12 : decode cX6_moves 12 = .ok (.iload_n 3, 1) := by decide +kernel
theorem dX6_moves_13 : decode cX6_moves 13 = .ok (.aload_n 0, 1) := by decide +kernel
theorem dX6_moves_14 : decode cX6_moves 14 = .ok (.iload_n 2, 1) := by decide +kernel
theorem dX6_moves_15 : decode cX6_moves 15 = .ok (.invokevirtual 239, 3) := by decide +kernel
theorem dX6_moves_18 : decode cX6_moves 18 = .ok (.if_icmp .ge 29, 3) := by decide +kernel
theorem dX6_moves_21 : decode cX6_moves 21 = .ok (.aload_n 0, 1) := by decide +kernel
theorem dX6_moves_22 : decode cX6_moves 22 = .ok (.getfield 7, 3) := by decide +kernel
theorem dX6_moves_25 : decode cX6_moves 25 = .ok (.bipush 42, 2) := by decide +kernel
theorem dX6_moves_27 : decode cX6_moves 27 = .ok (.bipush 8, 2) := by decide +kernel
theorem dX6_moves_29 : decode cX6_moves 29 = .ok (.iload_n 2, 1) := by decide +kernel
theorem dX6_moves_30 : decode cX6_moves 30 = .ok (.imul, 1) := by decide +kernel
theorem dX6_moves_31 : decode cX6_moves 31 = .ok (.iadd, 1) := by decide +kernel
theorem dX6_moves_32 : decode cX6_moves 32 = .ok (.iconst 2, 1) := by decide +kernel
theorem dX6_moves_33 : decode cX6_moves 33 = .ok (.iadd, 1) := by decide +kernel
theorem dX6_moves_34 : decode cX6_moves 34 = .ok (.iload_n 3, 1) := by decide +kernel
theorem dX6_moves_35 : decode cX6_moves 35 = .ok (.iadd, 1) := by decide +kernel
theorem dX6_moves_36 : decode cX6_moves 36 = .ok (.dup2, 1) := by decide +kernel
theorem dX6_moves_37 : decode cX6_moves 37 = .ok (.iaload, 1) := by decide +kernel
theorem dX6_moves_38 : decode cX6_moves 38 = .ok (.iload_n 1, 1) := by decide +kernel
theorem dX6_moves_39 : decode cX6_moves 39 = .ok (.iadd, 1) := by decide +kernel
theorem dX6_moves_40 : decode cX6_moves 40 = .ok (.iastore, 1) := by decide +kernel
theorem dX6_moves_41 : decode cX6_moves 41 = .ok (.iinc 3 1, 3) := by decide +kernel
theorem dX6_moves_44 : decode cX6_moves 44 = .ok (.goto (-32), 3) := by decide +kernel
theorem dX6_moves_47 : decode cX6_moves 47 = .ok (.iinc 2 1, 3) := by decide +kernel
theorem dX6_moves_50 : decode cX6_moves 50 = .ok (.goto (-48), 3) := by decide +kernel
theorem dX6_moves_53 : decode cX6_moves 53 = .ok (.return_, 1) := by decide +kernel
theorem dX6_bestMoved_0 : decode cX6_bestMoved 0 = .ok (.aload_n 0, 1) := by decide +kernel
theorem dX6_bestMoved_1 : decode cX6_bestMoved 1 = .ok (.iload_n 1, 1) := by decide +kernel
theorem dX6_bestMoved_2 : decode cX6_bestMoved 2 = .ok (.invokevirtual 375, 3) := by decide +kernel
theorem dX6_bestMoved_5 : decode cX6_bestMoved 5 = .ok (.aload_n 0, 1) := by decide +kernel
theorem dX6_bestMoved_6 : decode cX6_bestMoved 6 = .ok (.invokevirtual 318, 3) := by decide +kernel
theorem dX6_bestMoved_9 : decode cX6_bestMoved 9 = .ok (.istore_n 2, 1) := by decide +kernel
theorem dX6_bestMoved_10 : decode cX6_bestMoved 10 = .ok (.aload_n 0, 1) := by decide +kernel
theorem dX6_bestMoved_11 : decode cX6_bestMoved 11 = .ok (.iload_n 1, 1) := by decide +kernel
theorem dX6_bestMoved_12 : decode cX6_bestMoved 12 = .ok (.ineg, 1) := by decide +kernel
theorem dX6_bestMoved_13 : decode cX6_bestMoved 13 = .ok (.invokevirtual 375, 3) := by decide +kernel
theorem dX6_bestMoved_16 : decode cX6_bestMoved 16 = .ok (.iload_n 2, 1) := by decide +kernel
theorem dX6_bestMoved_17 : decode cX6_bestMoved 17 = .ok (.ireturn, 1) := by decide +kernel
theorem dX6_transposed_0 : decode cX6_transposed 0 = .ok (.aload_n 0, 1) := by decide +kernel
theorem dX6_transposed_1 : decode cX6_transposed 1 = .ok (.aload_n 0, 1) := by decide +kernel
theorem dX6_transposed_2 : decode cX6_transposed 2 = .ok (.iload_n 1, 1) := by decide +kernel
theorem dX6_transposed_3 : decode cX6_transposed 3 = .ok (.invokevirtual 378, 3) := by decide +kernel
theorem dX6_transposed_6 : decode cX6_transposed 6 = .ok (.ifCond .eq 7, 3) := by decide +kernel
theorem dX6_transposed_9 : decode cX6_transposed 9 = .ok (.iconst 0, 1) := by decide +kernel
theorem dX6_transposed_10 : decode cX6_transposed 10 = .ok (.goto 4, 3) := by decide +kernel
theorem dX6_transposed_13 : decode cX6_transposed 13 = .ok (.iconst 1, 1) := by decide +kernel
theorem dX6_transposed_14 : decode cX6_transposed 14 = .ok (.putfield 95, 3) := by decide +kernel
theorem dX6_transposed_17 : decode cX6_transposed 17 = .ok (.aload_n 0, 1) := by decide +kernel
theorem dX6_transposed_18 : decode cX6_transposed 18 = .ok (.getfield 95, 3) := by decide +kernel
theorem dX6_transposed_21 : decode cX6_transposed 21 = .ok (.ifCond .le 7, 3) := by decide +kernel
theorem dX6_transposed_24 : decode cX6_transposed 24 = .ok (.iconst 0, 1) := by decide +kernel
theorem dX6_transposed_25 : decode cX6_transposed 25 = .ok (.goto 11, 3) := by decide +kernel
theorem dX6_transposed_28 : decode cX6_transposed 28 = .ok (.aload_n 0, 1) := by decide +kernel
theorem dX6_transposed_29 : decode cX6_transposed 29 = .ok (.iload_n 1, 1) := by decide +kernel
theorem dX6_transposed_30 : decode cX6_transposed 30 = .ok (.invokevirtual 381, 3) := by decide +kernel
theorem dX6_transposed_33 : decode cX6_transposed 33 = .ok (.invokestatic 347, 3) := by decide +kernel
theorem dX6_transposed_36 : decode cX6_transposed 36 = .ok (.ireturn, 1) := by decide +kernel
theorem dX6_easiest_0 : decode cX6_easiest 0 = .ok (.aload_n 0, 1) := by decide +kernel
theorem dX6_easiest_1 : decode cX6_easiest 1 = .ok (.iload_n 1, 1) := by decide +kernel
theorem dX6_easiest_2 : decode cX6_easiest 2 = .ok (.iconst 0, 1) := by decide +kernel
theorem dX6_easiest_3 : decode cX6_easiest 3 = .ok (.bipush 24, 2) := by decide +kernel
theorem dX6_easiest_5 : decode cX6_easiest 5 = .ok (.invokestatic 105, 3) := by decide +kernel
theorem dX6_easiest_8 : decode cX6_easiest 8 = .ok (.ifCond .eq 7, 3) := by decide +kernel
theorem dX6_easiest_11 : decode cX6_easiest 11 = .ok (.iconst 0, 1) := by decide +kernel
theorem dX6_easiest_12 : decode cX6_easiest 12 = .ok (.goto 4, 3) := by decide +kernel
theorem dX6_easiest_15 : decode cX6_easiest 15 = .ok (.iconst 1, 1) := by decide +kernel
theorem dX6_easiest_16 : decode cX6_easiest 16 = .ok (.putfield 95, 3) := by decide +kernel
theorem dX6_easiest_19 : decode cX6_easiest 19 = .ok (.aload_n 0, 1) := by decide +kernel
theorem dX6_easiest_20 : decode cX6_easiest 20 = .ok (.getfield 95, 3) := by decide +kernel
theorem dX6_easiest_23 : decode cX6_easiest 23 = .ok (.ifCond .le 5, 3) := by decide +kernel
theorem dX6_easiest_26 : decode cX6_easiest 26 = .ok (.iconst 0, 1) := by decide +kernel
theorem dX6_easiest_27 : decode cX6_easiest 27 = .ok (.ireturn, 1) := by decide +kernel
theorem dX6_easiest_28 : decode cX6_easiest 28 = .ok (.iconst 0, 1) := by decide +kernel
theorem dX6_easiest_29 : decode cX6_easiest 29 = .ok (.istore_n 2, 1) := by decide +kernel
theorem dX6_easiest_30 : decode cX6_easiest 30 = .ok (.ldc_w 303, 3) := by decide +kernel
theorem dX6_easiest_33 : decode cX6_easiest 33 = .ok (.istore_n 3, 1) := by decide +kernel
theorem dX6_easiest_34 : decode cX6_easiest 34 = .ok (.iconst 0, 1) := by decide +kernel
theorem dX6_easiest_35 : decode cX6_easiest 35 = .ok (.istore 4, 2) := by decide +kernel
theorem dX6_easiest_37 : decode cX6_easiest 37 = .ok (.iload 4, 2) := by decide +kernel
theorem dX6_easiest_39 : decode cX6_easiest 39 = .ok (.iconst 2, 1) := by decide +kernel
theorem dX6_easiest_40 : decode cX6_easiest 40 = .ok (.iload_n 1, 1) := by decide +kernel
theorem dX6_easiest_41 : decode cX6_easiest 41 = .ok (.imul, 1) := by decide +kernel
theorem dX6_easiest_42 : decode cX6_easiest 42 = .ok (.if_icmp .gt 71, 3) := by decide +kernel
theorem dX6_easiest_45 : decode cX6_easiest 45 = .ok (.iload 4, 2) := by decide +kernel
theorem dX6_easiest_47 : decode cX6_easiest 47 = .ok (.iconst 2, 1) := by decide +kernel
theorem dX6_easiest_48 : decode cX6_easiest 48 = .ok (.irem, 1) := by decide +kernel
theorem dX6_easiest_49 : decode cX6_easiest 49 = .ok (.iconst 1, 1) := by decide +kernel
theorem dX6_easiest_50 : decode cX6_easiest 50 = .ok (.if_icmp .ne 13, 3) := by decide +kernel
theorem dX6_easiest_53 : decode cX6_easiest 53 = .ok (.iload 4, 2) := by decide +kernel
theorem dX6_easiest_55 : decode cX6_easiest 55 = .ok (.iconst 1, 1) := by decide +kernel
theorem dX6_easiest_56 : decode cX6_easiest 56 = .ok (.iadd, 1) := by decide +kernel
theorem dX6_easiest_57 : decode cX6_easiest 57 = .ok (.ineg, 1) := by decide +kernel
theorem dX6_easiest_58 : decode cX6_easiest 58 = .ok (.iconst 2, 1) := by decide +kernel
theorem dX6_easiest_59 : decode cX6_easiest 59 = .ok (.idiv, 1) := by decide +kernel
theorem dX6_easiest_60 : decode cX6_easiest 60 = .ok (.goto 7, 3) := by decide +kernel
theorem dX6_easiest_63 : decode cX6_easiest 63 = .ok (.iload 4, 2) := by decide +kernel
theorem dX6_easiest_65 : decode cX6_easiest 65 = .ok (.iconst 2, 1) := by decide +kernel
theorem dX6_easiest_66 : decode cX6_easiest 66 = .ok (.idiv, 1) := by decide +kernel
theorem dX6_easiest_67 : decode cX6_easiest 67 = .ok (.istore 5, 2) := by decide +kernel
theorem dX6_easiest_69 : decode cX6_easiest 69 = .ok (.aload_n 0, 1) := by decide +kernel
theorem dX6_easiest_70 : decode cX6_easiest 70 = .ok (.iload 5, 2) := by decide +kernel
theorem dX6_easiest_72 : decode cX6_easiest 72 = .ok (.invokevirtual 378, 3) := by decide +kernel
theorem dX6_easiest_75 : decode cX6_easiest 75 = .ok (.ifCond .eq 12, 3) := by decide +kernel
theorem dX6_easiest_78 : decode cX6_easiest 78 = .ok (.aload_n 0, 1) := by decide +kernel
theorem dX6_easiest_79 : decode cX6_easiest 79 = .ok (.iload 5, 2) := by decide +kernel
theorem dX6_easiest_81 : decode cX6_easiest 81 = .ok (.invokevirtual 381, 3) := by decide +kernel
theorem dX6_easiest_84 : decode cX6_easiest 84 = .ok (.goto 6, 3) := by decide +kernel
theorem dX6_easiest_87 : decode cX6_easiest 87 = .ok (.ldc_w 303, 3) := by decide +kernel
theorem dX6_easiest_90 : decode cX6_easiest 90 = .ok (.istore 6, 2) := by decide +kernel
theorem dX6_easiest_92 : decode cX6_easiest 92 = .ok (.iload 6, 2) := by decide +kernel
theorem dX6_easiest_94 : decode cX6_easiest 94 = .ok (.iload_n 3, 1) := by decide +kernel
theorem dX6_easiest_95 : decode cX6_easiest 95 = .ok (.if_icmp .lt 6, 3) := by decide +kernel
theorem dX6_easiest_98 : decode cX6_easiest 98 = .ok (.goto 9, 3) := by decide +kernel
theorem dX6_easiest_101 : decode cX6_easiest 101 = .ok (.iload 6, 2) := by decide +kernel
theorem dX6_easiest_103 : decode cX6_easiest 103 = .ok (.istore_n 3, 1) := by decide +kernel
theorem dX6_easiest_104 : decode cX6_easiest 104 = .ok (.iload 5, 2) := by decide +kernel
theorem dX6_easiest_106 : decode cX6_easiest 106 = .ok (.istore_n 2, 1) := by decide +kernel
theorem dX6_easiest_107 : decode cX6_easiest 107 = .ok (.iinc 4 1, 3) := by decide +kernel
theorem dX6_easiest_110 : decode cX6_easiest 110 = .ok (.goto (-73), 3) := by decide +kernel
theorem dX6_easiest_113 : decode cX6_easiest 113 = .ok (.aload_n 0, 1) := by decide +kernel
theorem dX6_easiest_114 : decode cX6_easiest 114 = .ok (.iload_n 3, 1) := by decide +kernel
theorem dX6_easiest_115 : decode cX6_easiest 115 = .ok (.ldc_w 303, 3) := by decide +kernel
theorem dX6_easiest_118 : decode cX6_easiest 118 = .ok (.if_icmp .ge 7, 3) := by decide +kernel
theorem dX6_easiest_121 : decode cX6_easiest 121 = .ok (.iconst 0, 1) := by decide +kernel
theorem dX6_easiest_122 : decode cX6_easiest 122 = .ok (.goto 4, 3) := by decide +kernel
theorem dX6_easiest_125 : decode cX6_easiest 125 = .ok (.iconst 2, 1) := by decide +kernel
theorem dX6_easiest_126 : decode cX6_easiest 126 = .ok (.putfield 95, 3) := by decide +kernel
theorem dX6_easiest_129 : decode cX6_easiest 129 = .ok (.aload_n 0, 1) := by decide +kernel
theorem dX6_easiest_130 : decode cX6_easiest 130 = .ok (.getfield 95, 3) := by decide +kernel
theorem dX6_easiest_133 : decode cX6_easiest 133 = .ok (.ifCond .le 7, 3) := by decide +kernel
theorem dX6_easiest_136 : decode cX6_easiest 136 = .ok (.iconst 0, 1) := by decide +kernel
theorem dX6_easiest_137 : decode cX6_easiest 137 = .ok (.goto 4, 3) := by decide +kernel
theorem dX6_easiest_140 : decode cX6_easiest 140 = .ok (.iload_n 2, 1) := by decide +kernel
theorem dX6_easiest_141 : decode cX6_easiest 141 = .ok (.ireturn, 1) := by decide +kernel
theorem dX6_restBehind_0 : decode cX6_restBehind 0 = .ok (.aload_n 0, 1) := by decide +kernel
theorem dX6_restBehind_1 : decode cX6_restBehind 1 = .ok (.iconst 0, 1) := by decide +kernel
theorem dX6_restBehind_2 : decode cX6_restBehind 2 = .ok (.putfield 95, 3) := by decide +kernel
theorem dX6_restBehind_5 : decode cX6_restBehind 5 = .ok (.aload_n 0, 1) := by decide +kernel
theorem dX6_restBehind_6 : decode cX6_restBehind 6 = .ok (.invokevirtual 318, 3) := by decide +kernel
theorem dX6_restBehind_9 : decode cX6_restBehind 9 = .ok (.istore_n 1, 1) := by decide +kernel
theorem dX6_restBehind_10 : decode cX6_restBehind 10 = .ok (.iconst (-1), 1) := by decide +kernel
theorem dX6_restBehind_11 : decode cX6_restBehind 11 = .ok (.istore_n 2, 1) := by decide +kernel
theorem dX6_restBehind_12 : decode cX6_restBehind 12 = .ok (.iconst 0, 1) := by decide +kernel
theorem dX6_restBehind_13 : decode cX6_restBehind 13 = .ok (.istore_n 3, 1) := by decide +kernel
theorem dX6_restBehind_14 : decode cX6_restBehind 14 = .ok (.iload_n 3, 1) := by decide +kernel
theorem dX6_restBehind_15 : decode cX6_restBehind 15 = .ok (.iconst 1, 1) := by decide +kernel
theorem dX6_restBehind_16 : decode cX6_restBehind 16 = .ok (.iadd, 1) := by decide +kernel
theorem dX6_restBehind_17 : decode cX6_restBehind 17 = .ok (.aload_n 0, 1) := by decide +kernel
theorem dX6_restBehind_18 : decode cX6_restBehind 18 = .ok (.invokevirtual 113, 3) := by decide +kernel
theorem dX6_restBehind_21 : decode cX6_restBehind 21 = .ok (.if_icmp .ge 68, 3) := by decide +kernel
theorem dX6_restBehind_24 : decode cX6_restBehind 24 = .ok (.aload_n 0, 1) := by decide +kernel
theorem dX6_restBehind_25 : decode cX6_restBehind 25 = .ok (.iload_n 3, 1) := by decide +kernel
theorem dX6_restBehind_26 : decode cX6_restBehind 26 = .ok (.invokevirtual 242, 3) := by decide +kernel
theorem dX6_restBehind_29 : decode cX6_restBehind 29 = .ok (.istore 4, 2) := by decide +kernel
theorem dX6_restBehind_31 : decode cX6_restBehind 31 = .ok (.aload_n 0, 1) := by decide +kernel
theorem dX6_restBehind_32 : decode cX6_restBehind 32 = .ok (.getfield 7, 3) := by decide +kernel
theorem dX6_restBehind_35 : decode cX6_restBehind 35 = .ok (.bipush 42, 2) := by decide +kernel
theorem dX6_restBehind_37 : decode cX6_restBehind 37 = .ok (.bipush 8, 2) := by decide +kernel
theorem dX6_restBehind_39 : decode cX6_restBehind 39 = .ok (.iload_n 3, 1) := by decide +kernel
theorem dX6_restBehind_40 : decode cX6_restBehind 40 = .ok (.imul, 1) := by decide +kernel
theorem dX6_restBehind_41 : decode cX6_restBehind 41 = .ok (.iadd, 1) := by decide +kernel
theorem dX6_restBehind_42 : decode cX6_restBehind 42 = .ok (.iconst 1, 1) := by decide +kernel
theorem dX6_restBehind_43 : decode cX6_restBehind 43 = .ok (.iadd, 1) := by decide +kernel
theorem dX6_restBehind_44 : decode cX6_restBehind 44 = .ok (.bipush 9, 2) := by decide +kernel
theorem dX6_restBehind_46 : decode cX6_restBehind 46 = .ok (.iastore, 1) := by decide +kernel
theorem dX6_restBehind_47 : decode cX6_restBehind 47 = .ok (.aload_n 0, 1) := by decide +kernel
theorem dX6_restBehind_48 : decode cX6_restBehind 48 = .ok (.invokevirtual 318, 3) := by decide +kernel
theorem dX6_restBehind_51 : decode cX6_restBehind 51 = .ok (.istore 5, 2) := by decide +kernel
theorem dX6_restBehind_53 : decode cX6_restBehind 53 = .ok (.aload_n 0, 1) := by decide +kernel
theorem dX6_restBehind_54 : decode cX6_restBehind 54 = .ok (.getfield 7, 3) := by decide +kernel
theorem dX6_restBehind_57 : decode cX6_restBehind 57 = .ok (.bipush 42, 2) := by decide +kernel
theorem dX6_restBehind_59 : decode cX6_restBehind 59 = .ok (.bipush 8, 2) := by decide +kernel
theorem dX6_restBehind_61 : decode cX6_restBehind 61 = .ok (.iload_n 3, 1) := by decide +kernel
theorem dX6_restBehind_62 : decode cX6_restBehind 62 = .ok (.imul, 1) := by decide +kernel
theorem dX6_restBehind_63 : decode cX6_restBehind 63 = .ok (.iadd, 1) := by decide +kernel
theorem dX6_restBehind_64 : decode cX6_restBehind 64 = .ok (.iconst 1, 1) := by decide +kernel
theorem dX6_restBehind_65 : decode cX6_restBehind 65 = .ok (.iadd, 1) := by decide +kernel
theorem dX6_restBehind_66 : decode cX6_restBehind 66 = .ok (.iload 4, 2) := by decide +kernel
theorem dX6_restBehind_68 : decode cX6_restBehind 68 = .ok (.iastore, 1) := by decide +kernel
theorem dX6_restBehind_69 : decode cX6_restBehind 69 = .ok (.iload 5, 2) := by decide +kernel
theorem dX6_restBehind_71 : decode cX6_restBehind 71 = .ok (.iload_n 1, 1) := by decide +kernel
theorem dX6_restBehind_72 : decode cX6_restBehind 72 = .ok (.if_icmp .lt 6, 3) := by decide +kernel
theorem dX6_restBehind_75 : decode cX6_restBehind 75 = .ok (.goto 8, 3) := by decide +kernel
theorem dX6_restBehind_78 : decode cX6_restBehind 78 = .ok (.iload 5, 2) := by decide +kernel
theorem dX6_restBehind_80 : decode cX6_restBehind 80 = .ok (.istore_n 1, 1) := by decide +kernel
theorem dX6_restBehind_81 : decode cX6_restBehind 81 = .ok (.iload_n 3, 1) := by decide +kernel
theorem dX6_restBehind_82 : decode cX6_restBehind 82 = .ok (.istore_n 2, 1) := by decide +kernel
theorem dX6_restBehind_83 : decode cX6_restBehind 83 = .ok (.iinc 3 1, 3) := by decide +kernel
theorem dX6_restBehind_86 : decode cX6_restBehind 86 = .ok (.goto (-72), 3) := by decide +kernel
theorem dX6_restBehind_89 : decode cX6_restBehind 89 = .ok (.iload_n 2, 1) := by decide +kernel
theorem dX6_restBehind_90 : decode cX6_restBehind 90 = .ok (.ireturn, 1) := by decide +kernel
theorem dX6_areKeys_0 : decode cX6_areKeys 0 = .ok (.iload_n 0, 1) := by decide +kernel
theorem dX6_areKeys_1 : decode cX6_areKeys 1 = .ok (.invokestatic 344, 3) := by decide +kernel
theorem dX6_areKeys_4 : decode cX6_areKeys 4 = .ok (.ifCond .ne 5, 3) := by decide +kernel
theorem dX6_areKeys_7 : decode cX6_areKeys 7 = .ok (.iconst 0, 1) := by decide +kernel
theorem dX6_areKeys_8 : decode cX6_areKeys 8 = .ok (.ireturn, 1) := by decide +kernel
theorem dX6_areKeys_9 : decode cX6_areKeys 9 = .ok (.iload_n 1, 1) := by decide +kernel
theorem dX6_areKeys_10 : decode cX6_areKeys 10 = .ok (.ifCond .ne 13, 3) := by decide +kernel
theorem dX6_areKeys_13 : decode cX6_areKeys 13 = .ok (.iload_n 2, 1) := by decide +kernel
theorem dX6_areKeys_14 : decode cX6_areKeys 14 = .ok (.ifCond .ne 7, 3) := by decide +kernel
theorem dX6_areKeys_17 : decode cX6_areKeys 17 = .ok (.iconst 1, 1) := by decide +kernel
theorem dX6_areKeys_18 : decode cX6_areKeys 18 = .ok (.goto 4, 3) := by decide +kernel
theorem dX6_areKeys_21 : decode cX6_areKeys 21 = .ok (.iconst 0, 1) := by decide +kernel
theorem dX6_areKeys_22 : decode cX6_areKeys 22 = .ok (.ireturn, 1) := by decide +kernel
theorem dX6_areKeys_23 : decode cX6_areKeys 23 = .ok (.iload_n 1, 1) := by decide +kernel
theorem dX6_areKeys_24 : decode cX6_areKeys 24 = .ok (.iload_n 0, 1) := by decide +kernel
theorem dX6_areKeys_25 : decode cX6_areKeys 25 = .ok (.if_icmp .le 30, 3) := by decide +kernel
theorem dX6_areKeys_28 : decode cX6_areKeys 28 = .ok (.iload_n 1, 1) := by decide +kernel
theorem dX6_areKeys_29 : decode cX6_areKeys 29 = .ok (.invokestatic 344, 3) := by decide +kernel
theorem dX6_areKeys_32 : decode cX6_areKeys 32 = .ok (.ifCond .eq 23, 3) := by decide +kernel
theorem dX6_areKeys_35 : decode cX6_areKeys 35 = .ok (.iload_n 2, 1) := by decide +kernel
theorem dX6_areKeys_36 : decode cX6_areKeys 36 = .ok (.ifCond .eq 15, 3) := by decide +kernel
theorem dX6_areKeys_39 : decode cX6_areKeys 39 = .ok (.iload_n 2, 1) := by decide +kernel
theorem dX6_areKeys_40 : decode cX6_areKeys 40 = .ok (.iload_n 1, 1) := by decide +kernel
theorem dX6_areKeys_41 : decode cX6_areKeys 41 = .ok (.if_icmp .le 14, 3) := by decide +kernel
theorem dX6_areKeys_44 : decode cX6_areKeys 44 = .ok (.iload_n 2, 1) := by decide +kernel
theorem dX6_areKeys_45 : decode cX6_areKeys 45 = .ok (.invokestatic 344, 3) := by decide +kernel
theorem dX6_areKeys_48 : decode cX6_areKeys 48 = .ok (.ifCond .eq 7, 3) := by decide +kernel
theorem dX6_areKeys_51 : decode cX6_areKeys 51 = .ok (.iconst 1, 1) := by decide +kernel
theorem dX6_areKeys_52 : decode cX6_areKeys 52 = .ok (.goto 4, 3) := by decide +kernel
theorem dX6_areKeys_55 : decode cX6_areKeys 55 = .ok (.iconst 0, 1) := by decide +kernel
theorem dX6_areKeys_56 : decode cX6_areKeys 56 = .ok (.ireturn, 1) := by decide +kernel
theorem dX6_play_0 : decode cX6_play 0 = .ok (.aload_n 0, 1) := by decide +kernel
theorem dX6_play_1 : decode cX6_play 1 = .ok (.iload_n 1, 1) := by decide +kernel
theorem dX6_play_2 : decode cX6_play 2 = .ok (.iconst 0, 1) := by decide +kernel
theorem dX6_play_3 : decode cX6_play 3 = .ok (.aload_n 0, 1) := by decide +kernel
theorem dX6_play_4 : decode cX6_play 4 = .ok (.invokevirtual 113, 3) := by decide +kernel
theorem dX6_play_7 : decode cX6_play 7 = .ok (.invokestatic 105, 3) := by decide +kernel
theorem dX6_play_10 : decode cX6_play 10 = .ok (.ifCond .ne 7, 3) := by decide +kernel
theorem dX6_play_13 : decode cX6_play 13 = .ok (.iconst 1, 1) := by decide +kernel
theorem dX6_play_14 : decode cX6_play 14 = .ok (.goto 29, 3) := by decide +kernel
theorem dX6_play_17 : decode cX6_play 17 = .ok (.iload_n 2, 1) := by decide +kernel
theorem dX6_play_18 : decode cX6_play 18 = .ok (.iload_n 3, 1) := by decide +kernel
theorem dX6_play_19 : decode cX6_play 19 = .ok (.iload 4, 2) := by decide +kernel
theorem dX6_play_21 : decode cX6_play 21 = .ok (.invokestatic 384, 3) := by decide +kernel
theorem dX6_play_24 : decode cX6_play 24 = .ok (.ifCond .eq 18, 3) := by decide +kernel
theorem dX6_play_27 : decode cX6_play 27 = .ok (.iload 5, 2) := by decide +kernel
theorem dX6_play_29 : decode cX6_play 29 = .ok (.iconst 0, 1) := by decide +kernel
theorem dX6_play_30 : decode cX6_play 30 = .ok (.bipush 9, 2) := by decide +kernel
theorem dX6_play_32 : decode cX6_play 32 = .ok (.invokestatic 105, 3) := by decide +kernel
theorem dX6_play_35 : decode cX6_play 35 = .ok (.ifCond .eq 7, 3) := by decide +kernel
theorem dX6_play_38 : decode cX6_play 38 = .ok (.iconst 0, 1) := by decide +kernel
theorem dX6_play_39 : decode cX6_play 39 = .ok (.goto 4, 3) := by decide +kernel
theorem dX6_play_42 : decode cX6_play 42 = .ok (.iconst 2, 1) := by decide +kernel
theorem dX6_play_43 : decode cX6_play 43 = .ok (.putfield 95, 3) := by decide +kernel
theorem dX6_play_46 : decode cX6_play 46 = .ok (.aload_n 0, 1) := by decide +kernel
theorem dX6_play_47 : decode cX6_play 47 = .ok (.getfield 95, 3) := by decide +kernel
theorem dX6_play_50 : decode cX6_play 50 = .ok (.ifCond .le 5, 3) := by decide +kernel
theorem dX6_play_53 : decode cX6_play 53 = .ok (.iconst 0, 1) := by decide +kernel
theorem dX6_play_54 : decode cX6_play 54 = .ok (.ireturn, 1) := by decide +kernel
theorem dX6_play_55 : decode cX6_play 55 = .ok (.aload_n 0, 1) := by decide +kernel
theorem dX6_play_56 : decode cX6_play 56 = .ok (.invokevirtual 113, 3) := by decide +kernel
theorem dX6_play_59 : decode cX6_play 59 = .ok (.bipush 40, 2) := by decide +kernel
theorem dX6_play_61 : decode cX6_play 61 = .ok (.if_icmp .ne 6, 3) := by decide +kernel
theorem dX6_play_64 : decode cX6_play 64 = .ok (.bipush (-10), 2) := by decide +kernel
theorem dX6_play_66 : decode cX6_play 66 = .ok (.ireturn, 1) := by decide +kernel
theorem dX6_play_67 : decode cX6_play 67 = .ok (.aload_n 0, 1) := by decide +kernel
theorem dX6_play_68 : decode cX6_play 68 = .ok (.aload_n 0, 1) := by decide +kernel
theorem dX6_play_69 : decode cX6_play 69 = .ok (.getfield 7, 3) := by decide +kernel
theorem dX6_play_72 : decode cX6_play 72 = .ok (.invokevirtual 109, 3) := by decide +kernel
theorem dX6_play_75 : decode cX6_play 75 = .ok (.bipush 42, 2) := by decide +kernel
theorem dX6_play_77 : decode cX6_play 77 = .ok (.bipush 8, 2) := by decide +kernel
theorem dX6_play_79 : decode cX6_play 79 = .ok (.iload_n 1, 1) := by decide +kernel
theorem dX6_play_80 : decode cX6_play 80 = .ok (.imul, 1) := by decide +kernel
theorem dX6_play_81 : decode cX6_play 81 = .ok (.iadd, 1) := by decide +kernel
theorem dX6_play_82 : decode cX6_play 82 = .ok (.istore 6, 2) := by decide +kernel
theorem dX6_play_84 : decode cX6_play 84 = .ok (.sipush 361, 3) := by decide +kernel
theorem dX6_play_87 : decode cX6_play 87 = .ok (.istore 7, 2) := by decide +kernel
theorem dX6_play_89 : decode cX6_play 89 = .ok (.iload 7, 2) := by decide +kernel
theorem dX6_play_91 : decode cX6_play 91 = .ok (.iload 6, 2) := by decide +kernel
theorem dX6_play_93 : decode cX6_play 93 = .ok (.bipush 8, 2) := by decide +kernel
theorem dX6_play_95 : decode cX6_play 95 = .ok (.iadd, 1) := by decide +kernel
theorem dX6_play_96 : decode cX6_play 96 = .ok (.if_icmp .lt 26, 3) := by decide +kernel
theorem dX6_play_99 : decode cX6_play 99 = .ok (.aload_n 0, 1) := by decide +kernel
theorem dX6_play_100 : decode cX6_play 100 = .ok (.getfield 7, 3) := by decide +kernel
theorem dX6_play_103 : decode cX6_play 103 = .ok (.iload 7, 2) := by decide +kernel
theorem dX6_play_105 : decode cX6_play 105 = .ok (.aload_n 0, 1) := by decide +kernel
theorem dX6_play_106 : decode cX6_play 106 = .ok (.getfield 7, 3) := by decide +kernel
theorem dX6_play_109 : decode cX6_play 109 = .ok (.iload 7, 2) := by decide +kernel
theorem dX6_play_111 : decode cX6_play 111 = .ok (.bipush 8, 2) := by decide +kernel
theorem dX6_play_113 : decode cX6_play 113 = .ok (.isub, 1) := by decide +kernel
theorem dX6_play_114 : decode cX6_play 114 = .ok (.iaload, 1) := by decide +kernel
theorem dX6_play_115 : decode cX6_play 115 = .ok (.iastore, 1) := by decide +kernel
theorem dX6_play_116 : decode cX6_play 116 = .ok (.iinc 7 (-1), 3) := by decide +kernel
theorem dX6_play_119 : decode cX6_play 119 = .ok (.goto (-30), 3) := by decide +kernel
theorem dX6_play_122 : decode cX6_play 122 = .ok (.aload_n 0, 1) := by decide +kernel
theorem dX6_play_123 : decode cX6_play 123 = .ok (.getfield 7, 3) := by decide +kernel
theorem dX6_play_126 : decode cX6_play 126 = .ok (.iload 6, 2) := by decide +kernel
theorem dX6_play_128 : decode cX6_play 128 = .ok (.iload_n 3, 1) := by decide +kernel
theorem dX6_play_129 : decode cX6_play 129 = .ok (.ifCond .ne 7, 3) := by decide +kernel
theorem dX6_play_132 : decode cX6_play 132 = .ok (.iconst 1, 1) := by decide +kernel
theorem dX6_play_133 : decode cX6_play 133 = .ok (.goto 13, 3) := by decide +kernel
theorem dX6_play_136 : decode cX6_play 136 = .ok (.iload 4, 2) := by decide +kernel
theorem dX6_play_138 : decode cX6_play 138 = .ok (.ifCond .ne 7, 3) := by decide +kernel
theorem dX6_play_141 : decode cX6_play 141 = .ok (.iconst 2, 1) := by decide +kernel
theorem dX6_play_142 : decode cX6_play 142 = .ok (.goto 4, 3) := by decide +kernel
theorem dX6_play_145 : decode cX6_play 145 = .ok (.iconst 3, 1) := by decide +kernel
theorem dX6_play_146 : decode cX6_play 146 = .ok (.iastore, 1) := by decide +kernel
theorem dX6_play_147 : decode cX6_play 147 = .ok (.aload_n 0, 1) := by decide +kernel
theorem dX6_play_148 : decode cX6_play 148 = .ok (.getfield 7, 3) := by decide +kernel
theorem dX6_play_151 : decode cX6_play 151 = .ok (.iload 6, 2) := by decide +kernel
theorem dX6_play_153 : decode cX6_play 153 = .ok (.iconst 1, 1) := by decide +kernel
theorem dX6_play_154 : decode cX6_play 154 = .ok (.iadd, 1) := by decide +kernel
theorem dX6_play_155 : decode cX6_play 155 = .ok (.iload 5, 2) := by decide +kernel
theorem dX6_play_157 : decode cX6_play 157 = .ok (.iastore, 1) := by decide +kernel
theorem dX6_play_158 : decode cX6_play 158 = .ok (.aload_n 0, 1) := by decide +kernel
theorem dX6_play_159 : decode cX6_play 159 = .ok (.getfield 7, 3) := by decide +kernel
theorem dX6_play_162 : decode cX6_play 162 = .ok (.iload 6, 2) := by decide +kernel
theorem dX6_play_164 : decode cX6_play 164 = .ok (.iconst 2, 1) := by decide +kernel
theorem dX6_play_165 : decode cX6_play 165 = .ok (.iadd, 1) := by decide +kernel
theorem dX6_play_166 : decode cX6_play 166 = .ok (.iload_n 2, 1) := by decide +kernel
theorem dX6_play_167 : decode cX6_play 167 = .ok (.iastore, 1) := by decide +kernel
theorem dX6_play_168 : decode cX6_play 168 = .ok (.aload_n 0, 1) := by decide +kernel
theorem dX6_play_169 : decode cX6_play 169 = .ok (.getfield 7, 3) := by decide +kernel
theorem dX6_play_172 : decode cX6_play 172 = .ok (.iload 6, 2) := by decide +kernel
theorem dX6_play_174 : decode cX6_play 174 = .ok (.iconst 3, 1) := by decide +kernel
theorem dX6_play_175 : decode cX6_play 175 = .ok (.iadd, 1) := by decide +kernel
theorem dX6_play_176 : decode cX6_play 176 = .ok (.iload_n 3, 1) := by decide +kernel
theorem dX6_play_177 : decode cX6_play 177 = .ok (.iastore, 1) := by decide +kernel
theorem dX6_play_178 : decode cX6_play 178 = .ok (.aload_n 0, 1) := by decide +kernel
theorem dX6_play_179 : decode cX6_play 179 = .ok (.getfield 7, 3) := by decide +kernel
theorem dX6_play_182 : decode cX6_play 182 = .ok (.iload 6, 2) := by decide +kernel
theorem dX6_play_184 : decode cX6_play 184 = .ok (.iconst 4, 1) := by decide +kernel
theorem dX6_play_185 : decode cX6_play 185 = .ok (.iadd, 1) := by decide +kernel
theorem dX6_play_186 : decode cX6_play 186 = .ok (.iload 4, 2) := by decide +kernel
theorem dX6_play_188 : decode cX6_play 188 = .ok (.iastore, 1) := by decide +kernel
theorem dX6_play_189 : decode cX6_play 189 = .ok (.iconst 0, 1) := by decide +kernel
theorem dX6_play_190 : decode cX6_play 190 = .ok (.istore 7, 2) := by decide +kernel
theorem dX6_play_192 : decode cX6_play 192 = .ok (.iload 7, 2) := by decide +kernel
theorem dX6_play_194 : decode cX6_play 194 = .ok (.iconst 3, 1) := by decide +kernel
theorem dX6_play_195 : decode cX6_play 195 = .ok (.if_icmp .ge 23, 3) := by decide +kernel
theorem dX6_play_198 : decode cX6_play 198 = .ok (.aload_n 0, 1) := by decide +kernel
theorem dX6_play_199 : decode cX6_play 199 = .ok (.getfield 7, 3) := by decide +kernel
theorem dX6_play_202 : decode cX6_play 202 = .ok (.iload 6, 2) := by decide +kernel
theorem dX6_play_204 : decode cX6_play 204 = .ok (.iconst 5, 1) := by decide +kernel
theorem dX6_play_205 : decode cX6_play 205 = .ok (.iadd, 1) := by decide +kernel
theorem dX6_play_206 : decode cX6_play 206 = .ok (.iload 7, 2) := by decide +kernel
theorem dX6_play_208 : decode cX6_play 208 = .ok (.iadd, 1) := by decide +kernel
theorem dX6_play_209 : decode cX6_play 209 = .ok (.bipush 31, 2) := by decide +kernel
theorem dX6_play_211 : decode cX6_play 211 = .ok (.iastore, 1) := by decide +kernel
theorem dX6_play_212 : decode cX6_play 212 = .ok (.iinc 7 1, 3) := by decide +kernel
theorem dX6_play_215 : decode cX6_play 215 = .ok (.goto (-23), 3) := by decide +kernel
theorem dX6_play_218 : decode cX6_play 218 = .ok (.aload_n 0, 1) := by decide +kernel
theorem dX6_play_219 : decode cX6_play 219 = .ok (.getfield 7, 3) := by decide +kernel
theorem dX6_play_222 : decode cX6_play 222 = .ok (.iconst 0, 1) := by decide +kernel
theorem dX6_play_223 : decode cX6_play 223 = .ok (.dup2, 1) := by decide +kernel
theorem dX6_play_224 : decode cX6_play 224 = .ok (.iaload, 1) := by decide +kernel
theorem dX6_play_225 : decode cX6_play 225 = .ok (.iconst 1, 1) := by decide +kernel
theorem dX6_play_226 : decode cX6_play 226 = .ok (.iadd, 1) := by decide +kernel
theorem dX6_play_227 : decode cX6_play 227 = .ok (.iastore, 1) := by decide +kernel
theorem dX6_play_228 : decode cX6_play 228 = .ok (.aload_n 0, 1) := by decide +kernel
theorem dX6_play_229 : decode cX6_play 229 = .ok (.invokevirtual 113, 3) := by decide +kernel
theorem dX6_play_232 : decode cX6_play 232 = .ok (.ireturn, 1) := by decide +kernel
theorem dX6_drop_0 : decode cX6_drop 0 = .ok (.aload_n 0, 1) := by decide +kernel
theorem dX6_drop_1 : decode cX6_drop 1 = .ok (.aload_n 0, 1) := by decide +kernel
theorem dX6_drop_2 : decode cX6_drop 2 = .ok (.iload_n 1, 1) := by decide +kernel
theorem dX6_drop_3 : decode cX6_drop 3 = .ok (.invokevirtual 236, 3) := by decide +kernel
theorem dX6_drop_6 : decode cX6_drop 6 = .ok (.ifCond .eq 7, 3) := by decide +kernel
theorem dX6_drop_9 : decode cX6_drop 9 = .ok (.iconst 0, 1) := by decide +kernel
theorem dX6_drop_10 : decode cX6_drop 10 = .ok (.goto 4, 3) := by decide +kernel
theorem dX6_drop_13 : decode cX6_drop 13 = .ok (.iconst 1, 1) := by decide +kernel
theorem dX6_drop_14 : decode cX6_drop 14 = .ok (.putfield 95, 3) := by decide +kernel
theorem dX6_drop_17 : decode cX6_drop 17 = .ok (.aload_n 0, 1) := by decide +kernel
theorem dX6_drop_18 : decode cX6_drop 18 = .ok (.getfield 95, 3) := by decide +kernel
theorem dX6_drop_21 : decode cX6_drop 21 = .ok (.ifCond .le 5, 3) := by decide +kernel
theorem dX6_drop_24 : decode cX6_drop 24 = .ok (.iconst 0, 1) := by decide +kernel
theorem dX6_drop_25 : decode cX6_drop 25 = .ok (.ireturn, 1) := by decide +kernel
theorem dX6_drop_26 : decode cX6_drop 26 = .ok (.aload_n 0, 1) := by decide +kernel
theorem dX6_drop_27 : decode cX6_drop 27 = .ok (.aload_n 0, 1) := by decide +kernel
theorem dX6_drop_28 : decode cX6_drop 28 = .ok (.getfield 7, 3) := by decide +kernel
theorem dX6_drop_31 : decode cX6_drop 31 = .ok (.invokevirtual 109, 3) := by decide +kernel
theorem dX6_drop_34 : decode cX6_drop 34 = .ok (.bipush 42, 2) := by decide +kernel
theorem dX6_drop_36 : decode cX6_drop 36 = .ok (.bipush 8, 2) := by decide +kernel
theorem dX6_drop_38 : decode cX6_drop 38 = .ok (.iload_n 1, 1) := by decide +kernel
theorem dX6_drop_39 : decode cX6_drop 39 = .ok (.imul, 1) := by decide +kernel
theorem dX6_drop_40 : decode cX6_drop 40 = .ok (.iadd, 1) := by decide +kernel
theorem dX6_drop_41 : decode cX6_drop 41 = .ok (.istore_n 2, 1) := by decide +kernel
theorem dX6_drop_42 : decode cX6_drop 42 = .ok (.iload_n 2, 1) := by decide +kernel
theorem dX6_drop_43 : decode cX6_drop 43 = .ok (.sipush 354, 3) := by decide +kernel
theorem dX6_drop_46 : decode cX6_drop 46 = .ok (.if_icmp .ge 24, 3) := by decide +kernel
theorem dX6_drop_49 : decode cX6_drop 49 = .ok (.aload_n 0, 1) := by decide +kernel
theorem dX6_drop_50 : decode cX6_drop 50 = .ok (.getfield 7, 3) := by decide +kernel
theorem dX6_drop_53 : decode cX6_drop 53 = .ok (.iload_n 2, 1) := by decide +kernel
theorem dX6_drop_54 : decode cX6_drop 54 = .ok (.aload_n 0, 1) := by decide +kernel
theorem dX6_drop_55 : decode cX6_drop 55 = .ok (.getfield 7, 3) := by decide +kernel
theorem dX6_drop_58 : decode cX6_drop 58 = .ok (.iload_n 2, 1) := by decide +kernel
theorem dX6_drop_59 : decode cX6_drop 59 = .ok (.bipush 8, 2) := by decide +kernel
theorem dX6_drop_61 : decode cX6_drop 61 = .ok (.iadd, 1) := by decide +kernel
theorem dX6_drop_62 : decode cX6_drop 62 = .ok (.iaload, 1) := by decide +kernel
theorem dX6_drop_63 : decode cX6_drop 63 = .ok (.iastore, 1) := by decide +kernel
theorem dX6_drop_64 : decode cX6_drop 64 = .ok (.iinc 2 1, 3) := by decide +kernel
theorem dX6_drop_67 : decode cX6_drop 67 = .ok (.goto (-25), 3) := by decide +kernel
theorem dX6_drop_70 : decode cX6_drop 70 = .ok (.aload_n 0, 1) := by decide +kernel
theorem dX6_drop_71 : decode cX6_drop 71 = .ok (.getfield 7, 3) := by decide +kernel
theorem dX6_drop_74 : decode cX6_drop 74 = .ok (.iconst 0, 1) := by decide +kernel
theorem dX6_drop_75 : decode cX6_drop 75 = .ok (.dup2, 1) := by decide +kernel
theorem dX6_drop_76 : decode cX6_drop 76 = .ok (.iaload, 1) := by decide +kernel
theorem dX6_drop_77 : decode cX6_drop 77 = .ok (.iconst 1, 1) := by decide +kernel
theorem dX6_drop_78 : decode cX6_drop 78 = .ok (.isub, 1) := by decide +kernel
theorem dX6_drop_79 : decode cX6_drop 79 = .ok (.iastore, 1) := by decide +kernel
theorem dX6_drop_80 : decode cX6_drop 80 = .ok (.aload_n 0, 1) := by decide +kernel
theorem dX6_drop_81 : decode cX6_drop 81 = .ok (.invokevirtual 113, 3) := by decide +kernel
theorem dX6_drop_84 : decode cX6_drop 84 = .ok (.ireturn, 1) := by decide +kernel
theorem dX6_sets_0 : decode cX6_sets 0 = .ok (.aload_n 0, 1) := by decide +kernel
theorem dX6_sets_1 : decode cX6_sets 1 = .ok (.aload_n 0, 1) := by decide +kernel
theorem dX6_sets_2 : decode cX6_sets 2 = .ok (.getfield 7, 3) := by decide +kernel
theorem dX6_sets_5 : decode cX6_sets 5 = .ok (.invokevirtual 109, 3) := by decide +kernel
theorem dX6_sets_8 : decode cX6_sets 8 = .ok (.aload_n 0, 1) := by decide +kernel
theorem dX6_sets_9 : decode cX6_sets 9 = .ok (.getfield 7, 3) := by decide +kernel
theorem dX6_sets_12 : decode cX6_sets 12 = .ok (.iload_n 1, 1) := by decide +kernel
theorem dX6_sets_13 : decode cX6_sets 13 = .ok (.iaload, 1) := by decide +kernel
theorem dX6_sets_14 : decode cX6_sets 14 = .ok (.istore_n 3, 1) := by decide +kernel
theorem dX6_sets_15 : decode cX6_sets 15 = .ok (.aload_n 0, 1) := by decide +kernel
theorem dX6_sets_16 : decode cX6_sets 16 = .ok (.getfield 7, 3) := by decide +kernel
theorem dX6_sets_19 : decode cX6_sets 19 = .ok (.iload_n 1, 1) := by decide +kernel
theorem dX6_sets_20 : decode cX6_sets 20 = .ok (.iload_n 2, 1) := by decide +kernel
theorem dX6_sets_21 : decode cX6_sets 21 = .ok (.iastore, 1) := by decide +kernel
theorem dX6_sets_22 : decode cX6_sets 22 = .ok (.iload_n 3, 1) := by decide +kernel
theorem dX6_sets_23 : decode cX6_sets 23 = .ok (.ireturn, 1) := by decide +kernel
theorem dX6_setRest_0 : decode cX6_setRest 0 = .ok (.aload_n 0, 1) := by decide +kernel
theorem dX6_setRest_1 : decode cX6_setRest 1 = .ok (.aload_n 0, 1) := by decide +kernel
theorem dX6_setRest_2 : decode cX6_setRest 2 = .ok (.iload_n 1, 1) := by decide +kernel
theorem dX6_setRest_3 : decode cX6_setRest 3 = .ok (.invokevirtual 236, 3) := by decide +kernel
theorem dX6_setRest_6 : decode cX6_setRest 6 = .ok (.ifCond .ne 7, 3) := by decide +kernel
theorem dX6_setRest_9 : decode cX6_setRest 9 = .ok (.iconst 1, 1) := by decide +kernel
theorem dX6_setRest_10 : decode cX6_setRest 10 = .ok (.goto 18, 3) := by decide +kernel
theorem dX6_setRest_13 : decode cX6_setRest 13 = .ok (.iload_n 2, 1) := by decide +kernel
theorem dX6_setRest_14 : decode cX6_setRest 14 = .ok (.iconst 0, 1) := by decide +kernel
theorem dX6_setRest_15 : decode cX6_setRest 15 = .ok (.bipush 9, 2) := by decide +kernel
theorem dX6_setRest_17 : decode cX6_setRest 17 = .ok (.invokestatic 105, 3) := by decide +kernel
theorem dX6_setRest_20 : decode cX6_setRest 20 = .ok (.ifCond .eq 7, 3) := by decide +kernel
theorem dX6_setRest_23 : decode cX6_setRest 23 = .ok (.iconst 0, 1) := by decide +kernel
theorem dX6_setRest_24 : decode cX6_setRest 24 = .ok (.goto 4, 3) := by decide +kernel
theorem dX6_setRest_27 : decode cX6_setRest 27 = .ok (.iconst 2, 1) := by decide +kernel
theorem dX6_setRest_28 : decode cX6_setRest 28 = .ok (.putfield 95, 3) := by decide +kernel
theorem dX6_setRest_31 : decode cX6_setRest 31 = .ok (.aload_n 0, 1) := by decide +kernel
theorem dX6_setRest_32 : decode cX6_setRest 32 = .ok (.getfield 95, 3) := by decide +kernel
theorem dX6_setRest_35 : decode cX6_setRest 35 = .ok (.ifCond .le 7, 3) := by decide +kernel
theorem dX6_setRest_38 : decode cX6_setRest 38 = .ok (.iconst 0, 1) := by decide +kernel
theorem dX6_setRest_39 : decode cX6_setRest 39 = .ok (.goto 17, 3) := by decide +kernel
theorem dX6_setRest_42 : decode cX6_setRest 42 = .ok (.aload_n 0, 1) := by decide +kernel
theorem dX6_setRest_43 : decode cX6_setRest 43 = .ok (.bipush 42, 2) := by decide +kernel
theorem dX6_setRest_45 : decode cX6_setRest 45 = .ok (.bipush 8, 2) := by decide +kernel
theorem dX6_setRest_47 : decode cX6_setRest 47 = .ok (.iload_n 1, 1) := by decide +kernel
theorem dX6_setRest_48 : decode cX6_setRest 48 = .ok (.imul, 1) := by decide +kernel
theorem dX6_setRest_49 : decode cX6_setRest 49 = .ok (.iadd, 1) := by decide +kernel
theorem dX6_setRest_50 : decode cX6_setRest 50 = .ok (.iconst 1, 1) := by decide +kernel
theorem dX6_setRest_51 : decode cX6_setRest 51 = .ok (.iadd, 1) := by decide +kernel
theorem dX6_setRest_52 : decode cX6_setRest 52 = .ok (.iload_n 2, 1) := by decide +kernel
theorem dX6_setRest_53 : decode cX6_setRest 53 = .ok (.invokevirtual 387, 3) := by decide +kernel
theorem dX6_setRest_56 : decode cX6_setRest 56 = .ok (.ireturn, 1) := by decide +kernel
theorem dX6_let_0 : decode cX6_let 0 = .ok (.aload_n 0, 1) := by decide +kernel
theorem dX6_let_1 : decode cX6_let 1 = .ok (.aload_n 0, 1) := by decide +kernel
theorem dX6_let_2 : decode cX6_let 2 = .ok (.iload_n 1, 1) := by decide +kernel
theorem dX6_let_3 : decode cX6_let 3 = .ok (.iload_n 2, 1) := by decide +kernel
theorem dX6_let_4 : decode cX6_let 4 = .ok (.invokevirtual 337, 3) := by decide +kernel
theorem dX6_let_7 : decode cX6_let 7 = .ok (.ifCond .eq 14, 3) := by decide +kernel
theorem dX6_let_10 : decode cX6_let 10 = .ok (.iload_n 3, 1) := by decide +kernel
theorem dX6_let_11 : decode cX6_let 11 = .ok (.invokestatic 341, 3) := by decide +kernel
theorem dX6_let_14 : decode cX6_let 14 = .ok (.ifCond .eq 7, 3) := by decide +kernel
theorem dX6_let_17 : decode cX6_let 17 = .ok (.iconst 0, 1) := by decide +kernel
theorem dX6_let_18 : decode cX6_let 18 = .ok (.goto 4, 3) := by decide +kernel
theorem dX6_let_21 : decode cX6_let 21 = .ok (.iconst 1, 1) := by decide +kernel
theorem dX6_let_22 : decode cX6_let 22 = .ok (.putfield 95, 3) := by decide +kernel
theorem dX6_let_25 : decode cX6_let 25 = .ok (.aload_n 0, 1) := by decide +kernel
theorem dX6_let_26 : decode cX6_let 26 = .ok (.getfield 95, 3) := by decide +kernel
theorem dX6_let_29 : decode cX6_let 29 = .ok (.ifCond .le 5, 3) := by decide +kernel
theorem dX6_let_32 : decode cX6_let 32 = .ok (.iconst 0, 1) := by decide +kernel
theorem dX6_let_33 : decode cX6_let 33 = .ok (.ireturn, 1) := by decide +kernel
theorem dX6_let_34 : decode cX6_let 34 = .ok (.iconst 1, 1) := by decide +kernel
theorem dX6_let_35 : decode cX6_let 35 = .ok (.iload_n 3, 1) := by decide +kernel
theorem dX6_let_36 : decode cX6_let 36 = .ok (.iconst 1, 1) := by decide +kernel
theorem dX6_let_37 : decode cX6_let 37 = .ok (.isub, 1) := by decide +kernel
theorem dX6_let_38 : decode cX6_let 38 = .ok (.ishl, 1) := by decide +kernel
theorem dX6_let_39 : decode cX6_let 39 = .ok (.istore 5, 2) := by decide +kernel
theorem dX6_let_41 : decode cX6_let 41 = .ok (.bipush 42, 2) := by decide +kernel
theorem dX6_let_43 : decode cX6_let 43 = .ok (.bipush 8, 2) := by decide +kernel
theorem dX6_let_45 : decode cX6_let 45 = .ok (.iload_n 1, 1) := by decide +kernel
theorem dX6_let_46 : decode cX6_let 46 = .ok (.imul, 1) := by decide +kernel
theorem dX6_let_47 : decode cX6_let 47 = .ok (.iadd, 1) := by decide +kernel
theorem dX6_let_48 : decode cX6_let 48 = .ok (.iconst 5, 1) := by decide +kernel
theorem dX6_let_49 : decode cX6_let 49 = .ok (.iadd, 1) := by decide +kernel
theorem dX6_let_50 : decode cX6_let 50 = .ok (.iload_n 2, 1) := by decide +kernel
theorem dX6_let_51 : decode cX6_let 51 = .ok (.iadd, 1) := by decide +kernel
theorem dX6_let_52 : decode cX6_let 52 = .ok (.istore 6, 2) := by decide +kernel
theorem dX6_let_54 : decode cX6_let 54 = .ok (.aload_n 0, 1) := by decide +kernel
theorem dX6_let_55 : decode cX6_let 55 = .ok (.aload_n 0, 1) := by decide +kernel
theorem dX6_let_56 : decode cX6_let 56 = .ok (.iload 6, 2) := by decide +kernel
theorem dX6_let_58 : decode cX6_let 58 = .ok (.iload 4, 2) := by decide +kernel
theorem dX6_let_60 : decode cX6_let 60 = .ok (.ifCond .eq 16, 3) := by decide +kernel
theorem dX6_let_63 : decode cX6_let 63 = .ok (.aload_n 0, 1) := by decide +kernel
theorem dX6_let_64 : decode cX6_let 64 = .ok (.getfield 7, 3) := by decide +kernel
theorem dX6_let_67 : decode cX6_let 67 = .ok (.iload 6, 2) := by decide +kernel
theorem dX6_let_69 : decode cX6_let 69 = .ok (.iaload, 1) := by decide +kernel
theorem dX6_let_70 : decode cX6_let 70 = .ok (.iload 5, 2) := by decide +kernel
theorem dX6_let_72 : decode cX6_let 72 = .ok (.ior, 1) := by decide +kernel
theorem dX6_let_73 : decode cX6_let 73 = .ok (.goto 15, 3) := by decide +kernel
theorem dX6_let_76 : decode cX6_let 76 = .ok (.aload_n 0, 1) := by decide +kernel
theorem dX6_let_77 : decode cX6_let 77 = .ok (.getfield 7, 3) := by decide +kernel
theorem dX6_let_80 : decode cX6_let 80 = .ok (.iload 6, 2) := by decide +kernel
theorem dX6_let_82 : decode cX6_let 82 = .ok (.iaload, 1) := by decide +kernel
theorem dX6_let_83 : decode cX6_let 83 = .ok (.iload 5, 2) := by decide +kernel
theorem dX6_let_85 : decode cX6_let 85 = .ok (.iconst (-1), 1) := by decide +kernel
theorem dX6_let_86 : decode cX6_let 86 = .ok (.ixor, 1) := by decide +kernel
theorem dX6_let_87 : decode cX6_let 87 = .ok (.iand, 1) := by decide +kernel
theorem dX6_let_88 : decode cX6_let 88 = .ok (.invokevirtual 387, 3) := by decide +kernel
theorem dX6_let_91 : decode cX6_let 91 = .ok (.putfield 390, 3) := by decide +kernel
theorem dX6_let_94 : decode cX6_let 94 = .ok (.aload_n 0, 1) := by decide +kernel
theorem dX6_let_95 : decode cX6_let 95 = .ok (.getfield 7, 3) := by decide +kernel
theorem dX6_let_98 : decode cX6_let 98 = .ok (.iload 6, 2) := by decide +kernel
theorem dX6_let_100 : decode cX6_let 100 = .ok (.iaload, 1) := by decide +kernel
theorem dX6_let_101 : decode cX6_let 101 = .ok (.ireturn, 1) := by decide +kernel
theorem dX6_setWeight_0 : decode cX6_setWeight 0 = .ok (.aload_n 0, 1) := by decide +kernel
theorem dX6_setWeight_1 : decode cX6_setWeight 1 = .ok (.iload_n 1, 1) := by decide +kernel
theorem dX6_setWeight_2 : decode cX6_setWeight 2 = .ok (.iconst 0, 1) := by decide +kernel
theorem dX6_setWeight_3 : decode cX6_setWeight 3 = .ok (.bipush 9, 2) := by decide +kernel
theorem dX6_setWeight_5 : decode cX6_setWeight 5 = .ok (.invokestatic 105, 3) := by decide +kernel
theorem dX6_setWeight_8 : decode cX6_setWeight 8 = .ok (.ifCond .ne 7, 3) := by decide +kernel
theorem dX6_setWeight_11 : decode cX6_setWeight 11 = .ok (.iconst 1, 1) := by decide +kernel
theorem dX6_setWeight_12 : decode cX6_setWeight 12 = .ok (.goto 18, 3) := by decide +kernel
theorem dX6_setWeight_15 : decode cX6_setWeight 15 = .ok (.iload_n 2, 1) := by decide +kernel
theorem dX6_setWeight_16 : decode cX6_setWeight 16 = .ok (.iconst 0, 1) := by decide +kernel
theorem dX6_setWeight_17 : decode cX6_setWeight 17 = .ok (.bipush 99, 2) := by decide +kernel
theorem dX6_setWeight_19 : decode cX6_setWeight 19 = .ok (.invokestatic 105, 3) := by decide +kernel
theorem dX6_setWeight_22 : decode cX6_setWeight 22 = .ok (.ifCond .eq 7, 3) := by decide +kernel
theorem dX6_setWeight_25 : decode cX6_setWeight 25 = .ok (.iconst 0, 1) := by decide +kernel
theorem dX6_setWeight_26 : decode cX6_setWeight 26 = .ok (.goto 4, 3) := by decide +kernel
theorem dX6_setWeight_29 : decode cX6_setWeight 29 = .ok (.iconst 2, 1) := by decide +kernel
theorem dX6_setWeight_30 : decode cX6_setWeight 30 = .ok (.putfield 95, 3) := by decide +kernel
theorem dX6_setWeight_33 : decode cX6_setWeight 33 = .ok (.aload_n 0, 1) := by decide +kernel
theorem dX6_setWeight_34 : decode cX6_setWeight 34 = .ok (.getfield 95, 3) := by decide +kernel
theorem dX6_setWeight_37 : decode cX6_setWeight 37 = .ok (.ifCond .le 7, 3) := by decide +kernel
theorem dX6_setWeight_40 : decode cX6_setWeight 40 = .ok (.iconst 0, 1) := by decide +kernel
theorem dX6_setWeight_41 : decode cX6_setWeight 41 = .ok (.goto 11, 3) := by decide +kernel
theorem dX6_setWeight_44 : decode cX6_setWeight 44 = .ok (.aload_n 0, 1) := by decide +kernel
theorem dX6_setWeight_45 : decode cX6_setWeight 45 = .ok (.iconst 2, 1) := by decide +kernel
theorem dX6_setWeight_46 : decode cX6_setWeight 46 = .ok (.iload_n 1, 1) := by decide +kernel
theorem dX6_setWeight_47 : decode cX6_setWeight 47 = .ok (.iadd, 1) := by decide +kernel
theorem dX6_setWeight_48 : decode cX6_setWeight 48 = .ok (.iload_n 2, 1) := by decide +kernel
theorem dX6_setWeight_49 : decode cX6_setWeight 49 = .ok (.invokevirtual 387, 3) := by decide +kernel
theorem dX6_setWeight_52 : decode cX6_setWeight 52 = .ok (.ireturn, 1) := by decide +kernel
theorem dX6_setSpan_0 : decode cX6_setSpan 0 = .ok (.iload_n 1, 1) := by decide +kernel
theorem dX6_setSpan_1 : decode cX6_setSpan 1 = .ok (.iload_n 2, 1) := by decide +kernel
theorem dX6_setSpan_2 : decode cX6_setSpan 2 = .ok (.if_icmp .eq 40, 3) := by decide +kernel
theorem dX6_setSpan_5 : decode cX6_setSpan 5 = .ok (.iload_n 3, 1) := by decide +kernel
theorem dX6_setSpan_6 : decode cX6_setSpan 6 = .ok (.iconst 1, 1) := by decide +kernel
theorem dX6_setSpan_7 : decode cX6_setSpan 7 = .ok (.bipush 24, 2) := by decide +kernel
theorem dX6_setSpan_9 : decode cX6_setSpan 9 = .ok (.invokestatic 105, 3) := by decide +kernel
theorem dX6_setSpan_12 : decode cX6_setSpan 12 = .ok (.ifCond .eq 30, 3) := by decide +kernel
theorem dX6_setSpan_15 : decode cX6_setSpan 15 = .ok (.iload 4, 2) := by decide +kernel
theorem dX6_setSpan_17 : decode cX6_setSpan 17 = .ok (.iload_n 3, 1) := by decide +kernel
theorem dX6_setSpan_18 : decode cX6_setSpan 18 = .ok (.bipush 24, 2) := by decide +kernel
theorem dX6_setSpan_20 : decode cX6_setSpan 20 = .ok (.invokestatic 105, 3) := by decide +kernel
theorem dX6_setSpan_23 : decode cX6_setSpan 23 = .ok (.ifCond .eq 19, 3) := by decide +kernel
theorem dX6_setSpan_26 : decode cX6_setSpan 26 = .ok (.iload 5, 2) := by decide +kernel
theorem dX6_setSpan_28 : decode cX6_setSpan 28 = .ok (.iload 4, 2) := by decide +kernel
theorem dX6_setSpan_30 : decode cX6_setSpan 30 = .ok (.bipush 24, 2) := by decide +kernel
theorem dX6_setSpan_32 : decode cX6_setSpan 32 = .ok (.invokestatic 105, 3) := by decide +kernel
theorem dX6_setSpan_35 : decode cX6_setSpan 35 = .ok (.ifCond .eq 7, 3) := by decide +kernel
theorem dX6_setSpan_38 : decode cX6_setSpan 38 = .ok (.iconst 1, 1) := by decide +kernel
theorem dX6_setSpan_39 : decode cX6_setSpan 39 = .ok (.goto 4, 3) := by decide +kernel
theorem dX6_setSpan_42 : decode cX6_setSpan 42 = .ok (.iconst 0, 1) := by decide +kernel
theorem dX6_setSpan_43 : decode cX6_setSpan 43 = .ok (.istore 6, 2) := by decide +kernel
theorem dX6_setSpan_45 : decode cX6_setSpan 45 = .ok (.aload_n 0, 1) := by decide +kernel
theorem dX6_setSpan_46 : decode cX6_setSpan 46 = .ok (.iload_n 1, 1) := by decide +kernel
theorem dX6_setSpan_47 : decode cX6_setSpan 47 = .ok (.invokestatic 341, 3) := by decide +kernel
theorem dX6_setSpan_50 : decode cX6_setSpan 50 = .ok (.ifCond .eq 10, 3) := by decide +kernel
theorem dX6_setSpan_53 : decode cX6_setSpan 53 = .ok (.iload_n 2, 1) := by decide +kernel
theorem dX6_setSpan_54 : decode cX6_setSpan 54 = .ok (.invokestatic 341, 3) := by decide +kernel
theorem dX6_setSpan_57 : decode cX6_setSpan 57 = .ok (.ifCond .ne 7, 3) := by decide +kernel
theorem dX6_setSpan_60 : decode cX6_setSpan 60 = .ok (.iconst 1, 1) := by decide +kernel
theorem dX6_setSpan_61 : decode cX6_setSpan 61 = .ok (.goto 13, 3) := by decide +kernel
theorem dX6_setSpan_64 : decode cX6_setSpan 64 = .ok (.iload 6, 2) := by decide +kernel
theorem dX6_setSpan_66 : decode cX6_setSpan 66 = .ok (.ifCond .eq 7, 3) := by decide +kernel
theorem dX6_setSpan_69 : decode cX6_setSpan 69 = .ok (.iconst 0, 1) := by decide +kernel
theorem dX6_setSpan_70 : decode cX6_setSpan 70 = .ok (.goto 4, 3) := by decide +kernel
theorem dX6_setSpan_73 : decode cX6_setSpan 73 = .ok (.iconst 2, 1) := by decide +kernel
theorem dX6_setSpan_74 : decode cX6_setSpan 74 = .ok (.putfield 95, 3) := by decide +kernel
theorem dX6_setSpan_77 : decode cX6_setSpan 77 = .ok (.aload_n 0, 1) := by decide +kernel
theorem dX6_setSpan_78 : decode cX6_setSpan 78 = .ok (.getfield 95, 3) := by decide +kernel
theorem dX6_setSpan_81 : decode cX6_setSpan 81 = .ok (.ifCond .le 5, 3) := by decide +kernel
theorem dX6_setSpan_84 : decode cX6_setSpan 84 = .ok (.iconst 0, 1) := by decide +kernel
theorem dX6_setSpan_85 : decode cX6_setSpan 85 = .ok (.ireturn, 1) := by decide +kernel
theorem dX6_setSpan_86 : decode cX6_setSpan 86 = .ok (.aload_n 0, 1) := by decide +kernel
theorem dX6_setSpan_87 : decode cX6_setSpan 87 = .ok (.aload_n 0, 1) := by decide +kernel
theorem dX6_setSpan_88 : decode cX6_setSpan 88 = .ok (.getfield 7, 3) := by decide +kernel
theorem dX6_setSpan_91 : decode cX6_setSpan 91 = .ok (.invokevirtual 109, 3) := by decide +kernel
theorem dX6_setSpan_94 : decode cX6_setSpan 94 = .ok (.aload_n 0, 1) := by decide +kernel
theorem dX6_setSpan_95 : decode cX6_setSpan 95 = .ok (.getfield 7, 3) := by decide +kernel
theorem dX6_setSpan_98 : decode cX6_setSpan 98 = .ok (.iload_n 1, 1) := by decide +kernel
theorem dX6_setSpan_99 : decode cX6_setSpan 99 = .ok (.iload_n 2, 1) := by decide +kernel
theorem dX6_setSpan_100 : decode cX6_setSpan 100 = .ok (.invokestatic 76, 3) := by decide +kernel
theorem dX6_setSpan_103 : decode cX6_setSpan 103 = .ok (.iconst 2, 1) := by decide +kernel
theorem dX6_setSpan_104 : decode cX6_setSpan 104 = .ok (.iadd, 1) := by decide +kernel
theorem dX6_setSpan_105 : decode cX6_setSpan 105 = .ok (.iaload, 1) := by decide +kernel
theorem dX6_setSpan_106 : decode cX6_setSpan 106 = .ok (.istore 7, 2) := by decide +kernel
theorem dX6_setSpan_108 : decode cX6_setSpan 108 = .ok (.aload_n 0, 1) := by decide +kernel
theorem dX6_setSpan_109 : decode cX6_setSpan 109 = .ok (.iload_n 1, 1) := by decide +kernel
theorem dX6_setSpan_110 : decode cX6_setSpan 110 = .ok (.iload_n 2, 1) := by decide +kernel
theorem dX6_setSpan_111 : decode cX6_setSpan 111 = .ok (.iload_n 3, 1) := by decide +kernel
theorem dX6_setSpan_112 : decode cX6_setSpan 112 = .ok (.iload 4, 2) := by decide +kernel
theorem dX6_setSpan_114 : decode cX6_setSpan 114 = .ok (.iload 5, 2) := by decide +kernel
theorem dX6_setSpan_116 : decode cX6_setSpan 116 = .ok (.invokevirtual 84, 3) := by decide +kernel
theorem dX6_setSpan_119 : decode cX6_setSpan 119 = .ok (.iload 7, 2) := by decide +kernel
theorem dX6_setSpan_121 : decode cX6_setSpan 121 = .ok (.ireturn, 1) := by decide +kernel
theorem dX6_setHand_0 : decode cX6_setHand 0 = .ok (.aload_n 0, 1) := by decide +kernel
theorem dX6_setHand_1 : decode cX6_setHand 1 = .ok (.iconst 0, 1) := by decide +kernel
theorem dX6_setHand_2 : decode cX6_setHand 2 = .ok (.putfield 95, 3) := by decide +kernel
theorem dX6_setHand_5 : decode cX6_setHand 5 = .ok (.aload_n 0, 1) := by decide +kernel
theorem dX6_setHand_6 : decode cX6_setHand 6 = .ok (.aload_n 0, 1) := by decide +kernel
theorem dX6_setHand_7 : decode cX6_setHand 7 = .ok (.iconst 1, 1) := by decide +kernel
theorem dX6_setHand_8 : decode cX6_setHand 8 = .ok (.iload_n 1, 1) := by decide +kernel
theorem dX6_setHand_9 : decode cX6_setHand 9 = .ok (.ifCond .eq 7, 3) := by decide +kernel
theorem dX6_setHand_12 : decode cX6_setHand 12 = .ok (.iconst 1, 1) := by decide +kernel
theorem dX6_setHand_13 : decode cX6_setHand 13 = .ok (.goto 4, 3) := by decide +kernel
theorem dX6_setHand_16 : decode cX6_setHand 16 = .ok (.iconst 0, 1) := by decide +kernel
theorem dX6_setHand_17 : decode cX6_setHand 17 = .ok (.invokevirtual 387, 3) := by decide +kernel
theorem dX6_setHand_20 : decode cX6_setHand 20 = .ok (.putfield 390, 3) := by decide +kernel
theorem dX6_setHand_23 : decode cX6_setHand 23 = .ok (.aload_n 0, 1) := by decide +kernel
theorem dX6_setHand_24 : decode cX6_setHand 24 = .ok (.invokevirtual 318, 3) := by decide +kernel
theorem dX6_setHand_27 : decode cX6_setHand 27 = .ok (.invokestatic 347, 3) := by decide +kernel
theorem dX6_setHand_30 : decode cX6_setHand 30 = .ok (.ireturn, 1) := by decide +kernel
