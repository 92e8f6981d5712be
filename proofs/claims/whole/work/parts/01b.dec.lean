theorem dX0_init_0 : decode cX0_init 0 = .ok (.aload_n 0, 1) := by decide +kernel
theorem dX0_init_1 : decode cX0_init 1 = .ok (.invokespecial 3, 3) := by decide +kernel
theorem dX0_init_4 : decode cX0_init 4 = .ok (.aload_n 0, 1) := by decide +kernel
theorem dX0_init_5 : decode cX0_init 5 = .ok (.new 9, 3) := by decide +kernel
theorem dX0_init_8 : decode cX0_init 8 = .ok (.dup, 1) := by decide +kernel
theorem dX0_init_9 : decode cX0_init 9 = .ok (.bipush 40, 2) := by decide +kernel
theorem dX0_init_11 : decode cX0_init 11 = .ok (.invokespecial 11, 3) := by decide +kernel
theorem dX0_init_14 : decode cX0_init 14 = .ok (.putfield 14, 3) := by decide +kernel
theorem dX0_init_17 : decode cX0_init 17 = .ok (.aload_n 0, 1) := by decide +kernel
theorem dX0_init_18 : decode cX0_init 18 = .ok (.new 9, 3) := by decide +kernel
theorem dX0_init_21 : decode cX0_init 21 = .ok (.dup, 1) := by decide +kernel
theorem dX0_init_22 : decode cX0_init 22 = .ok (.bipush 40, 2) := by decide +kernel
theorem dX0_init_24 : decode cX0_init 24 = .ok (.invokespecial 11, 3) := by decide +kernel
theorem dX0_init_27 : decode cX0_init 27 = .ok (.putfield 20, 3) := by decide +kernel
theorem dX0_init_30 : decode cX0_init 30 = .ok (.aload_n 0, 1) := by decide +kernel
theorem dX0_init_31 : decode cX0_init 31 = .ok (.new 9, 3) := by decide +kernel
theorem dX0_init_34 : decode cX0_init 34 = .ok (.dup, 1) := by decide +kernel
theorem dX0_init_35 : decode cX0_init 35 = .ok (.bipush 120, 2) := by decide +kernel
theorem dX0_init_37 : decode cX0_init 37 = .ok (.invokespecial 11, 3) := by decide +kernel
theorem dX0_init_40 : decode cX0_init 40 = .ok (.putfield 23, 3) := by decide +kernel
theorem dX0_init_43 : decode cX0_init 43 = .ok (.aload_n 0, 1) := by decide +kernel
theorem dX0_init_44 : decode cX0_init 44 = .ok (.new 9, 3) := by decide +kernel
theorem dX0_init_47 : decode cX0_init 47 = .ok (.dup, 1) := by decide +kernel
theorem dX0_init_48 : decode cX0_init 48 = .ok (.bipush 120, 2) := by decide +kernel
theorem dX0_init_50 : decode cX0_init 50 = .ok (.invokespecial 11, 3) := by decide +kernel
theorem dX0_init_53 : decode cX0_init 53 = .ok (.putfield 26, 3) := by decide +kernel
theorem dX0_init_56 : decode cX0_init 56 = .ok (.aload_n 0, 1) := by decide +kernel
theorem dX0_init_57 : decode cX0_init 57 = .ok (.new 9, 3) := by decide +kernel
theorem dX0_init_60 : decode cX0_init 60 = .ok (.dup, 1) := by decide +kernel
theorem dX0_init_61 : decode cX0_init 61 = .ok (.bipush 10, 2) := by decide +kernel
theorem dX0_init_63 : decode cX0_init 63 = .ok (.invokespecial 11, 3) := by decide +kernel
theorem dX0_init_66 : decode cX0_init 66 = .ok (.putfield 29, 3) := by decide +kernel
theorem dX0_init_69 : decode cX0_init 69 = .ok (.aload_n 0, 1) := by decide +kernel
theorem dX0_init_70 : decode cX0_init 70 = .ok (.new 9, 3) := by decide +kernel
theorem dX0_init_73 : decode cX0_init 73 = .ok (.dup, 1) := by decide +kernel
theorem dX0_init_74 : decode cX0_init 74 = .ok (.bipush 25, 2) := by decide +kernel
theorem dX0_init_76 : decode cX0_init 76 = .ok (.invokespecial 11, 3) := by decide +kernel
theorem dX0_init_79 : decode cX0_init 79 = .ok (.putfield 32, 3) := by decide +kernel
theorem dX0_init_82 : decode cX0_init 82 = .ok (.aload_n 0, 1) := by decide +kernel
theorem dX0_init_83 : decode cX0_init 83 = .ok (.new 9, 3) := by decide +kernel
theorem dX0_init_86 : decode cX0_init 86 = .ok (.dup, 1) := by decide +kernel
theorem dX0_init_87 : decode cX0_init 87 = .ok (.bipush 25, 2) := by decide +kernel
theorem dX0_init_89 : decode cX0_init 89 = .ok (.invokespecial 11, 3) := by decide +kernel
theorem dX0_init_92 : decode cX0_init 92 = .ok (.putfield 35, 3) := by decide +kernel
theorem dX0_init_95 : decode cX0_init 95 = .ok (.aload_n 0, 1) := by decide +kernel
theorem dX0_init_96 : decode cX0_init 96 = .ok (.new 9, 3) := by decide +kernel
theorem dX0_init_99 : decode cX0_init 99 = .ok (.dup, 1) := by decide +kernel
theorem dX0_init_100 : decode cX0_init 100 = .ok (.bipush 25, 2) := by decide +kernel
theorem dX0_init_102 : decode cX0_init 102 = .ok (.invokespecial 11, 3) := by decide +kernel
theorem dX0_init_105 : decode cX0_init 105 = .ok (.putfield 38, 3) := by decide +kernel
theorem dX0_init_108 : decode cX0_init 108 = .ok (.aload_n 0, 1) := by decide +kernel
theorem dX0_init_109 : decode cX0_init 109 = .ok (.invokevirtual 41, 3) := by decide +kernel
theorem dX0_init_112 : decode cX0_init 112 = .ok (.return_, 1) := by decide +kernel
theorem dX0_begin_0 : decode cX0_begin 0 = .ok (.aload_n 0, 1) := by decide +kernel
theorem dX0_begin_1 : decode cX0_begin 1 = .ok (.iconst 1, 1) := by decide +kernel
theorem dX0_begin_2 : decode cX0_begin 2 = .ok (.putfield 44, 3) := by decide +kernel
theorem dX0_begin_5 : decode cX0_begin 5 = .ok (.aload_n 0, 1) := by decide +kernel
theorem dX0_begin_6 : decode cX0_begin 6 = .ok (.iconst 0, 1) := by decide +kernel
theorem dX0_begin_7 : decode cX0_begin 7 = .ok (.putfield 48, 3) := by decide +kernel
theorem dX0_begin_10 : decode cX0_begin 10 = .ok (.iconst 0, 1) := by decide +kernel
theorem dX0_begin_11 : decode cX0_begin 11 = .ok (.istore_n 1, 1) := by decide +kernel
theorem dX0_begin_12 : decode cX0_begin 12 = .ok (.iload_n 1, 1) := by decide +kernel
theorem dX0_begin_13 : decode cX0_begin 13 = .ok (.getstatic 52, 3) := by decide +kernel
theorem dX0_begin_16 : decode cX0_begin 16 = .ok (.arraylength, 1) := by decide +kernel
theorem dX0_begin_17 : decode cX0_begin 17 = .ok (.if_icmp .ge 22, 3) := by decide +kernel
theorem dX0_begin_20 : decode cX0_begin 20 = .ok (.aload_n 0, 1) := by decide +kernel
theorem dX0_begin_21 : decode cX0_begin 21 = .ok (.getfield 29, 3) := by decide +kernel
theorem dX0_begin_24 : decode cX0_begin 24 = .ok (.iload_n 1, 1) := by decide +kernel
theorem dX0_begin_25 : decode cX0_begin 25 = .ok (.getstatic 52, 3) := by decide +kernel
theorem dX0_begin_28 : decode cX0_begin 28 = .ok (.iload_n 1, 1) := by decide +kernel
theorem dX0_begin_29 : decode cX0_begin 29 = .ok (.iaload, 1) := by decide +kernel
theorem dX0_begin_30 : decode cX0_begin 30 = .ok (.invokevirtual 56, 3) := by decide +kernel
theorem dX0_begin_33 : decode cX0_begin 33 = .ok (.iinc 1 1, 3) := by decide +kernel
theorem dX0_begin_36 : decode cX0_begin 36 = .ok (.goto (-24), 3) := by decide +kernel
theorem dX0_begin_39 : decode cX0_begin 39 = .ok (.iconst 0, 1) := by decide +kernel
theorem dX0_begin_40 : decode cX0_begin 40 = .ok (.istore_n 1, 1) := by decide +kernel
theorem dX0_begin_41 : decode cX0_begin 41 = .ok (.iload_n 1, 1) := by decide +kernel
theorem dX0_begin_42 : decode cX0_begin 42 = .ok (.iconst 5, 1) := by decide +kernel
theorem dX0_begin_43 : decode cX0_begin 43 = .ok (.iadd, 1) := by decide +kernel
theorem dX0_begin_44 : decode cX0_begin 44 = .ok (.getstatic 60, 3) := by decide +kernel
theorem dX0_begin_47 : decode cX0_begin 47 = .ok (.arraylength, 1) := by decide +kernel
theorem dX0_begin_48 : decode cX0_begin 48 = .ok (.if_icmp .gt 46, 3) := by decide +kernel
theorem dX0_begin_51 : decode cX0_begin 51 = .ok (.aload_n 0, 1) := by decide +kernel
theorem dX0_begin_52 : decode cX0_begin 52 = .ok (.getstatic 60, 3) := by decide +kernel
theorem dX0_begin_55 : decode cX0_begin 55 = .ok (.iload_n 1, 1) := by decide +kernel
theorem dX0_begin_56 : decode cX0_begin 56 = .ok (.iaload, 1) := by decide +kernel
theorem dX0_begin_57 : decode cX0_begin 57 = .ok (.getstatic 60, 3) := by decide +kernel
theorem dX0_begin_60 : decode cX0_begin 60 = .ok (.iload_n 1, 1) := by decide +kernel
theorem dX0_begin_61 : decode cX0_begin 61 = .ok (.iconst 1, 1) := by decide +kernel
theorem dX0_begin_62 : decode cX0_begin 62 = .ok (.iadd, 1) := by decide +kernel
theorem dX0_begin_63 : decode cX0_begin 63 = .ok (.iaload, 1) := by decide +kernel
theorem dX0_begin_64 : decode cX0_begin 64 = .ok (.getstatic 60, 3) := by decide +kernel
theorem dX0_begin_67 : decode cX0_begin 67 = .ok (.iload_n 1, 1) := by decide +kernel
theorem dX0_begin_68 : decode cX0_begin 68 = .ok (.iconst 2, 1) := by decide +kernel
theorem dX0_begin_69 : decode cX0_begin 69 = .ok (.iadd, 1) := by decide +kernel
theorem dX0_begin_70 : decode cX0_begin 70 = .ok (.iaload, 1) := by decide +kernel
theorem dX0_begin_71 : decode cX0_begin 71 = .ok (.getstatic 60, 3) := by decide +kernel
theorem dX0_begin_74 : decode cX0_begin 74 = .ok (.iload_n 1, 1) := by decide +kernel
theorem dX0_begin_75 : decode cX0_begin 75 = .ok (.iconst 3, 1) := by decide +kernel
theorem dX0_begin_76 : decode cX0_begin 76 = .ok (.iadd, 1) := by decide +kernel
theorem dX0_begin_77 : decode cX0_begin 77 = .ok (.iaload, 1) := by decide +kernel
theorem dX0_begin_78 : decode cX0_begin 78 = .ok (.getstatic 60, 3) := by decide +kernel
theorem dX0_begin_81 : decode cX0_begin 81 = .ok (.iload_n 1, 1) := by decide +kernel
theorem dX0_begin_82 : decode cX0_begin 82 = .ok (.iconst 4, 1) := by decide +kernel
theorem dX0_begin_83 : decode cX0_begin 83 = .ok (.iadd, 1) := by decide +kernel
theorem dX0_begin_84 : decode cX0_begin 84 = .ok (.iaload, 1) := by decide +kernel
theorem dX0_begin_85 : decode cX0_begin 85 = .ok (.invokevirtual 63, 3) := by decide +kernel
theorem dX0_begin_88 : decode cX0_begin 88 = .ok (.iinc 1 5, 3) := by decide +kernel
theorem dX0_begin_91 : decode cX0_begin 91 = .ok (.goto (-50), 3) := by decide +kernel
theorem dX0_begin_94 : decode cX0_begin 94 = .ok (.return_, 1) := by decide +kernel
theorem dX0_copyFrom_0 : decode cX0_copyFrom 0 = .ok (.aload_n 0, 1) := by decide +kernel
theorem dX0_copyFrom_1 : decode cX0_copyFrom 1 = .ok (.aload_n 1, 1) := by decide +kernel
theorem dX0_copyFrom_2 : decode cX0_copyFrom 2 = .ok (.getfield 44, 3) := by decide +kernel
theorem dX0_copyFrom_5 : decode cX0_copyFrom 5 = .ok (.putfield 44, 3) := by decide +kernel
theorem dX0_copyFrom_8 : decode cX0_copyFrom 8 = .ok (.aload_n 0, 1) := by decide +kernel
theorem dX0_copyFrom_9 : decode cX0_copyFrom 9 = .ok (.aload_n 1, 1) := by decide +kernel
theorem dX0_copyFrom_10 : decode cX0_copyFrom 10 = .ok (.getfield 48, 3) := by decide +kernel
theorem dX0_copyFrom_13 : decode cX0_copyFrom 13 = .ok (.putfield 48, 3) := by decide +kernel
theorem dX0_copyFrom_16 : decode cX0_copyFrom 16 = .ok (.aload_n 0, 1) := by decide +kernel
theorem dX0_copyFrom_17 : decode cX0_copyFrom 17 = .ok (.getfield 14, 3) := by decide +kernel
theorem dX0_copyFrom_20 : decode cX0_copyFrom 20 = .ok (.aload_n 1, 1) := by decide +kernel
theorem dX0_copyFrom_21 : decode cX0_copyFrom 21 = .ok (.getfield 14, 3) := by decide +kernel
theorem dX0_copyFrom_24 : decode cX0_copyFrom 24 = .ok (.invokevirtual 67, 3) := by decide +kernel
theorem dX0_copyFrom_27 : decode cX0_copyFrom 27 = .ok (.aload_n 0, 1) := by decide +kernel
theorem dX0_copyFrom_28 : decode cX0_copyFrom 28 = .ok (.getfield 20, 3) := by decide +kernel
theorem dX0_copyFrom_31 : decode cX0_copyFrom 31 = .ok (.aload_n 1, 1) := by decide +kernel
theorem dX0_copyFrom_32 : decode cX0_copyFrom 32 = .ok (.getfield 20, 3) := by decide +kernel
theorem dX0_copyFrom_35 : decode cX0_copyFrom 35 = .ok (.invokevirtual 67, 3) := by decide +kernel
theorem dX0_copyFrom_38 : decode cX0_copyFrom 38 = .ok (.aload_n 0, 1) := by decide +kernel
theorem dX0_copyFrom_39 : decode cX0_copyFrom 39 = .ok (.getfield 23, 3) := by decide +kernel
theorem dX0_copyFrom_42 : decode cX0_copyFrom 42 = .ok (.aload_n 1, 1) := by decide +kernel
theorem dX0_copyFrom_43 : decode cX0_copyFrom 43 = .ok (.getfield 23, 3) := by decide +kernel
theorem dX0_copyFrom_46 : decode cX0_copyFrom 46 = .ok (.invokevirtual 67, 3) := by decide +kernel
theorem dX0_copyFrom_49 : decode cX0_copyFrom 49 = .ok (.aload_n 0, 1) := by decide +kernel
theorem dX0_copyFrom_50 : decode cX0_copyFrom 50 = .ok (.getfield 26, 3) := by decide +kernel
theorem dX0_copyFrom_53 : decode cX0_copyFrom 53 = .ok (.aload_n 1, 1) := by decide +kernel
theorem dX0_copyFrom_54 : decode cX0_copyFrom 54 = .ok (.getfield 26, 3) := by decide +kernel
theorem dX0_copyFrom_57 : decode cX0_copyFrom 57 = .ok (.invokevirtual 67, 3) := by decide +kernel
theorem dX0_copyFrom_60 : decode cX0_copyFrom 60 = .ok (.aload_n 0, 1) := by decide +kernel
theorem dX0_copyFrom_61 : decode cX0_copyFrom 61 = .ok (.getfield 29, 3) := by decide +kernel
theorem dX0_copyFrom_64 : decode cX0_copyFrom 64 = .ok (.aload_n 1, 1) := by decide +kernel
theorem dX0_copyFrom_65 : decode cX0_copyFrom 65 = .ok (.getfield 29, 3) := by decide +kernel
theorem dX0_copyFrom_68 : decode cX0_copyFrom 68 = .ok (.invokevirtual 67, 3) := by decide +kernel
theorem dX0_copyFrom_71 : decode cX0_copyFrom 71 = .ok (.aload_n 0, 1) := by decide +kernel
theorem dX0_copyFrom_72 : decode cX0_copyFrom 72 = .ok (.getfield 32, 3) := by decide +kernel
theorem dX0_copyFrom_75 : decode cX0_copyFrom 75 = .ok (.aload_n 1, 1) := by decide +kernel
theorem dX0_copyFrom_76 : decode cX0_copyFrom 76 = .ok (.getfield 32, 3) := by decide +kernel
theorem dX0_copyFrom_79 : decode cX0_copyFrom 79 = .ok (.invokevirtual 67, 3) := by decide +kernel
theorem dX0_copyFrom_82 : decode cX0_copyFrom 82 = .ok (.aload_n 0, 1) := by decide +kernel
theorem dX0_copyFrom_83 : decode cX0_copyFrom 83 = .ok (.getfield 35, 3) := by decide +kernel
theorem dX0_copyFrom_86 : decode cX0_copyFrom 86 = .ok (.aload_n 1, 1) := by decide +kernel
theorem dX0_copyFrom_87 : decode cX0_copyFrom 87 = .ok (.getfield 35, 3) := by decide +kernel
theorem dX0_copyFrom_90 : decode cX0_copyFrom 90 = .ok (.invokevirtual 67, 3) := by decide +kernel
theorem dX0_copyFrom_93 : decode cX0_copyFrom 93 = .ok (.aload_n 0, 1) := by decide +kernel
theorem dX0_copyFrom_94 : decode cX0_copyFrom 94 = .ok (.getfield 38, 3) := by decide +kernel
theorem dX0_copyFrom_97 : decode cX0_copyFrom 97 = .ok (.aload_n 1, 1) := by decide +kernel
theorem dX0_copyFrom_98 : decode cX0_copyFrom 98 = .ok (.getfield 38, 3) := by decide +kernel
theorem dX0_copyFrom_101 : decode cX0_copyFrom 101 = .ok (.invokevirtual 67, 3) := by decide +kernel
theorem dX0_copyFrom_104 : decode cX0_copyFrom 104 = .ok (.return_, 1) := by decide +kernel
theorem dX0_putSpan_0 : decode cX0_putSpan 0 = .ok (.aload_n 0, 1) := by decide +kernel
theorem dX0_putSpan_1 : decode cX0_putSpan 1 = .ok (.getfield 32, 3) := by decide +kernel
theorem dX0_putSpan_4 : decode cX0_putSpan 4 = .ok (.iload_n 1, 1) := by decide +kernel
theorem dX0_putSpan_5 : decode cX0_putSpan 5 = .ok (.iload_n 2, 1) := by decide +kernel
theorem dX0_putSpan_6 : decode cX0_putSpan 6 = .ok (.invokestatic 71, 3) := by decide +kernel
theorem dX0_putSpan_9 : decode cX0_putSpan 9 = .ok (.iload_n 3, 1) := by decide +kernel
theorem dX0_putSpan_10 : decode cX0_putSpan 10 = .ok (.invokevirtual 56, 3) := by decide +kernel
theorem dX0_putSpan_13 : decode cX0_putSpan 13 = .ok (.aload_n 0, 1) := by decide +kernel
theorem dX0_putSpan_14 : decode cX0_putSpan 14 = .ok (.getfield 32, 3) := by decide +kernel
theorem dX0_putSpan_17 : decode cX0_putSpan 17 = .ok (.iload_n 2, 1) := by decide +kernel
theorem dX0_putSpan_18 : decode cX0_putSpan 18 = .ok (.iload_n 1, 1) := by decide +kernel
theorem dX0_putSpan_19 : decode cX0_putSpan 19 = .ok (.invokestatic 71, 3) := by decide +kernel
theorem dX0_putSpan_22 : decode cX0_putSpan 22 = .ok (.iload_n 3, 1) := by decide +kernel
theorem dX0_putSpan_23 : decode cX0_putSpan 23 = .ok (.invokevirtual 56, 3) := by decide +kernel
theorem dX0_putSpan_26 : decode cX0_putSpan 26 = .ok (.aload_n 0, 1) := by decide +kernel
theorem dX0_putSpan_27 : decode cX0_putSpan 27 = .ok (.getfield 35, 3) := by decide +kernel
theorem dX0_putSpan_30 : decode cX0_putSpan 30 = .ok (.iload_n 1, 1) := by decide +kernel
theorem dX0_putSpan_31 : decode cX0_putSpan 31 = .ok (.iload_n 2, 1) := by decide +kernel
theorem dX0_putSpan_32 : decode cX0_putSpan 32 = .ok (.invokestatic 71, 3) := by decide +kernel
theorem dX0_putSpan_35 : decode cX0_putSpan 35 = .ok (.iload 4, 2) := by decide +kernel
theorem dX0_putSpan_37 : decode cX0_putSpan 37 = .ok (.invokevirtual 56, 3) := by decide +kernel
theorem dX0_putSpan_40 : decode cX0_putSpan 40 = .ok (.aload_n 0, 1) := by decide +kernel
theorem dX0_putSpan_41 : decode cX0_putSpan 41 = .ok (.getfield 35, 3) := by decide +kernel
theorem dX0_putSpan_44 : decode cX0_putSpan 44 = .ok (.iload_n 2, 1) := by decide +kernel
theorem dX0_putSpan_45 : decode cX0_putSpan 45 = .ok (.iload_n 1, 1) := by decide +kernel
theorem dX0_putSpan_46 : decode cX0_putSpan 46 = .ok (.invokestatic 71, 3) := by decide +kernel
theorem dX0_putSpan_49 : decode cX0_putSpan 49 = .ok (.iload 4, 2) := by decide +kernel
theorem dX0_putSpan_51 : decode cX0_putSpan 51 = .ok (.invokevirtual 56, 3) := by decide +kernel
theorem dX0_putSpan_54 : decode cX0_putSpan 54 = .ok (.aload_n 0, 1) := by decide +kernel
theorem dX0_putSpan_55 : decode cX0_putSpan 55 = .ok (.getfield 38, 3) := by decide +kernel
theorem dX0_putSpan_58 : decode cX0_putSpan 58 = .ok (.iload_n 1, 1) := by decide +kernel
theorem dX0_putSpan_59 : decode cX0_putSpan 59 = .ok (.iload_n 2, 1) := by decide +kernel
theorem dX0_putSpan_60 : decode cX0_putSpan 60 = .ok (.invokestatic 71, 3) := by decide +kernel
theorem dX0_putSpan_63 : decode cX0_putSpan 63 = .ok (.iload 5, 2) := by decide +kernel
theorem dX0_putSpan_65 : decode cX0_putSpan 65 = .ok (.invokevirtual 56, 3) := by decide +kernel
theorem dX0_putSpan_68 : decode cX0_putSpan 68 = .ok (.aload_n 0, 1) := by decide +kernel
theorem dX0_putSpan_69 : decode cX0_putSpan 69 = .ok (.getfield 38, 3) := by decide +kernel
theorem dX0_putSpan_72 : decode cX0_putSpan 72 = .ok (.iload_n 2, 1) := by decide +kernel
theorem dX0_putSpan_73 : decode cX0_putSpan 73 = .ok (.iload_n 1, 1) := by decide +kernel
theorem dX0_putSpan_74 : decode cX0_putSpan 74 = .ok (.invokestatic 71, 3) := by decide +kernel
theorem dX0_putSpan_77 : decode cX0_putSpan 77 = .ok (.iload 5, 2) := by decide +kernel
theorem dX0_putSpan_79 : decode cX0_putSpan 79 = .ok (.invokevirtual 56, 3) := by decide +kernel
theorem dX0_putSpan_82 : decode cX0_putSpan 82 = .ok (.return_, 1) := by decide +kernel
theorem dX0_openPlace_0 : decode cX0_openPlace 0 = .ok (.aload_n 0, 1) := by decide +kernel
theorem dX0_openPlace_1 : decode cX0_openPlace 1 = .ok (.getfield 48, 3) := by decide +kernel
theorem dX0_openPlace_4 : decode cX0_openPlace 4 = .ok (.istore_n 2, 1) := by decide +kernel
theorem dX0_openPlace_5 : decode cX0_openPlace 5 = .ok (.iload_n 2, 1) := by decide +kernel
theorem dX0_openPlace_6 : decode cX0_openPlace 6 = .ok (.iload_n 1, 1) := by decide +kernel
theorem dX0_openPlace_7 : decode cX0_openPlace 7 = .ok (.if_icmp .le 17, 3) := by decide +kernel
theorem dX0_openPlace_10 : decode cX0_openPlace 10 = .ok (.aload_n 0, 1) := by decide +kernel
theorem dX0_openPlace_11 : decode cX0_openPlace 11 = .ok (.iload_n 2, 1) := by decide +kernel
theorem dX0_openPlace_12 : decode cX0_openPlace 12 = .ok (.iconst 1, 1) := by decide +kernel
theorem dX0_openPlace_13 : decode cX0_openPlace 13 = .ok (.isub, 1) := by decide +kernel
theorem dX0_openPlace_14 : decode cX0_openPlace 14 = .ok (.iload_n 2, 1) := by decide +kernel
theorem dX0_openPlace_15 : decode cX0_openPlace 15 = .ok (.invokevirtual 75, 3) := by decide +kernel
theorem dX0_openPlace_18 : decode cX0_openPlace 18 = .ok (.iinc 2 (-1), 3) := by decide +kernel
theorem dX0_openPlace_21 : decode cX0_openPlace 21 = .ok (.goto (-16), 3) := by decide +kernel
theorem dX0_openPlace_24 : decode cX0_openPlace 24 = .ok (.aload_n 0, 1) := by decide +kernel
theorem dX0_openPlace_25 : decode cX0_openPlace 25 = .ok (.getfield 14, 3) := by decide +kernel
theorem dX0_openPlace_28 : decode cX0_openPlace 28 = .ok (.iload_n 1, 1) := by decide +kernel
theorem dX0_openPlace_29 : decode cX0_openPlace 29 = .ok (.iconst 0, 1) := by decide +kernel
theorem dX0_openPlace_30 : decode cX0_openPlace 30 = .ok (.invokevirtual 56, 3) := by decide +kernel
theorem dX0_openPlace_33 : decode cX0_openPlace 33 = .ok (.aload_n 0, 1) := by decide +kernel
theorem dX0_openPlace_34 : decode cX0_openPlace 34 = .ok (.getfield 20, 3) := by decide +kernel
theorem dX0_openPlace_37 : decode cX0_openPlace 37 = .ok (.iload_n 1, 1) := by decide +kernel
theorem dX0_openPlace_38 : decode cX0_openPlace 38 = .ok (.iconst 0, 1) := by decide +kernel
theorem dX0_openPlace_39 : decode cX0_openPlace 39 = .ok (.invokevirtual 56, 3) := by decide +kernel
theorem dX0_openPlace_42 : decode cX0_openPlace 42 = .ok (.aload_n 0, 1) := by decide +kernel
theorem dX0_openPlace_43 : decode cX0_openPlace 43 = .ok (.dup, 1) := by decide +kernel
theorem dX0_openPlace_44 : decode cX0_openPlace 44 = .ok (.getfield 48, 3) := by decide +kernel
theorem dX0_openPlace_47 : decode cX0_openPlace 47 = .ok (.iconst 1, 1) := by decide +kernel
theorem dX0_openPlace_48 : decode cX0_openPlace 48 = .ok (.iadd, 1) := by decide +kernel
theorem dX0_openPlace_49 : decode cX0_openPlace 49 = .ok (.putfield 48, 3) := by decide +kernel
theorem dX0_openPlace_52 : decode cX0_openPlace 52 = .ok (.return_, 1) := by decide +kernel
theorem dX0_closePlace_0 : decode cX0_closePlace 0 = .ok (.aload_n 0, 1) := by decide +kernel
theorem dX0_closePlace_1 : decode cX0_closePlace 1 = .ok (.dup, 1) := by decide +kernel
theorem dX0_closePlace_2 : decode cX0_closePlace 2 = .ok (.getfield 48, 3) := by decide +kernel
theorem dX0_closePlace_5 : decode cX0_closePlace 5 = .ok (.iconst 1, 1) := by decide +kernel
theorem dX0_closePlace_6 : decode cX0_closePlace 6 = .ok (.isub, 1) := by decide +kernel
theorem dX0_closePlace_7 : decode cX0_closePlace 7 = .ok (.putfield 48, 3) := by decide +kernel
theorem dX0_closePlace_10 : decode cX0_closePlace 10 = .ok (.iload_n 1, 1) := by decide +kernel
theorem dX0_closePlace_11 : decode cX0_closePlace 11 = .ok (.istore_n 2, 1) := by decide +kernel
theorem dX0_closePlace_12 : decode cX0_closePlace 12 = .ok (.iload_n 2, 1) := by decide +kernel
theorem dX0_closePlace_13 : decode cX0_closePlace 13 = .ok (.aload_n 0, 1) := by decide +kernel
theorem dX0_closePlace_14 : decode cX0_closePlace 14 = .ok (.getfield 48, 3) := by decide +kernel
theorem dX0_closePlace_17 : decode cX0_closePlace 17 = .ok (.if_icmp .ge 17, 3) := by decide +kernel
theorem dX0_closePlace_20 : decode cX0_closePlace 20 = .ok (.aload_n 0, 1) := by decide +kernel
theorem dX0_closePlace_21 : decode cX0_closePlace 21 = .ok (.iload_n 2, 1) := by decide +kernel
theorem dX0_closePlace_22 : decode cX0_closePlace 22 = .ok (.iconst 1, 1) := by decide +kernel
theorem dX0_closePlace_23 : decode cX0_closePlace 23 = .ok (.iadd, 1) := by decide +kernel
theorem dX0_closePlace_24 : decode cX0_closePlace 24 = .ok (.iload_n 2, 1) := by decide +kernel
theorem dX0_closePlace_25 : decode cX0_closePlace 25 = .ok (.invokevirtual 75, 3) := by decide +kernel
theorem dX0_closePlace_28 : decode cX0_closePlace 28 = .ok (.iinc 2 1, 3) := by decide +kernel
theorem dX0_closePlace_31 : decode cX0_closePlace 31 = .ok (.goto (-19), 3) := by decide +kernel
theorem dX0_closePlace_34 : decode cX0_closePlace 34 = .ok (.return_, 1) := by decide +kernel
theorem dX0_moveEvent_0 : decode cX0_moveEvent 0 = .ok (.aload_n 0, 1) := by decide +kernel
theorem dX0_moveEvent_1 : decode cX0_moveEvent 1 = .ok (.getfield 14, 3) := by decide +kernel
theorem dX0_moveEvent_4 : decode cX0_moveEvent 4 = .ok (.iload_n 2, 1) := by decide +kernel
theorem dX0_moveEvent_5 : decode cX0_moveEvent 5 = .ok (.aload_n 0, 1) := by decide +kernel
theorem dX0_moveEvent_6 : decode cX0_moveEvent 6 = .ok (.getfield 14, 3) := by decide +kernel
theorem dX0_moveEvent_9 : decode cX0_moveEvent 9 = .ok (.iload_n 1, 1) := by decide +kernel
theorem dX0_moveEvent_10 : decode cX0_moveEvent 10 = .ok (.invokevirtual 78, 3) := by decide +kernel
theorem dX0_moveEvent_13 : decode cX0_moveEvent 13 = .ok (.invokevirtual 56, 3) := by decide +kernel
theorem dX0_moveEvent_16 : decode cX0_moveEvent 16 = .ok (.aload_n 0, 1) := by decide +kernel
theorem dX0_moveEvent_17 : decode cX0_moveEvent 17 = .ok (.getfield 20, 3) := by decide +kernel
theorem dX0_moveEvent_20 : decode cX0_moveEvent 20 = .ok (.iload_n 2, 1) := by decide +kernel
theorem dX0_moveEvent_21 : decode cX0_moveEvent 21 = .ok (.aload_n 0, 1) := by decide +kernel
theorem dX0_moveEvent_22 : decode cX0_moveEvent 22 = .ok (.getfield 20, 3) := by decide +kernel
theorem dX0_moveEvent_25 : decode cX0_moveEvent 25 = .ok (.iload_n 1, 1) := by decide +kernel
theorem dX0_moveEvent_26 : decode cX0_moveEvent 26 = .ok (.invokevirtual 78, 3) := by decide +kernel
theorem dX0_moveEvent_29 : decode cX0_moveEvent 29 = .ok (.invokevirtual 56, 3) := by decide +kernel
theorem dX0_moveEvent_32 : decode cX0_moveEvent 32 = .ok (.iconst 0, 1) := by decide +kernel
theorem dX0_moveEvent_33 : decode cX0_moveEvent 33 = .ok (.istore_n 3, 1) := by decide +kernel
theorem dX0_moveEvent_34 : decode cX0_moveEvent 34 = .ok (.iload_n 3, 1) := by decide +kernel
theorem dX0_moveEvent_35 : decode cX0_moveEvent 35 = .ok (.iconst 3, 1) := by decide +kernel
theorem dX0_moveEvent_36 : decode cX0_moveEvent 36 = .ok (.if_icmp .ge 57, 3) := by decide +kernel
theorem dX0_moveEvent_39 : decode cX0_moveEvent 39 = .ok (.aload_n 0, 1) := by decide +kernel
theorem dX0_moveEvent_40 : decode cX0_moveEvent 40 = .ok (.getfield 23, 3) := by decide +kernel
theorem dX0_moveEvent_43 : decode cX0_moveEvent 43 = .ok (.iload_n 2, 1) := by decide +kernel
theorem dX0_moveEvent_44 : decode cX0_moveEvent 44 = .ok (.iload_n 3, 1) := by decide +kernel
theorem dX0_moveEvent_45 : decode cX0_moveEvent 45 = .ok (.invokestatic 82, 3) := by decide +kernel
theorem dX0_moveEvent_48 : decode cX0_moveEvent 48 = .ok (.aload_n 0, 1) := by decide +kernel
theorem dX0_moveEvent_49 : decode cX0_moveEvent 49 = .ok (.getfield 23, 3) := by decide +kernel
theorem dX0_moveEvent_52 : decode cX0_moveEvent 52 = .ok (.iload_n 1, 1) := by decide +kernel
theorem dX0_moveEvent_53 : decode cX0_moveEvent 53 = .ok (.iload_n 3, 1) := by decide +kernel
theorem dX0_moveEvent_54 : decode cX0_moveEvent 54 = .ok (.invokestatic 82, 3) := by decide +kernel
theorem dX0_moveEvent_57 : decode cX0_moveEvent 57 = .ok (.invokevirtual 78, 3) := by decide +kernel
theorem dX0_moveEvent_60 : decode cX0_moveEvent 60 = .ok (.invokevirtual 56, 3) := by decide +kernel
theorem dX0_moveEvent_63 : decode cX0_moveEvent 63 = .ok (.aload_n 0, 1) := by decide +kernel
theorem dX0_moveEvent_64 : decode cX0_moveEvent 64 = .ok (.getfield 26, 3) := by decide +kernel
theorem dX0_moveEvent_67 : decode cX0_moveEvent 67 = .ok (.iload_n 2, 1) := by decide +kernel
theorem dX0_moveEvent_68 : decode cX0_moveEvent 68 = .ok (.iload_n 3, 1) := by decide +kernel
theorem dX0_moveEvent_69 : decode cX0_moveEvent 69 = .ok (.invokestatic 82, 3) := by decide +kernel
theorem dX0_moveEvent_72 : decode cX0_moveEvent 72 = .ok (.aload_n 0, 1) := by decide +kernel
theorem dX0_moveEvent_73 : decode cX0_moveEvent 73 = .ok (.getfield 26, 3) := by decide +kernel
theorem dX0_moveEvent_76 : decode cX0_moveEvent 76 = .ok (.iload_n 1, 1) := by decide +kernel
theorem dX0_moveEvent_77 : decode cX0_moveEvent 77 = .ok (.iload_n 3, 1) := by decide +kernel
theorem dX0_moveEvent_78 : decode cX0_moveEvent 78 = .ok (.invokestatic 82, 3) := by decide +kernel
theorem dX0_moveEvent_81 : decode cX0_moveEvent 81 = .ok (.invokevirtual 78, 3) := by decide +kernel
theorem dX0_moveEvent_84 : decode cX0_moveEvent 84 = .ok (.invokevirtual 56, 3) := by decide +kernel
theorem dX0_moveEvent_87 : decode cX0_moveEvent 87 = .ok (.iinc 3 1, 3) := by decide +kernel
theorem dX0_moveEvent_90 : decode cX0_moveEvent 90 = .ok (.goto (-56), 3) := by decide +kernel
theorem dX0_moveEvent_93 : decode cX0_moveEvent 93 = .ok (.return_, 1) := by decide +kernel
theorem dX0_putNote_0 : decode cX0_putNote 0 = .ok (.aload_n 0, 1) := by decide +kernel
theorem dX0_putNote_1 : decode cX0_putNote 1 = .ok (.getfield 23, 3) := by decide +kernel
theorem dX0_putNote_4 : decode cX0_putNote 4 = .ok (.iload_n 1, 1) := by decide +kernel
theorem dX0_putNote_5 : decode cX0_putNote 5 = .ok (.iload_n 2, 1) := by decide +kernel
theorem dX0_putNote_6 : decode cX0_putNote 6 = .ok (.invokestatic 82, 3) := by decide +kernel
theorem dX0_putNote_9 : decode cX0_putNote 9 = .ok (.iload_n 3, 1) := by decide +kernel
theorem dX0_putNote_10 : decode cX0_putNote 10 = .ok (.invokevirtual 56, 3) := by decide +kernel
theorem dX0_putNote_13 : decode cX0_putNote 13 = .ok (.aload_n 0, 1) := by decide +kernel
theorem dX0_putNote_14 : decode cX0_putNote 14 = .ok (.getfield 26, 3) := by decide +kernel
theorem dX0_putNote_17 : decode cX0_putNote 17 = .ok (.iload_n 1, 1) := by decide +kernel
theorem dX0_putNote_18 : decode cX0_putNote 18 = .ok (.iload_n 2, 1) := by decide +kernel
theorem dX0_putNote_19 : decode cX0_putNote 19 = .ok (.invokestatic 82, 3) := by decide +kernel
theorem dX0_putNote_22 : decode cX0_putNote 22 = .ok (.bipush 31, 2) := by decide +kernel
theorem dX0_putNote_24 : decode cX0_putNote 24 = .ok (.invokevirtual 56, 3) := by decide +kernel
theorem dX0_putNote_27 : decode cX0_putNote 27 = .ok (.aload_n 0, 1) := by decide +kernel
theorem dX0_putNote_28 : decode cX0_putNote 28 = .ok (.getfield 14, 3) := by decide +kernel
theorem dX0_putNote_31 : decode cX0_putNote 31 = .ok (.iload_n 1, 1) := by decide +kernel
theorem dX0_putNote_32 : decode cX0_putNote 32 = .ok (.iload_n 2, 1) := by decide +kernel
theorem dX0_putNote_33 : decode cX0_putNote 33 = .ok (.iconst 1, 1) := by decide +kernel
theorem dX0_putNote_34 : decode cX0_putNote 34 = .ok (.iadd, 1) := by decide +kernel
theorem dX0_putNote_35 : decode cX0_putNote 35 = .ok (.invokevirtual 56, 3) := by decide +kernel
theorem dX0_putNote_38 : decode cX0_putNote 38 = .ok (.return_, 1) := by decide +kernel
theorem dX0_canShift_0 : decode cX0_canShift 0 = .ok (.aload_n 0, 1) := by decide +kernel
theorem dX0_canShift_1 : decode cX0_canShift 1 = .ok (.getfield 48, 3) := by decide +kernel
theorem dX0_canShift_4 : decode cX0_canShift 4 = .ok (.ifCond .eq 25, 3) := by decide +kernel
theorem dX0_canShift_7 : decode cX0_canShift 7 = .ok (.aload_n 0, 1) := by decide +kernel
theorem dX0_canShift_8 : decode cX0_canShift 8 = .ok (.invokevirtual 85, 3) := by decide +kernel
theorem dX0_canShift_11 : decode cX0_canShift 11 = .ok (.iload_n 1, 1) := by decide +kernel
theorem dX0_canShift_12 : decode cX0_canShift 12 = .ok (.iadd, 1) := by decide +kernel
theorem dX0_canShift_13 : decode cX0_canShift 13 = .ok (.bipush 21, 2) := by decide +kernel
theorem dX0_canShift_15 : decode cX0_canShift 15 = .ok (.if_icmp .lt 18, 3) := by decide +kernel
theorem dX0_canShift_18 : decode cX0_canShift 18 = .ok (.aload_n 0, 1) := by decide +kernel
theorem dX0_canShift_19 : decode cX0_canShift 19 = .ok (.invokevirtual 89, 3) := by decide +kernel
theorem dX0_canShift_22 : decode cX0_canShift 22 = .ok (.iload_n 1, 1) := by decide +kernel
theorem dX0_canShift_23 : decode cX0_canShift 23 = .ok (.iadd, 1) := by decide +kernel
theorem dX0_canShift_24 : decode cX0_canShift 24 = .ok (.bipush 108, 2) := by decide +kernel
theorem dX0_canShift_26 : decode cX0_canShift 26 = .ok (.if_icmp .gt 7, 3) := by decide +kernel
theorem dX0_canShift_29 : decode cX0_canShift 29 = .ok (.iconst 1, 1) := by decide +kernel
theorem dX0_canShift_30 : decode cX0_canShift 30 = .ok (.goto 4, 3) := by decide +kernel
theorem dX0_canShift_33 : decode cX0_canShift 33 = .ok (.iconst 0, 1) := by decide +kernel
theorem dX0_canShift_34 : decode cX0_canShift 34 = .ok (.ireturn, 1) := by decide +kernel
theorem dX0_shift_0 : decode cX0_shift 0 = .ok (.iconst 0, 1) := by decide +kernel
theorem dX0_shift_1 : decode cX0_shift 1 = .ok (.istore_n 2, 1) := by decide +kernel
theorem dX0_shift_2 : decode cX0_shift 2 = .ok (.iload_n 2, 1) := by decide +kernel
theorem dX0_shift_3 : decode cX0_shift 3 = .ok (.aload_n 0, 1) := by decide +kernel
theorem dX0_shift_4 : decode cX0_shift 4 = .ok (.getfield 48, 3) := by decide +kernel
theorem dX0_shift_7 : decode cX0_shift 7 = .ok (.if_icmp .ge 49, 3) := by decide +kernel
theorem dX0_shift_10 : decode cX0_shift 10 = .ok (.iconst 0, 1) := by decide +kernel
theorem dX0_shift_11 : decode cX0_shift 11 = .ok (.istore_n 3, 1) := by decide +kernel
theorem dX0_shift_12 : decode cX0_shift 12 = .ok (.iload_n 3, 1) := by decide +kernel
theorem dX0_shift_13 : decode cX0_shift 13 = .ok (.aload_n 0, 1) := by decide +kernel
theorem dX0_shift_14 : decode cX0_shift 14 = .ok (.getfield 14, 3) := by decide +kernel
theorem dX0_shift_17 : decode cX0_shift 17 = .ok (.iload_n 2, 1) := by decide +kernel
theorem dX0_shift_18 : decode cX0_shift 18 = .ok (.invokevirtual 78, 3) := by decide +kernel
theorem dX0_shift_21 : decode cX0_shift 21 = .ok (.if_icmp .ge 29, 3) := by decide +kernel
theorem dX0_shift_24 : decode cX0_shift 24 = .ok (.aload_n 0, 1) := by decide +kernel
theorem dX0_shift_25 : decode cX0_shift 25 = .ok (.getfield 23, 3) := by decide +kernel
theorem dX0_shift_28 : decode cX0_shift 28 = .ok (.iload_n 2, 1) := by decide +kernel
theorem dX0_shift_29 : decode cX0_shift 29 = .ok (.iload_n 3, 1) := by decide +kernel
theorem dX0_shift_30 : decode cX0_shift 30 = .ok (.invokestatic 82, 3) := by decide +kernel
theorem dX0_shift_33 : decode cX0_shift 33 = .ok (.aload_n 0, 1) := by decide +kernel
theorem dX0_shift_34 : decode cX0_shift 34 = .ok (.iload_n 2, 1) := by decide +kernel
theorem dX0_shift_35 : decode cX0_shift 35 = .ok (.iload_n 3, 1) := by decide +kernel
theorem dX0_shift_36 : decode cX0_shift 36 = .ok (.invokevirtual 92, 3) := by decide +kernel
theorem dX0_shift_39 : decode cX0_shift 39 = .ok (.iload_n 1, 1) := by decide +kernel
theorem dX0_shift_40 : decode cX0_shift 40 = .ok (.iadd, 1) := by decide +kernel
theorem dX0_shift_41 : decode cX0_shift 41 = .ok (.invokevirtual 56, 3) := by decide +kernel
theorem dX0_shift_44 : decode cX0_shift 44 = .ok (.iinc 3 1, 3) := by decide +kernel
theorem dX0_shift_47 : decode cX0_shift 47 = .ok (.goto (-35), 3) := by decide +kernel
theorem dX0_shift_50 : decode cX0_shift 50 = .ok (.iinc 2 1, 3) := by decide +kernel
theorem dX0_shift_53 : decode cX0_shift 53 = .ok (.goto (-51), 3) := by decide +kernel
theorem dX0_shift_56 : decode cX0_shift 56 = .ok (.return_, 1) := by decide +kernel
theorem dX0_keyOf_0 : decode cX0_keyOf 0 = .ok (.aload_n 0, 1) := by decide +kernel
theorem dX0_keyOf_1 : decode cX0_keyOf 1 = .ok (.getfield 23, 3) := by decide +kernel
theorem dX0_keyOf_4 : decode cX0_keyOf 4 = .ok (.iload_n 1, 1) := by decide +kernel
theorem dX0_keyOf_5 : decode cX0_keyOf 5 = .ok (.iload_n 2, 1) := by decide +kernel
theorem dX0_keyOf_6 : decode cX0_keyOf 6 = .ok (.invokestatic 82, 3) := by decide +kernel
theorem dX0_keyOf_9 : decode cX0_keyOf 9 = .ok (.invokevirtual 78, 3) := by decide +kernel
theorem dX0_keyOf_12 : decode cX0_keyOf 12 = .ok (.ireturn, 1) := by decide +kernel
theorem dX0_allNotes_0 : decode cX0_allNotes 0 = .ok (.iconst 0, 1) := by decide +kernel
theorem dX0_allNotes_1 : decode cX0_allNotes 1 = .ok (.istore_n 1, 1) := by decide +kernel
theorem dX0_allNotes_2 : decode cX0_allNotes 2 = .ok (.iconst 0, 1) := by decide +kernel
theorem dX0_allNotes_3 : decode cX0_allNotes 3 = .ok (.istore_n 2, 1) := by decide +kernel
theorem dX0_allNotes_4 : decode cX0_allNotes 4 = .ok (.iload_n 2, 1) := by decide +kernel
theorem dX0_allNotes_5 : decode cX0_allNotes 5 = .ok (.aload_n 0, 1) := by decide +kernel
theorem dX0_allNotes_6 : decode cX0_allNotes 6 = .ok (.getfield 48, 3) := by decide +kernel
theorem dX0_allNotes_9 : decode cX0_allNotes 9 = .ok (.if_icmp .ge 20, 3) := by decide +kernel
theorem dX0_allNotes_12 : decode cX0_allNotes 12 = .ok (.iload_n 1, 1) := by decide +kernel
theorem dX0_allNotes_13 : decode cX0_allNotes 13 = .ok (.aload_n 0, 1) := by decide +kernel
theorem dX0_allNotes_14 : decode cX0_allNotes 14 = .ok (.getfield 14, 3) := by decide +kernel
theorem dX0_allNotes_17 : decode cX0_allNotes 17 = .ok (.iload_n 2, 1) := by decide +kernel
theorem dX0_allNotes_18 : decode cX0_allNotes 18 = .ok (.invokevirtual 78, 3) := by decide +kernel
theorem dX0_allNotes_21 : decode cX0_allNotes 21 = .ok (.iadd, 1) := by decide +kernel
theorem dX0_allNotes_22 : decode cX0_allNotes 22 = .ok (.istore_n 1, 1) := by decide +kernel
theorem dX0_allNotes_23 : decode cX0_allNotes 23 = .ok (.iinc 2 1, 3) := by decide +kernel
theorem dX0_allNotes_26 : decode cX0_allNotes 26 = .ok (.goto (-22), 3) := by decide +kernel
theorem dX0_allNotes_29 : decode cX0_allNotes 29 = .ok (.iload_n 1, 1) := by decide +kernel
theorem dX0_allNotes_30 : decode cX0_allNotes 30 = .ok (.ireturn, 1) := by decide +kernel
theorem dX0_leastKey_0 : decode cX0_leastKey 0 = .ok (.iconst (-1), 1) := by decide +kernel
theorem dX0_leastKey_1 : decode cX0_leastKey 1 = .ok (.istore_n 1, 1) := by decide +kernel
theorem dX0_leastKey_2 : decode cX0_leastKey 2 = .ok (.iconst 0, 1) := by decide +kernel
theorem dX0_leastKey_3 : decode cX0_leastKey 3 = .ok (.istore_n 2, 1) := by decide +kernel
theorem dX0_leastKey_4 : decode cX0_leastKey 4 = .ok (.iload_n 2, 1) := by decide +kernel
theorem dX0_leastKey_5 : decode cX0_leastKey 5 = .ok (.aload_n 0, 1) := by decide +kernel
theorem dX0_leastKey_6 : decode cX0_leastKey 6 = .ok (.getfield 48, 3) := by decide +kernel
theorem dX0_leastKey_9 : decode cX0_leastKey 9 = .ok (.if_icmp .ge 20, 3) := by decide +kernel
theorem dX0_leastKey_12 : decode cX0_leastKey 12 = .ok (.iload_n 1, 1) := by decide +kernel
theorem dX0_leastKey_13 : decode cX0_leastKey 13 = .ok (.aload_n 0, 1) := by decide +kernel
theorem dX0_leastKey_14 : decode cX0_leastKey 14 = .ok (.iload_n 2, 1) := by decide +kernel
theorem dX0_leastKey_15 : decode cX0_leastKey 15 = .ok (.iconst 0, 1) := by decide +kernel
theorem dX0_leastKey_16 : decode cX0_leastKey 16 = .ok (.invokevirtual 92, 3) := by decide +kernel
theorem dX0_leastKey_19 : decode cX0_leastKey 19 = .ok (.invokestatic 95, 3) := by decide +kernel
theorem dX0_leastKey_22 : decode cX0_leastKey 22 = .ok (.istore_n 1, 1) := by decide +kernel
theorem dX0_leastKey_23 : decode cX0_leastKey 23 = .ok (.iinc 2 1, 3) := by decide +kernel
theorem dX0_leastKey_26 : decode cX0_leastKey 26 = .ok (.goto (-22), 3) := by decide +kernel
theorem dX0_leastKey_29 : decode cX0_leastKey 29 = .ok (.iload_n 1, 1) := by decide +kernel
theorem dX0_leastKey_30 : decode cX0_leastKey 30 = .ok (.ireturn, 1) := by decide +kernel
theorem dX0_greatestKey_0 : decode cX0_greatestKey 0 = .ok (.iconst (-1), 1) := by decide +kernel
theorem dX0_greatestKey_1 : decode cX0_greatestKey 1 = .ok (.istore_n 1, 1) := by decide +kernel
theorem dX0_greatestKey_2 : decode cX0_greatestKey 2 = .ok (.iconst 0, 1) := by decide +kernel
theorem dX0_greatestKey_3 : decode cX0_greatestKey 3 = .ok (.istore_n 2, 1) := by decide +kernel
theorem dX0_greatestKey_4 : decode cX0_greatestKey 4 = .ok (.iload_n 2, 1) := by decide +kernel
theorem dX0_greatestKey_5 : decode cX0_greatestKey 5 = .ok (.aload_n 0, 1) := by decide +kernel
theorem dX0_greatestKey_6 : decode cX0_greatestKey 6 = .ok (.getfield 48, 3) := by decide +kernel
theorem dX0_greatestKey_9 : decode cX0_greatestKey 9 = .ok (.if_icmp .ge 29, 3) := by decide +kernel
theorem dX0_greatestKey_12 : decode cX0_greatestKey 12 = .ok (.iload_n 1, 1) := by decide +kernel
theorem dX0_greatestKey_13 : decode cX0_greatestKey 13 = .ok (.aload_n 0, 1) := by decide +kernel
theorem dX0_greatestKey_14 : decode cX0_greatestKey 14 = .ok (.iload_n 2, 1) := by decide +kernel
theorem dX0_greatestKey_15 : decode cX0_greatestKey 15 = .ok (.aload_n 0, 1) := by decide +kernel
theorem dX0_greatestKey_16 : decode cX0_greatestKey 16 = .ok (.getfield 14, 3) := by decide +kernel
theorem dX0_greatestKey_19 : decode cX0_greatestKey 19 = .ok (.iload_n 2, 1) := by decide +kernel
theorem dX0_greatestKey_20 : decode cX0_greatestKey 20 = .ok (.invokevirtual 78, 3) := by decide +kernel
theorem dX0_greatestKey_23 : decode cX0_greatestKey 23 = .ok (.iconst 1, 1) := by decide +kernel
theorem dX0_greatestKey_24 : decode cX0_greatestKey 24 = .ok (.isub, 1) := by decide +kernel
theorem dX0_greatestKey_25 : decode cX0_greatestKey 25 = .ok (.invokevirtual 92, 3) := by decide +kernel
theorem dX0_greatestKey_28 : decode cX0_greatestKey 28 = .ok (.invokestatic 98, 3) := by decide +kernel
theorem dX0_greatestKey_31 : decode cX0_greatestKey 31 = .ok (.istore_n 1, 1) := by decide +kernel
theorem dX0_greatestKey_32 : decode cX0_greatestKey 32 = .ok (.iinc 2 1, 3) := by decide +kernel
theorem dX0_greatestKey_35 : decode cX0_greatestKey 35 = .ok (.goto (-31), 3) := by decide +kernel
theorem dX0_greatestKey_38 : decode cX0_greatestKey 38 = .ok (.iload_n 1, 1) := by decide +kernel
theorem dX0_greatestKey_39 : decode cX0_greatestKey 39 = .ok (.ireturn, 1) := by decide +kernel
theorem dX0_blackNotes_0 : decode cX0_blackNotes 0 = .ok (.iconst 0, 1) := by decide +kernel
theorem dX0_blackNotes_1 : decode cX0_blackNotes 1 = .ok (.istore_n 1, 1) := by decide +kernel
theorem dX0_blackNotes_2 : decode cX0_blackNotes 2 = .ok (.iconst 0, 1) := by decide +kernel
theorem dX0_blackNotes_3 : decode cX0_blackNotes 3 = .ok (.istore_n 2, 1) := by decide +kernel
theorem dX0_blackNotes_4 : decode cX0_blackNotes 4 = .ok (.iload_n 2, 1) := by decide +kernel
theorem dX0_blackNotes_5 : decode cX0_blackNotes 5 = .ok (.aload_n 0, 1) := by decide +kernel
theorem dX0_blackNotes_6 : decode cX0_blackNotes 6 = .ok (.getfield 48, 3) := by decide +kernel
theorem dX0_blackNotes_9 : decode cX0_blackNotes 9 = .ok (.if_icmp .ge 49, 3) := by decide +kernel
theorem dX0_blackNotes_12 : decode cX0_blackNotes 12 = .ok (.iconst 0, 1) := by decide +kernel
theorem dX0_blackNotes_13 : decode cX0_blackNotes 13 = .ok (.istore_n 3, 1) := by decide +kernel
theorem dX0_blackNotes_14 : decode cX0_blackNotes 14 = .ok (.iload_n 3, 1) := by decide +kernel
theorem dX0_blackNotes_15 : decode cX0_blackNotes 15 = .ok (.aload_n 0, 1) := by decide +kernel
theorem dX0_blackNotes_16 : decode cX0_blackNotes 16 = .ok (.getfield 14, 3) := by decide +kernel
theorem dX0_blackNotes_19 : decode cX0_blackNotes 19 = .ok (.iload_n 2, 1) := by decide +kernel
theorem dX0_blackNotes_20 : decode cX0_blackNotes 20 = .ok (.invokevirtual 78, 3) := by decide +kernel
theorem dX0_blackNotes_23 : decode cX0_blackNotes 23 = .ok (.if_icmp .ge 29, 3) := by decide +kernel
theorem dX0_blackNotes_26 : decode cX0_blackNotes 26 = .ok (.iload_n 1, 1) := by decide +kernel
theorem dX0_blackNotes_27 : decode cX0_blackNotes 27 = .ok (.aload_n 0, 1) := by decide +kernel
theorem dX0_blackNotes_28 : decode cX0_blackNotes 28 = .ok (.iload_n 2, 1) := by decide +kernel
theorem dX0_blackNotes_29 : decode cX0_blackNotes 29 = .ok (.iload_n 3, 1) := by decide +kernel
theorem dX0_blackNotes_30 : decode cX0_blackNotes 30 = .ok (.invokevirtual 92, 3) := by decide +kernel
theorem dX0_blackNotes_33 : decode cX0_blackNotes 33 = .ok (.invokestatic 103, 3) := by decide +kernel
theorem dX0_blackNotes_36 : decode cX0_blackNotes 36 = .ok (.ifCond .eq 7, 3) := by decide +kernel
theorem dX0_blackNotes_39 : decode cX0_blackNotes 39 = .ok (.iconst 1, 1) := by decide +kernel
theorem dX0_blackNotes_40 : decode cX0_blackNotes 40 = .ok (.goto 4, 3) := by decide +kernel
theorem dX0_blackNotes_43 : decode cX0_blackNotes 43 = .ok (.iconst 0, 1) := by decide +kernel
theorem dX0_blackNotes_44 : decode cX0_blackNotes 44 = .ok (.iadd, 1) := by decide +kernel
theorem dX0_blackNotes_45 : decode cX0_blackNotes 45 = .ok (.istore_n 1, 1) := by decide +kernel
theorem dX0_blackNotes_46 : decode cX0_blackNotes 46 = .ok (.iinc 3 1, 3) := by decide +kernel
theorem dX0_blackNotes_49 : decode cX0_blackNotes 49 = .ok (.goto (-35), 3) := by decide +kernel
theorem dX0_blackNotes_52 : decode cX0_blackNotes 52 = .ok (.iinc 2 1, 3) := by decide +kernel
theorem dX0_blackNotes_55 : decode cX0_blackNotes 55 = .ok (.goto (-51), 3) := by decide +kernel
theorem dX0_blackNotes_58 : decode cX0_blackNotes 58 = .ok (.iload_n 1, 1) := by decide +kernel
theorem dX0_blackNotes_59 : decode cX0_blackNotes 59 = .ok (.ireturn, 1) := by decide +kernel
theorem dX0_freePassages_0 : decode cX0_freePassages 0 = .ok (.iconst 0, 1) := by decide +kernel
theorem dX0_freePassages_1 : decode cX0_freePassages 1 = .ok (.istore_n 1, 1) := by decide +kernel
theorem dX0_freePassages_2 : decode cX0_freePassages 2 = .ok (.iconst 0, 1) := by decide +kernel
theorem dX0_freePassages_3 : decode cX0_freePassages 3 = .ok (.istore_n 2, 1) := by decide +kernel
theorem dX0_freePassages_4 : decode cX0_freePassages 4 = .ok (.iload_n 2, 1) := by decide +kernel
theorem dX0_freePassages_5 : decode cX0_freePassages 5 = .ok (.aload_n 0, 1) := by decide +kernel
theorem dX0_freePassages_6 : decode cX0_freePassages 6 = .ok (.getfield 48, 3) := by decide +kernel
theorem dX0_freePassages_9 : decode cX0_freePassages 9 = .ok (.iconst 1, 1) := by decide +kernel
theorem dX0_freePassages_10 : decode cX0_freePassages 10 = .ok (.isub, 1) := by decide +kernel
theorem dX0_freePassages_11 : decode cX0_freePassages 11 = .ok (.if_icmp .ge 32, 3) := by decide +kernel
theorem dX0_freePassages_14 : decode cX0_freePassages 14 = .ok (.iload_n 1, 1) := by decide +kernel
theorem dX0_freePassages_15 : decode cX0_freePassages 15 = .ok (.aload_n 0, 1) := by decide +kernel
theorem dX0_freePassages_16 : decode cX0_freePassages 16 = .ok (.aload_n 0, 1) := by decide +kernel
theorem dX0_freePassages_17 : decode cX0_freePassages 17 = .ok (.getfield 20, 3) := by decide +kernel
theorem dX0_freePassages_20 : decode cX0_freePassages 20 = .ok (.iload_n 2, 1) := by decide +kernel
theorem dX0_freePassages_21 : decode cX0_freePassages 21 = .ok (.invokevirtual 78, 3) := by decide +kernel
theorem dX0_freePassages_24 : decode cX0_freePassages 24 = .ok (.invokevirtual 107, 3) := by decide +kernel
theorem dX0_freePassages_27 : decode cX0_freePassages 27 = .ok (.ifCond .eq 7, 3) := by decide +kernel
theorem dX0_freePassages_30 : decode cX0_freePassages 30 = .ok (.iconst 1, 1) := by decide +kernel
theorem dX0_freePassages_31 : decode cX0_freePassages 31 = .ok (.goto 4, 3) := by decide +kernel
theorem dX0_freePassages_34 : decode cX0_freePassages 34 = .ok (.iconst 0, 1) := by decide +kernel
theorem dX0_freePassages_35 : decode cX0_freePassages 35 = .ok (.iadd, 1) := by decide +kernel
theorem dX0_freePassages_36 : decode cX0_freePassages 36 = .ok (.istore_n 1, 1) := by decide +kernel
theorem dX0_freePassages_37 : decode cX0_freePassages 37 = .ok (.iinc 2 1, 3) := by decide +kernel
theorem dX0_freePassages_40 : decode cX0_freePassages 40 = .ok (.goto (-36), 3) := by decide +kernel
theorem dX0_freePassages_43 : decode cX0_freePassages 43 = .ok (.iload_n 1, 1) := by decide +kernel
theorem dX0_freePassages_44 : decode cX0_freePassages 44 = .ok (.ireturn, 1) := by decide +kernel
theorem dX0_isFree_0 : decode cX0_isFree 0 = .ok (.iload_n 1, 1) := by decide +kernel
theorem dX0_isFree_1 : decode cX0_isFree 1 = .ok (.aload_n 0, 1) := by decide +kernel
theorem dX0_isFree_2 : decode cX0_isFree 2 = .ok (.getfield 29, 3) := by decide +kernel
theorem dX0_isFree_5 : decode cX0_isFree 5 = .ok (.bipush 8, 2) := by decide +kernel
theorem dX0_isFree_7 : decode cX0_isFree 7 = .ok (.invokevirtual 78, 3) := by decide +kernel
theorem dX0_isFree_10 : decode cX0_isFree 10 = .ok (.if_icmp .lt 7, 3) := by decide +kernel
theorem dX0_isFree_13 : decode cX0_isFree 13 = .ok (.iconst 1, 1) := by decide +kernel
theorem dX0_isFree_14 : decode cX0_isFree 14 = .ok (.goto 4, 3) := by decide +kernel
theorem dX0_isFree_17 : decode cX0_isFree 17 = .ok (.iconst 0, 1) := by decide +kernel
theorem dX0_isFree_18 : decode cX0_isFree 18 = .ok (.ireturn, 1) := by decide +kernel
theorem dX0_mayPlay_0 : decode cX0_mayPlay 0 = .ok (.aload_n 0, 1) := by decide +kernel
theorem dX0_mayPlay_1 : decode cX0_mayPlay 1 = .ok (.getfield 26, 3) := by decide +kernel
theorem dX0_mayPlay_4 : decode cX0_mayPlay 4 = .ok (.iload_n 1, 1) := by decide +kernel
theorem dX0_mayPlay_5 : decode cX0_mayPlay 5 = .ok (.iload_n 2, 1) := by decide +kernel
theorem dX0_mayPlay_6 : decode cX0_mayPlay 6 = .ok (.invokestatic 82, 3) := by decide +kernel
theorem dX0_mayPlay_9 : decode cX0_mayPlay 9 = .ok (.invokevirtual 78, 3) := by decide +kernel
theorem dX0_mayPlay_12 : decode cX0_mayPlay 12 = .ok (.iload_n 3, 1) := by decide +kernel
theorem dX0_mayPlay_13 : decode cX0_mayPlay 13 = .ok (.invokestatic 110, 3) := by decide +kernel
theorem dX0_mayPlay_16 : decode cX0_mayPlay 16 = .ok (.iand, 1) := by decide +kernel
theorem dX0_mayPlay_17 : decode cX0_mayPlay 17 = .ok (.ifCond .eq 7, 3) := by decide +kernel
theorem dX0_mayPlay_20 : decode cX0_mayPlay 20 = .ok (.iconst 1, 1) := by decide +kernel
theorem dX0_mayPlay_21 : decode cX0_mayPlay 21 = .ok (.goto 4, 3) := by decide +kernel
theorem dX0_mayPlay_24 : decode cX0_mayPlay 24 = .ok (.iconst 0, 1) := by decide +kernel
theorem dX0_mayPlay_25 : decode cX0_mayPlay 25 = .ok (.ireturn, 1) := by decide +kernel
theorem dX0_inOrder_0 : decode cX0_inOrder 0 = .ok (.aload_n 0, 1) := by decide +kernel
theorem dX0_inOrder_1 : decode cX0_inOrder 1 = .ok (.getfield 44, 3) := by decide +kernel
theorem dX0_inOrder_4 : decode cX0_inOrder 4 = .ok (.ifCond .eq 16, 3) := by decide +kernel
theorem dX0_inOrder_7 : decode cX0_inOrder 7 = .ok (.iload_n 1, 1) := by decide +kernel
theorem dX0_inOrder_8 : decode cX0_inOrder 8 = .ok (.iload_n 2, 1) := by decide +kernel
theorem dX0_inOrder_9 : decode cX0_inOrder 9 = .ok (.if_icmp .ge 7, 3) := by decide +kernel
theorem dX0_inOrder_12 : decode cX0_inOrder 12 = .ok (.iconst 1, 1) := by decide +kernel
theorem dX0_inOrder_13 : decode cX0_inOrder 13 = .ok (.goto 17, 3) := by decide +kernel
theorem dX0_inOrder_16 : decode cX0_inOrder 16 = .ok (.iconst 0, 1) := by decide +kernel
theorem dX0_inOrder_17 : decode cX0_inOrder 17 = .ok (.goto 13, 3) := by decide +kernel
theorem dX0_inOrder_20 : decode cX0_inOrder 20 = .ok (.iload_n 1, 1) := by decide +kernel
theorem dX0_inOrder_21 : decode cX0_inOrder 21 = .ok (.iload_n 2, 1) := by decide +kernel
theorem dX0_inOrder_22 : decode cX0_inOrder 22 = .ok (.if_icmp .le 7, 3) := by decide +kernel
theorem dX0_inOrder_25 : decode cX0_inOrder 25 = .ok (.iconst 1, 1) := by decide +kernel
theorem dX0_inOrder_26 : decode cX0_inOrder 26 = .ok (.goto 4, 3) := by decide +kernel
theorem dX0_inOrder_29 : decode cX0_inOrder 29 = .ok (.iconst 0, 1) := by decide +kernel
theorem dX0_inOrder_30 : decode cX0_inOrder 30 = .ok (.ireturn, 1) := by decide +kernel
theorem dX0_costOfEvent_0 : decode cX0_costOfEvent 0 = .ok (.iconst 0, 1) := by decide +kernel
theorem dX0_costOfEvent_1 : decode cX0_costOfEvent 1 = .ok (.istore 5, 2) := by decide +kernel
theorem dX0_costOfEvent_3 : decode cX0_costOfEvent 3 = .ok (.iconst 0, 1) := by decide +kernel
theorem dX0_costOfEvent_4 : decode cX0_costOfEvent 4 = .ok (.istore 6, 2) := by decide +kernel
theorem dX0_costOfEvent_6 : decode cX0_costOfEvent 6 = .ok (.iload 6, 2) := by decide +kernel
theorem dX0_costOfEvent_8 : decode cX0_costOfEvent 8 = .ok (.aload_n 0, 1) := by decide +kernel
theorem dX0_costOfEvent_9 : decode cX0_costOfEvent 9 = .ok (.getfield 14, 3) := by decide +kernel
theorem dX0_costOfEvent_12 : decode cX0_costOfEvent 12 = .ok (.iload_n 1, 1) := by decide +kernel
theorem dX0_costOfEvent_13 : decode cX0_costOfEvent 13 = .ok (.invokevirtual 78, 3) := by decide +kernel
theorem dX0_costOfEvent_16 : decode cX0_costOfEvent 16 = .ok (.if_icmp .ge 127, 3) := by decide +kernel
theorem dX0_costOfEvent_19 : decode cX0_costOfEvent 19 = .ok (.aload_n 2, 1) := by decide +kernel
theorem dX0_costOfEvent_20 : decode cX0_costOfEvent 20 = .ok (.iload_n 3, 1) := by decide +kernel
theorem dX0_costOfEvent_21 : decode cX0_costOfEvent 21 = .ok (.iload 6, 2) := by decide +kernel
theorem dX0_costOfEvent_23 : decode cX0_costOfEvent 23 = .ok (.iadd, 1) := by decide +kernel
theorem dX0_costOfEvent_24 : decode cX0_costOfEvent 24 = .ok (.invokevirtual 78, 3) := by decide +kernel
theorem dX0_costOfEvent_27 : decode cX0_costOfEvent 27 = .ok (.istore 7, 2) := by decide +kernel
theorem dX0_costOfEvent_29 : decode cX0_costOfEvent 29 = .ok (.aload_n 0, 1) := by decide +kernel
theorem dX0_costOfEvent_30 : decode cX0_costOfEvent 30 = .ok (.iload_n 1, 1) := by decide +kernel
theorem dX0_costOfEvent_31 : decode cX0_costOfEvent 31 = .ok (.iload 6, 2) := by decide +kernel
theorem dX0_costOfEvent_33 : decode cX0_costOfEvent 33 = .ok (.iload 7, 2) := by decide +kernel
theorem dX0_costOfEvent_35 : decode cX0_costOfEvent 35 = .ok (.invokevirtual 113, 3) := by decide +kernel
theorem dX0_costOfEvent_38 : decode cX0_costOfEvent 38 = .ok (.ifCond .ne 5, 3) := by decide +kernel
theorem dX0_costOfEvent_41 : decode cX0_costOfEvent 41 = .ok (.iconst (-1), 1) := by decide +kernel
theorem dX0_costOfEvent_42 : decode cX0_costOfEvent 42 = .ok (.ireturn, 1) := by decide +kernel
theorem dX0_costOfEvent_43 : decode cX0_costOfEvent 43 = .ok (.iload 5, 2) := by decide +kernel
theorem dX0_costOfEvent_45 : decode cX0_costOfEvent 45 = .ok (.aload_n 0, 1) := by decide +kernel
theorem dX0_costOfEvent_46 : decode cX0_costOfEvent 46 = .ok (.aload_n 0, 1) := by decide +kernel
theorem dX0_costOfEvent_47 : decode cX0_costOfEvent 47 = .ok (.iload_n 1, 1) := by decide +kernel
theorem dX0_costOfEvent_48 : decode cX0_costOfEvent 48 = .ok (.iload 6, 2) := by decide +kernel
theorem dX0_costOfEvent_50 : decode cX0_costOfEvent 50 = .ok (.invokevirtual 92, 3) := by decide +kernel
theorem dX0_costOfEvent_53 : decode cX0_costOfEvent 53 = .ok (.iload 4, 2) := by decide +kernel
theorem dX0_costOfEvent_55 : decode cX0_costOfEvent 55 = .ok (.iadd, 1) := by decide +kernel
theorem dX0_costOfEvent_56 : decode cX0_costOfEvent 56 = .ok (.iload 7, 2) := by decide +kernel
theorem dX0_costOfEvent_58 : decode cX0_costOfEvent 58 = .ok (.invokevirtual 117, 3) := by decide +kernel
theorem dX0_costOfEvent_61 : decode cX0_costOfEvent 61 = .ok (.iadd, 1) := by decide +kernel
theorem dX0_costOfEvent_62 : decode cX0_costOfEvent 62 = .ok (.istore 5, 2) := by decide +kernel
theorem dX0_costOfEvent_64 : decode cX0_costOfEvent 64 = .ok (.iload 6, 2) := by decide +kernel
theorem dX0_costOfEvent_66 : decode cX0_costOfEvent 66 = .ok (.ifCond .ne 6, 3) := by decide +kernel
theorem dX0_costOfEvent_69 : decode cX0_costOfEvent 69 = .ok (.goto 68, 3) := by decide +kernel
theorem dX0_costOfEvent_72 : decode cX0_costOfEvent 72 = .ok (.aload_n 2, 1) := by decide +kernel
theorem dX0_costOfEvent_73 : decode cX0_costOfEvent 73 = .ok (.iload_n 3, 1) := by decide +kernel
theorem dX0_costOfEvent_74 : decode cX0_costOfEvent 74 = .ok (.iload 6, 2) := by decide +kernel
theorem dX0_costOfEvent_76 : decode cX0_costOfEvent 76 = .ok (.iadd, 1) := by decide +kernel
theorem dX0_costOfEvent_77 : decode cX0_costOfEvent 77 = .ok (.iconst 1, 1) := by decide +kernel
theorem dX0_costOfEvent_78 : decode cX0_costOfEvent 78 = .ok (.isub, 1) := by decide +kernel
theorem dX0_costOfEvent_79 : decode cX0_costOfEvent 79 = .ok (.invokevirtual 78, 3) := by decide +kernel
theorem dX0_costOfEvent_82 : decode cX0_costOfEvent 82 = .ok (.istore 8, 2) := by decide +kernel
theorem dX0_costOfEvent_84 : decode cX0_costOfEvent 84 = .ok (.aload_n 0, 1) := by decide +kernel
theorem dX0_costOfEvent_85 : decode cX0_costOfEvent 85 = .ok (.aload_n 0, 1) := by decide +kernel
theorem dX0_costOfEvent_86 : decode cX0_costOfEvent 86 = .ok (.iload_n 1, 1) := by decide +kernel
theorem dX0_costOfEvent_87 : decode cX0_costOfEvent 87 = .ok (.iload 6, 2) := by decide +kernel
theorem dX0_costOfEvent_89 : decode cX0_costOfEvent 89 = .ok (.invokevirtual 92, 3) := by decide +kernel
theorem dX0_costOfEvent_92 : decode cX0_costOfEvent 92 = .ok (.aload_n 0, 1) := by decide +kernel
theorem dX0_costOfEvent_93 : decode cX0_costOfEvent 93 = .ok (.iload_n 1, 1) := by decide +kernel
theorem dX0_costOfEvent_94 : decode cX0_costOfEvent 94 = .ok (.iload 6, 2) := by decide +kernel
theorem dX0_costOfEvent_96 : decode cX0_costOfEvent 96 = .ok (.iconst 1, 1) := by decide +kernel
theorem dX0_costOfEvent_97 : decode cX0_costOfEvent 97 = .ok (.isub, 1) := by decide +kernel
theorem dX0_costOfEvent_98 : decode cX0_costOfEvent 98 = .ok (.invokevirtual 92, 3) := by decide +kernel
theorem dX0_costOfEvent_101 : decode cX0_costOfEvent 101 = .ok (.isub, 1) := by decide +kernel
theorem dX0_costOfEvent_102 : decode cX0_costOfEvent 102 = .ok (.iload 8, 2) := by decide +kernel
theorem dX0_costOfEvent_104 : decode cX0_costOfEvent 104 = .ok (.iload 7, 2) := by decide +kernel
theorem dX0_costOfEvent_106 : decode cX0_costOfEvent 106 = .ok (.invokevirtual 120, 3) := by decide +kernel
theorem dX0_costOfEvent_109 : decode cX0_costOfEvent 109 = .ok (.istore 9, 2) := by decide +kernel
theorem dX0_costOfEvent_111 : decode cX0_costOfEvent 111 = .ok (.aload_n 0, 1) := by decide +kernel
theorem dX0_costOfEvent_112 : decode cX0_costOfEvent 112 = .ok (.iload 8, 2) := by decide +kernel
theorem dX0_costOfEvent_114 : decode cX0_costOfEvent 114 = .ok (.iload 7, 2) := by decide +kernel
theorem dX0_costOfEvent_116 : decode cX0_costOfEvent 116 = .ok (.invokevirtual 124, 3) := by decide +kernel
theorem dX0_costOfEvent_119 : decode cX0_costOfEvent 119 = .ok (.ifCond .eq 9, 3) := by decide +kernel
theorem dX0_costOfEvent_122 : decode cX0_costOfEvent 122 = .ok (.iload 9, 2) := by decide +kernel
theorem dX0_costOfEvent_124 : decode cX0_costOfEvent 124 = .ok (.iconst (-1), 1) := by decide +kernel
theorem dX0_costOfEvent_125 : decode cX0_costOfEvent 125 = .ok (.if_icmp .ne 5, 3) := by decide +kernel
theorem dX0_costOfEvent_128 : decode cX0_costOfEvent 128 = .ok (.iconst (-1), 1) := by decide +kernel
theorem dX0_costOfEvent_129 : decode cX0_costOfEvent 129 = .ok (.ireturn, 1) := by decide +kernel
theorem dX0_costOfEvent_130 : decode cX0_costOfEvent 130 = .ok (.iload 5, 2) := by decide +kernel
theorem dX0_costOfEvent_132 : decode cX0_costOfEvent 132 = .ok (.iload 9, 2) := by decide +kernel
theorem dX0_costOfEvent_134 : decode cX0_costOfEvent 134 = .ok (.iadd, 1) := by decide +kernel
theorem dX0_costOfEvent_135 : decode cX0_costOfEvent 135 = .ok (.istore 5, 2) := by decide +kernel
theorem dX0_costOfEvent_137 : decode cX0_costOfEvent 137 = .ok (.iinc 6 1, 3) := by decide +kernel
theorem dX0_costOfEvent_140 : decode cX0_costOfEvent 140 = .ok (.goto (-134), 3) := by decide +kernel
theorem dX0_costOfEvent_143 : decode cX0_costOfEvent 143 = .ok (.iload 5, 2) := by decide +kernel
theorem dX0_costOfEvent_145 : decode cX0_costOfEvent 145 = .ok (.ireturn, 1) := by decide +kernel
theorem dX0_costOfNote_0 : decode cX0_costOfNote 0 = .ok (.iload_n 2, 1) := by decide +kernel
theorem dX0_costOfNote_1 : decode cX0_costOfNote 1 = .ok (.iconst 4, 1) := by decide +kernel
theorem dX0_costOfNote_2 : decode cX0_costOfNote 2 = .ok (.if_icmp .ne 15, 3) := by decide +kernel
theorem dX0_costOfNote_5 : decode cX0_costOfNote 5 = .ok (.aload_n 0, 1) := by decide +kernel
theorem dX0_costOfNote_6 : decode cX0_costOfNote 6 = .ok (.getfield 29, 3) := by decide +kernel
theorem dX0_costOfNote_9 : decode cX0_costOfNote 9 = .ok (.bipush 6, 2) := by decide +kernel
theorem dX0_costOfNote_11 : decode cX0_costOfNote 11 = .ok (.invokevirtual 78, 3) := by decide +kernel
theorem dX0_costOfNote_14 : decode cX0_costOfNote 14 = .ok (.goto 4, 3) := by decide +kernel
theorem dX0_costOfNote_17 : decode cX0_costOfNote 17 = .ok (.iconst 0, 1) := by decide +kernel
theorem dX0_costOfNote_18 : decode cX0_costOfNote 18 = .ok (.istore_n 3, 1) := by decide +kernel
theorem dX0_costOfNote_19 : decode cX0_costOfNote 19 = .ok (.iload_n 2, 1) := by decide +kernel
theorem dX0_costOfNote_20 : decode cX0_costOfNote 20 = .ok (.iconst 1, 1) := by decide +kernel
theorem dX0_costOfNote_21 : decode cX0_costOfNote 21 = .ok (.if_icmp .eq 8, 3) := by decide +kernel
theorem dX0_costOfNote_24 : decode cX0_costOfNote 24 = .ok (.iload_n 2, 1) := by decide +kernel
theorem dX0_costOfNote_25 : decode cX0_costOfNote 25 = .ok (.iconst 5, 1) := by decide +kernel
theorem dX0_costOfNote_26 : decode cX0_costOfNote 26 = .ok (.if_icmp .ne 21, 3) := by decide +kernel
theorem dX0_costOfNote_29 : decode cX0_costOfNote 29 = .ok (.iload_n 1, 1) := by decide +kernel
theorem dX0_costOfNote_30 : decode cX0_costOfNote 30 = .ok (.invokestatic 103, 3) := by decide +kernel
theorem dX0_costOfNote_33 : decode cX0_costOfNote 33 = .ok (.ifCond .eq 14, 3) := by decide +kernel
theorem dX0_costOfNote_36 : decode cX0_costOfNote 36 = .ok (.iload_n 3, 1) := by decide +kernel
theorem dX0_costOfNote_37 : decode cX0_costOfNote 37 = .ok (.aload_n 0, 1) := by decide +kernel
theorem dX0_costOfNote_38 : decode cX0_costOfNote 38 = .ok (.getfield 29, 3) := by decide +kernel
theorem dX0_costOfNote_41 : decode cX0_costOfNote 41 = .ok (.iconst 5, 1) := by decide +kernel
theorem dX0_costOfNote_42 : decode cX0_costOfNote 42 = .ok (.invokevirtual 78, 3) := by decide +kernel
theorem dX0_costOfNote_45 : decode cX0_costOfNote 45 = .ok (.iadd, 1) := by decide +kernel
theorem dX0_costOfNote_46 : decode cX0_costOfNote 46 = .ok (.istore_n 3, 1) := by decide +kernel
theorem dX0_costOfNote_47 : decode cX0_costOfNote 47 = .ok (.iload_n 3, 1) := by decide +kernel
theorem dX0_costOfNote_48 : decode cX0_costOfNote 48 = .ok (.ireturn, 1) := by decide +kernel
theorem dX0_costOfStretch_0 : decode cX0_costOfStretch 0 = .ok (.iload_n 2, 1) := by decide +kernel
theorem dX0_costOfStretch_1 : decode cX0_costOfStretch 1 = .ok (.iload_n 3, 1) := by decide +kernel
theorem dX0_costOfStretch_2 : decode cX0_costOfStretch 2 = .ok (.invokestatic 71, 3) := by decide +kernel
theorem dX0_costOfStretch_5 : decode cX0_costOfStretch 5 = .ok (.istore 4, 2) := by decide +kernel
theorem dX0_costOfStretch_7 : decode cX0_costOfStretch 7 = .ok (.iload_n 1, 1) := by decide +kernel
theorem dX0_costOfStretch_8 : decode cX0_costOfStretch 8 = .ok (.aload_n 0, 1) := by decide +kernel
theorem dX0_costOfStretch_9 : decode cX0_costOfStretch 9 = .ok (.getfield 38, 3) := by decide +kernel
theorem dX0_costOfStretch_12 : decode cX0_costOfStretch 12 = .ok (.iload 4, 2) := by decide +kernel
theorem dX0_costOfStretch_14 : decode cX0_costOfStretch 14 = .ok (.invokevirtual 78, 3) := by decide +kernel
theorem dX0_costOfStretch_17 : decode cX0_costOfStretch 17 = .ok (.if_icmp .le 5, 3) := by decide +kernel
theorem dX0_costOfStretch_20 : decode cX0_costOfStretch 20 = .ok (.iconst (-1), 1) := by decide +kernel
theorem dX0_costOfStretch_21 : decode cX0_costOfStretch 21 = .ok (.ireturn, 1) := by decide +kernel
theorem dX0_costOfStretch_22 : decode cX0_costOfStretch 22 = .ok (.aload_n 0, 1) := by decide +kernel
theorem dX0_costOfStretch_23 : decode cX0_costOfStretch 23 = .ok (.getfield 32, 3) := by decide +kernel
theorem dX0_costOfStretch_26 : decode cX0_costOfStretch 26 = .ok (.iload 4, 2) := by decide +kernel
theorem dX0_costOfStretch_28 : decode cX0_costOfStretch 28 = .ok (.invokevirtual 78, 3) := by decide +kernel
theorem dX0_costOfStretch_31 : decode cX0_costOfStretch 31 = .ok (.iload_n 1, 1) := by decide +kernel
theorem dX0_costOfStretch_32 : decode cX0_costOfStretch 32 = .ok (.isub, 1) := by decide +kernel
theorem dX0_costOfStretch_33 : decode cX0_costOfStretch 33 = .ok (.istore 5, 2) := by decide +kernel
theorem dX0_costOfStretch_35 : decode cX0_costOfStretch 35 = .ok (.iload_n 1, 1) := by decide +kernel
theorem dX0_costOfStretch_36 : decode cX0_costOfStretch 36 = .ok (.aload_n 0, 1) := by decide +kernel
theorem dX0_costOfStretch_37 : decode cX0_costOfStretch 37 = .ok (.getfield 35, 3) := by decide +kernel
theorem dX0_costOfStretch_40 : decode cX0_costOfStretch 40 = .ok (.iload 4, 2) := by decide +kernel
theorem dX0_costOfStretch_42 : decode cX0_costOfStretch 42 = .ok (.invokevirtual 78, 3) := by decide +kernel
theorem dX0_costOfStretch_45 : decode cX0_costOfStretch 45 = .ok (.isub, 1) := by decide +kernel
theorem dX0_costOfStretch_46 : decode cX0_costOfStretch 46 = .ok (.istore 6, 2) := by decide +kernel
theorem dX0_costOfStretch_48 : decode cX0_costOfStretch 48 = .ok (.aload_n 0, 1) := by decide +kernel
theorem dX0_costOfStretch_49 : decode cX0_costOfStretch 49 = .ok (.getfield 29, 3) := by decide +kernel
theorem dX0_costOfStretch_52 : decode cX0_costOfStretch 52 = .ok (.iconst 0, 1) := by decide +kernel
theorem dX0_costOfStretch_53 : decode cX0_costOfStretch 53 = .ok (.invokevirtual 78, 3) := by decide +kernel
theorem dX0_costOfStretch_56 : decode cX0_costOfStretch 56 = .ok (.iconst 0, 1) := by decide +kernel
theorem dX0_costOfStretch_57 : decode cX0_costOfStretch 57 = .ok (.iload 5, 2) := by decide +kernel
theorem dX0_costOfStretch_59 : decode cX0_costOfStretch 59 = .ok (.iload 6, 2) := by decide +kernel
theorem dX0_costOfStretch_61 : decode cX0_costOfStretch 61 = .ok (.invokestatic 98, 3) := by decide +kernel
theorem dX0_costOfStretch_64 : decode cX0_costOfStretch 64 = .ok (.invokestatic 98, 3) := by decide +kernel
theorem dX0_costOfStretch_67 : decode cX0_costOfStretch 67 = .ok (.imul, 1) := by decide +kernel
theorem dX0_costOfStretch_68 : decode cX0_costOfStretch 68 = .ok (.ireturn, 1) := by decide +kernel
theorem dX0_costOfPassage_0 : decode cX0_costOfPassage 0 = .ok (.aload_n 0, 1) := by decide +kernel
theorem dX0_costOfPassage_1 : decode cX0_costOfPassage 1 = .ok (.iload_n 2, 1) := by decide +kernel
theorem dX0_costOfPassage_2 : decode cX0_costOfPassage 2 = .ok (.invokevirtual 107, 3) := by decide +kernel
theorem dX0_costOfPassage_5 : decode cX0_costOfPassage 5 = .ok (.ifCond .eq 5, 3) := by decide +kernel
theorem dX0_costOfPassage_8 : decode cX0_costOfPassage 8 = .ok (.iconst 0, 1) := by decide +kernel
theorem dX0_costOfPassage_9 : decode cX0_costOfPassage 9 = .ok (.ireturn, 1) := by decide +kernel
theorem dX0_costOfPassage_10 : decode cX0_costOfPassage 10 = .ok (.iconst 0, 1) := by decide +kernel
theorem dX0_costOfPassage_11 : decode cX0_costOfPassage 11 = .ok (.istore 6, 2) := by decide +kernel
theorem dX0_costOfPassage_13 : decode cX0_costOfPassage 13 = .ok (.iconst 0, 1) := by decide +kernel
theorem dX0_costOfPassage_14 : decode cX0_costOfPassage 14 = .ok (.istore 7, 2) := by decide +kernel
theorem dX0_costOfPassage_16 : decode cX0_costOfPassage 16 = .ok (.iload 7, 2) := by decide +kernel
theorem dX0_costOfPassage_18 : decode cX0_costOfPassage 18 = .ok (.aload_n 0, 1) := by decide +kernel
theorem dX0_costOfPassage_19 : decode cX0_costOfPassage 19 = .ok (.iload_n 1, 1) := by decide +kernel
theorem dX0_costOfPassage_20 : decode cX0_costOfPassage 20 = .ok (.invokevirtual 128, 3) := by decide +kernel
theorem dX0_costOfPassage_23 : decode cX0_costOfPassage 23 = .ok (.if_icmp .ge 84, 3) := by decide +kernel
theorem dX0_costOfPassage_26 : decode cX0_costOfPassage 26 = .ok (.aload_n 0, 1) := by decide +kernel
theorem dX0_costOfPassage_27 : decode cX0_costOfPassage 27 = .ok (.iload_n 1, 1) := by decide +kernel
theorem dX0_costOfPassage_28 : decode cX0_costOfPassage 28 = .ok (.iload 7, 2) := by decide +kernel
theorem dX0_costOfPassage_30 : decode cX0_costOfPassage 30 = .ok (.invokevirtual 131, 3) := by decide +kernel
theorem dX0_costOfPassage_33 : decode cX0_costOfPassage 33 = .ok (.istore 8, 2) := by decide +kernel
theorem dX0_costOfPassage_35 : decode cX0_costOfPassage 35 = .ok (.aload_n 0, 1) := by decide +kernel
theorem dX0_costOfPassage_36 : decode cX0_costOfPassage 36 = .ok (.iload_n 1, 1) := by decide +kernel
theorem dX0_costOfPassage_37 : decode cX0_costOfPassage 37 = .ok (.iconst 1, 1) := by decide +kernel
theorem dX0_costOfPassage_38 : decode cX0_costOfPassage 38 = .ok (.iadd, 1) := by decide +kernel
theorem dX0_costOfPassage_39 : decode cX0_costOfPassage 39 = .ok (.iload 7, 2) := by decide +kernel
theorem dX0_costOfPassage_41 : decode cX0_costOfPassage 41 = .ok (.invokevirtual 131, 3) := by decide +kernel
theorem dX0_costOfPassage_44 : decode cX0_costOfPassage 44 = .ok (.istore 9, 2) := by decide +kernel
theorem dX0_costOfPassage_46 : decode cX0_costOfPassage 46 = .ok (.aload_n 0, 1) := by decide +kernel
theorem dX0_costOfPassage_47 : decode cX0_costOfPassage 47 = .ok (.aload_n 3, 1) := by decide +kernel
theorem dX0_costOfPassage_48 : decode cX0_costOfPassage 48 = .ok (.iload 4, 2) := by decide +kernel
theorem dX0_costOfPassage_50 : decode cX0_costOfPassage 50 = .ok (.iload 8, 2) := by decide +kernel
theorem dX0_costOfPassage_52 : decode cX0_costOfPassage 52 = .ok (.iadd, 1) := by decide +kernel
theorem dX0_costOfPassage_53 : decode cX0_costOfPassage 53 = .ok (.invokevirtual 78, 3) := by decide +kernel
theorem dX0_costOfPassage_56 : decode cX0_costOfPassage 56 = .ok (.aload_n 0, 1) := by decide +kernel
theorem dX0_costOfPassage_57 : decode cX0_costOfPassage 57 = .ok (.iload_n 1, 1) := by decide +kernel
theorem dX0_costOfPassage_58 : decode cX0_costOfPassage 58 = .ok (.iload 8, 2) := by decide +kernel
theorem dX0_costOfPassage_60 : decode cX0_costOfPassage 60 = .ok (.invokevirtual 92, 3) := by decide +kernel
theorem dX0_costOfPassage_63 : decode cX0_costOfPassage 63 = .ok (.aload_n 3, 1) := by decide +kernel
theorem dX0_costOfPassage_64 : decode cX0_costOfPassage 64 = .ok (.iload 5, 2) := by decide +kernel
theorem dX0_costOfPassage_66 : decode cX0_costOfPassage 66 = .ok (.iload 9, 2) := by decide +kernel
theorem dX0_costOfPassage_68 : decode cX0_costOfPassage 68 = .ok (.iadd, 1) := by decide +kernel
theorem dX0_costOfPassage_69 : decode cX0_costOfPassage 69 = .ok (.invokevirtual 78, 3) := by decide +kernel
theorem dX0_costOfPassage_72 : decode cX0_costOfPassage 72 = .ok (.aload_n 0, 1) := by decide +kernel
theorem dX0_costOfPassage_73 : decode cX0_costOfPassage 73 = .ok (.iload_n 1, 1) := by decide +kernel
theorem dX0_costOfPassage_74 : decode cX0_costOfPassage 74 = .ok (.iconst 1, 1) := by decide +kernel
theorem dX0_costOfPassage_75 : decode cX0_costOfPassage 75 = .ok (.iadd, 1) := by decide +kernel
theorem dX0_costOfPassage_76 : decode cX0_costOfPassage 76 = .ok (.iload 9, 2) := by decide +kernel
theorem dX0_costOfPassage_78 : decode cX0_costOfPassage 78 = .ok (.invokevirtual 92, 3) := by decide +kernel
theorem dX0_costOfPassage_81 : decode cX0_costOfPassage 81 = .ok (.invokevirtual 134, 3) := by decide +kernel
theorem dX0_costOfPassage_84 : decode cX0_costOfPassage 84 = .ok (.istore 10, 2) := by decide +kernel
theorem dX0_costOfPassage_86 : decode cX0_costOfPassage 86 = .ok (.iload 10, 2) := by decide +kernel
theorem dX0_costOfPassage_88 : decode cX0_costOfPassage 88 = .ok (.iconst (-1), 1) := by decide +kernel
theorem dX0_costOfPassage_89 : decode cX0_costOfPassage 89 = .ok (.if_icmp .ne 5, 3) := by decide +kernel
theorem dX0_costOfPassage_92 : decode cX0_costOfPassage 92 = .ok (.iconst (-1), 1) := by decide +kernel
theorem dX0_costOfPassage_93 : decode cX0_costOfPassage 93 = .ok (.ireturn, 1) := by decide +kernel
theorem dX0_costOfPassage_94 : decode cX0_costOfPassage 94 = .ok (.iload 6, 2) := by decide +kernel
theorem dX0_costOfPassage_96 : decode cX0_costOfPassage 96 = .ok (.iload 10, 2) := by decide +kernel
theorem dX0_costOfPassage_98 : decode cX0_costOfPassage 98 = .ok (.iadd, 1) := by decide +kernel
theorem dX0_costOfPassage_99 : decode cX0_costOfPassage 99 = .ok (.istore 6, 2) := by decide +kernel
theorem dX0_costOfPassage_101 : decode cX0_costOfPassage 101 = .ok (.iinc 7 1, 3) := by decide +kernel
theorem dX0_costOfPassage_104 : decode cX0_costOfPassage 104 = .ok (.goto (-88), 3) := by decide +kernel
theorem dX0_costOfPassage_107 : decode cX0_costOfPassage 107 = .ok (.iconst 0, 1) := by decide +kernel
theorem dX0_costOfPassage_108 : decode cX0_costOfPassage 108 = .ok (.iload 6, 2) := by decide +kernel
theorem dX0_costOfPassage_110 : decode cX0_costOfPassage 110 = .ok (.aload_n 0, 1) := by decide +kernel
theorem dX0_costOfPassage_111 : decode cX0_costOfPassage 111 = .ok (.getfield 29, 3) := by decide +kernel
theorem dX0_costOfPassage_114 : decode cX0_costOfPassage 114 = .ok (.bipush 7, 2) := by decide +kernel
theorem dX0_costOfPassage_116 : decode cX0_costOfPassage 116 = .ok (.invokevirtual 78, 3) := by decide +kernel
theorem dX0_costOfPassage_119 : decode cX0_costOfPassage 119 = .ok (.iload_n 2, 1) := by decide +kernel
theorem dX0_costOfPassage_120 : decode cX0_costOfPassage 120 = .ok (.imul, 1) := by decide +kernel
theorem dX0_costOfPassage_121 : decode cX0_costOfPassage 121 = .ok (.isub, 1) := by decide +kernel
theorem dX0_costOfPassage_122 : decode cX0_costOfPassage 122 = .ok (.invokestatic 98, 3) := by decide +kernel
theorem dX0_costOfPassage_125 : decode cX0_costOfPassage 125 = .ok (.ireturn, 1) := by decide +kernel
theorem dX0_crossings_0 : decode cX0_crossings 0 = .ok (.aload_n 0, 1) := by decide +kernel
theorem dX0_crossings_1 : decode cX0_crossings 1 = .ok (.aload_n 0, 1) := by decide +kernel
theorem dX0_crossings_2 : decode cX0_crossings 2 = .ok (.getfield 20, 3) := by decide +kernel
theorem dX0_crossings_5 : decode cX0_crossings 5 = .ok (.iload_n 1, 1) := by decide +kernel
theorem dX0_crossings_6 : decode cX0_crossings 6 = .ok (.invokevirtual 78, 3) := by decide +kernel
theorem dX0_crossings_9 : decode cX0_crossings 9 = .ok (.invokevirtual 107, 3) := by decide +kernel
theorem dX0_crossings_12 : decode cX0_crossings 12 = .ok (.ifCond .eq 5, 3) := by decide +kernel
theorem dX0_crossings_15 : decode cX0_crossings 15 = .ok (.iconst 0, 1) := by decide +kernel
theorem dX0_crossings_16 : decode cX0_crossings 16 = .ok (.ireturn, 1) := by decide +kernel
theorem dX0_crossings_17 : decode cX0_crossings 17 = .ok (.iconst 0, 1) := by decide +kernel
theorem dX0_crossings_18 : decode cX0_crossings 18 = .ok (.istore 5, 2) := by decide +kernel
theorem dX0_crossings_20 : decode cX0_crossings 20 = .ok (.iconst 0, 1) := by decide +kernel
theorem dX0_crossings_21 : decode cX0_crossings 21 = .ok (.istore 6, 2) := by decide +kernel
theorem dX0_crossings_23 : decode cX0_crossings 23 = .ok (.iload 6, 2) := by decide +kernel
theorem dX0_crossings_25 : decode cX0_crossings 25 = .ok (.aload_n 0, 1) := by decide +kernel
theorem dX0_crossings_26 : decode cX0_crossings 26 = .ok (.iload_n 1, 1) := by decide +kernel
theorem dX0_crossings_27 : decode cX0_crossings 27 = .ok (.invokevirtual 128, 3) := by decide +kernel
theorem dX0_crossings_30 : decode cX0_crossings 30 = .ok (.if_icmp .ge 84, 3) := by decide +kernel
theorem dX0_crossings_33 : decode cX0_crossings 33 = .ok (.aload_n 0, 1) := by decide +kernel
theorem dX0_crossings_34 : decode cX0_crossings 34 = .ok (.iload_n 1, 1) := by decide +kernel
theorem dX0_crossings_35 : decode cX0_crossings 35 = .ok (.iload 6, 2) := by decide +kernel
theorem dX0_crossings_37 : decode cX0_crossings 37 = .ok (.invokevirtual 131, 3) := by decide +kernel
theorem dX0_crossings_40 : decode cX0_crossings 40 = .ok (.istore 7, 2) := by decide +kernel
theorem dX0_crossings_42 : decode cX0_crossings 42 = .ok (.aload_n 0, 1) := by decide +kernel
theorem dX0_crossings_43 : decode cX0_crossings 43 = .ok (.iload_n 1, 1) := by decide +kernel
theorem dX0_crossings_44 : decode cX0_crossings 44 = .ok (.iconst 1, 1) := by decide +kernel
theorem dX0_crossings_45 : decode cX0_crossings 45 = .ok (.iadd, 1) := by decide +kernel
theorem dX0_crossings_46 : decode cX0_crossings 46 = .ok (.iload 6, 2) := by decide +kernel
theorem dX0_crossings_48 : decode cX0_crossings 48 = .ok (.invokevirtual 131, 3) := by decide +kernel
theorem dX0_crossings_51 : decode cX0_crossings 51 = .ok (.istore 8, 2) := by decide +kernel
theorem dX0_crossings_53 : decode cX0_crossings 53 = .ok (.aload_n 0, 1) := by decide +kernel
theorem dX0_crossings_54 : decode cX0_crossings 54 = .ok (.aload_n 2, 1) := by decide +kernel
theorem dX0_crossings_55 : decode cX0_crossings 55 = .ok (.iload_n 3, 1) := by decide +kernel
theorem dX0_crossings_56 : decode cX0_crossings 56 = .ok (.iload 7, 2) := by decide +kernel
theorem dX0_crossings_58 : decode cX0_crossings 58 = .ok (.iadd, 1) := by decide +kernel
theorem dX0_crossings_59 : decode cX0_crossings 59 = .ok (.invokevirtual 78, 3) := by decide +kernel
theorem dX0_crossings_62 : decode cX0_crossings 62 = .ok (.aload_n 0, 1) := by decide +kernel
theorem dX0_crossings_63 : decode cX0_crossings 63 = .ok (.iload_n 1, 1) := by decide +kernel
theorem dX0_crossings_64 : decode cX0_crossings 64 = .ok (.iload 7, 2) := by decide +kernel
theorem dX0_crossings_66 : decode cX0_crossings 66 = .ok (.invokevirtual 92, 3) := by decide +kernel
theorem dX0_crossings_69 : decode cX0_crossings 69 = .ok (.aload_n 2, 1) := by decide +kernel
theorem dX0_crossings_70 : decode cX0_crossings 70 = .ok (.iload 4, 2) := by decide +kernel
theorem dX0_crossings_72 : decode cX0_crossings 72 = .ok (.iload 8, 2) := by decide +kernel
theorem dX0_crossings_74 : decode cX0_crossings 74 = .ok (.iadd, 1) := by decide +kernel
theorem dX0_crossings_75 : decode cX0_crossings 75 = .ok (.invokevirtual 78, 3) := by decide +kernel
theorem dX0_crossings_78 : decode cX0_crossings 78 = .ok (.aload_n 0, 1) := by decide +kernel
theorem dX0_crossings_79 : decode cX0_crossings 79 = .ok (.iload_n 1, 1) := by decide +kernel
theorem dX0_crossings_80 : decode cX0_crossings 80 = .ok (.iconst 1, 1) := by decide +kernel
theorem dX0_crossings_81 : decode cX0_crossings 81 = .ok (.iadd, 1) := by decide +kernel
theorem dX0_crossings_82 : decode cX0_crossings 82 = .ok (.iload 8, 2) := by decide +kernel
theorem dX0_crossings_84 : decode cX0_crossings 84 = .ok (.invokevirtual 92, 3) := by decide +kernel
theorem dX0_crossings_87 : decode cX0_crossings 87 = .ok (.invokevirtual 138, 3) := by decide +kernel
theorem dX0_crossings_90 : decode cX0_crossings 90 = .ok (.istore 9, 2) := by decide +kernel
theorem dX0_crossings_92 : decode cX0_crossings 92 = .ok (.iload 5, 2) := by decide +kernel
theorem dX0_crossings_94 : decode cX0_crossings 94 = .ok (.iload 9, 2) := by decide +kernel
theorem dX0_crossings_96 : decode cX0_crossings 96 = .ok (.iconst 3, 1) := by decide +kernel
theorem dX0_crossings_97 : decode cX0_crossings 97 = .ok (.if_icmp .ne 7, 3) := by decide +kernel
theorem dX0_crossings_100 : decode cX0_crossings 100 = .ok (.iconst 1, 1) := by decide +kernel
theorem dX0_crossings_101 : decode cX0_crossings 101 = .ok (.goto 4, 3) := by decide +kernel
theorem dX0_crossings_104 : decode cX0_crossings 104 = .ok (.iconst 0, 1) := by decide +kernel
theorem dX0_crossings_105 : decode cX0_crossings 105 = .ok (.iadd, 1) := by decide +kernel
theorem dX0_crossings_106 : decode cX0_crossings 106 = .ok (.istore 5, 2) := by decide +kernel
theorem dX0_crossings_108 : decode cX0_crossings 108 = .ok (.iinc 6 1, 3) := by decide +kernel
theorem dX0_crossings_111 : decode cX0_crossings 111 = .ok (.goto (-88), 3) := by decide +kernel
theorem dX0_crossings_114 : decode cX0_crossings 114 = .ok (.iload 5, 2) := by decide +kernel
theorem dX0_crossings_116 : decode cX0_crossings 116 = .ok (.ireturn, 1) := by decide +kernel
theorem dX0_endsOf_0 : decode cX0_endsOf 0 = .ok (.aload_n 0, 1) := by decide +kernel
theorem dX0_endsOf_1 : decode cX0_endsOf 1 = .ok (.getfield 14, 3) := by decide +kernel
theorem dX0_endsOf_4 : decode cX0_endsOf 4 = .ok (.iload_n 1, 1) := by decide +kernel
theorem dX0_endsOf_5 : decode cX0_endsOf 5 = .ok (.invokevirtual 78, 3) := by decide +kernel
theorem dX0_endsOf_8 : decode cX0_endsOf 8 = .ok (.iconst 1, 1) := by decide +kernel
theorem dX0_endsOf_9 : decode cX0_endsOf 9 = .ok (.if_icmp .gt 17, 3) := by decide +kernel
theorem dX0_endsOf_12 : decode cX0_endsOf 12 = .ok (.aload_n 0, 1) := by decide +kernel
theorem dX0_endsOf_13 : decode cX0_endsOf 13 = .ok (.getfield 14, 3) := by decide +kernel
theorem dX0_endsOf_16 : decode cX0_endsOf 16 = .ok (.iload_n 1, 1) := by decide +kernel
theorem dX0_endsOf_17 : decode cX0_endsOf 17 = .ok (.iconst 1, 1) := by decide +kernel
theorem dX0_endsOf_18 : decode cX0_endsOf 18 = .ok (.iadd, 1) := by decide +kernel
theorem dX0_endsOf_19 : decode cX0_endsOf 19 = .ok (.invokevirtual 78, 3) := by decide +kernel
theorem dX0_endsOf_22 : decode cX0_endsOf 22 = .ok (.iconst 1, 1) := by decide +kernel
theorem dX0_endsOf_23 : decode cX0_endsOf 23 = .ok (.if_icmp .le 7, 3) := by decide +kernel
theorem dX0_endsOf_26 : decode cX0_endsOf 26 = .ok (.iconst 2, 1) := by decide +kernel
theorem dX0_endsOf_27 : decode cX0_endsOf 27 = .ok (.goto 4, 3) := by decide +kernel
theorem dX0_endsOf_30 : decode cX0_endsOf 30 = .ok (.iconst 1, 1) := by decide +kernel
theorem dX0_endsOf_31 : decode cX0_endsOf 31 = .ok (.ireturn, 1) := by decide +kernel
theorem dX0_noteAtEnd_0 : decode cX0_noteAtEnd 0 = .ok (.iload_n 2, 1) := by decide +kernel
theorem dX0_noteAtEnd_1 : decode cX0_noteAtEnd 1 = .ok (.ifCond .ne 7, 3) := by decide +kernel
theorem dX0_noteAtEnd_4 : decode cX0_noteAtEnd 4 = .ok (.iconst 1, 1) := by decide +kernel
theorem dX0_noteAtEnd_5 : decode cX0_noteAtEnd 5 = .ok (.goto 4, 3) := by decide +kernel
theorem dX0_noteAtEnd_8 : decode cX0_noteAtEnd 8 = .ok (.iconst 0, 1) := by decide +kernel
theorem dX0_noteAtEnd_9 : decode cX0_noteAtEnd 9 = .ok (.aload_n 0, 1) := by decide +kernel
theorem dX0_noteAtEnd_10 : decode cX0_noteAtEnd 10 = .ok (.getfield 44, 3) := by decide +kernel
theorem dX0_noteAtEnd_13 : decode cX0_noteAtEnd 13 = .ok (.if_icmp .ne 7, 3) := by decide +kernel
theorem dX0_noteAtEnd_16 : decode cX0_noteAtEnd 16 = .ok (.iconst 0, 1) := by decide +kernel
theorem dX0_noteAtEnd_17 : decode cX0_noteAtEnd 17 = .ok (.goto 13, 3) := by decide +kernel
theorem dX0_noteAtEnd_20 : decode cX0_noteAtEnd 20 = .ok (.aload_n 0, 1) := by decide +kernel
theorem dX0_noteAtEnd_21 : decode cX0_noteAtEnd 21 = .ok (.getfield 14, 3) := by decide +kernel
theorem dX0_noteAtEnd_24 : decode cX0_noteAtEnd 24 = .ok (.iload_n 1, 1) := by decide +kernel
theorem dX0_noteAtEnd_25 : decode cX0_noteAtEnd 25 = .ok (.invokevirtual 78, 3) := by decide +kernel
theorem dX0_noteAtEnd_28 : decode cX0_noteAtEnd 28 = .ok (.iconst 1, 1) := by decide +kernel
theorem dX0_noteAtEnd_29 : decode cX0_noteAtEnd 29 = .ok (.isub, 1) := by decide +kernel
theorem dX0_noteAtEnd_30 : decode cX0_noteAtEnd 30 = .ok (.ireturn, 1) := by decide +kernel
theorem dX0_costOfLink_0 : decode cX0_costOfLink 0 = .ok (.iload 4, 2) := by decide +kernel
theorem dX0_costOfLink_2 : decode cX0_costOfLink 2 = .ok (.iload_n 2, 1) := by decide +kernel
theorem dX0_costOfLink_3 : decode cX0_costOfLink 3 = .ok (.isub, 1) := by decide +kernel
theorem dX0_costOfLink_4 : decode cX0_costOfLink 4 = .ok (.invokestatic 141, 3) := by decide +kernel
theorem dX0_costOfLink_7 : decode cX0_costOfLink 7 = .ok (.istore 5, 2) := by decide +kernel
theorem dX0_costOfLink_9 : decode cX0_costOfLink 9 = .ok (.aload_n 0, 1) := by decide +kernel
theorem dX0_costOfLink_10 : decode cX0_costOfLink 10 = .ok (.iload_n 1, 1) := by decide +kernel
theorem dX0_costOfLink_11 : decode cX0_costOfLink 11 = .ok (.iload_n 2, 1) := by decide +kernel
theorem dX0_costOfLink_12 : decode cX0_costOfLink 12 = .ok (.iload_n 3, 1) := by decide +kernel
theorem dX0_costOfLink_13 : decode cX0_costOfLink 13 = .ok (.iload 4, 2) := by decide +kernel
theorem dX0_costOfLink_15 : decode cX0_costOfLink 15 = .ok (.invokevirtual 138, 3) := by decide +kernel
theorem dX0_costOfLink_18 : decode cX0_costOfLink 18 = .ok (.tableswitch 78 0 3 #[30, 48, 60, 69], 30) := by decide +kernel
theorem dX0_costOfLink_48 : decode cX0_costOfLink 48 = .ok (.aload_n 0, 1) := by decide +kernel
theorem dX0_costOfLink_49 : decode cX0_costOfLink 49 = .ok (.getfield 29, 3) := by decide +kernel
theorem dX0_costOfLink_52 : decode cX0_costOfLink 52 = .ok (.iload_n 1, 1) := by decide +kernel
theorem dX0_costOfLink_53 : decode cX0_costOfLink 53 = .ok (.iload_n 3, 1) := by decide +kernel
theorem dX0_costOfLink_54 : decode cX0_costOfLink 54 = .ok (.if_icmp .ne 7, 3) := by decide +kernel
theorem dX0_costOfLink_57 : decode cX0_costOfLink 57 = .ok (.iconst 2, 1) := by decide +kernel
theorem dX0_costOfLink_58 : decode cX0_costOfLink 58 = .ok (.goto 4, 3) := by decide +kernel
theorem dX0_costOfLink_61 : decode cX0_costOfLink 61 = .ok (.iconst 3, 1) := by decide +kernel
theorem dX0_costOfLink_62 : decode cX0_costOfLink 62 = .ok (.invokevirtual 78, 3) := by decide +kernel
theorem dX0_costOfLink_65 : decode cX0_costOfLink 65 = .ok (.ireturn, 1) := by decide +kernel
theorem dX0_costOfLink_66 : decode cX0_costOfLink 66 = .ok (.aload_n 0, 1) := by decide +kernel
theorem dX0_costOfLink_67 : decode cX0_costOfLink 67 = .ok (.getfield 29, 3) := by decide +kernel
theorem dX0_costOfLink_70 : decode cX0_costOfLink 70 = .ok (.iconst 4, 1) := by decide +kernel
theorem dX0_costOfLink_71 : decode cX0_costOfLink 71 = .ok (.invokevirtual 78, 3) := by decide +kernel
theorem dX0_costOfLink_74 : decode cX0_costOfLink 74 = .ok (.iload 5, 2) := by decide +kernel
theorem dX0_costOfLink_76 : decode cX0_costOfLink 76 = .ok (.imul, 1) := by decide +kernel
theorem dX0_costOfLink_77 : decode cX0_costOfLink 77 = .ok (.ireturn, 1) := by decide +kernel
theorem dX0_costOfLink_78 : decode cX0_costOfLink 78 = .ok (.aload_n 0, 1) := by decide +kernel
theorem dX0_costOfLink_79 : decode cX0_costOfLink 79 = .ok (.iload 5, 2) := by decide +kernel
theorem dX0_costOfLink_81 : decode cX0_costOfLink 81 = .ok (.iload_n 1, 1) := by decide +kernel
theorem dX0_costOfLink_82 : decode cX0_costOfLink 82 = .ok (.iload_n 3, 1) := by decide +kernel
theorem dX0_costOfLink_83 : decode cX0_costOfLink 83 = .ok (.invokevirtual 120, 3) := by decide +kernel
theorem dX0_costOfLink_86 : decode cX0_costOfLink 86 = .ok (.ireturn, 1) := by decide +kernel
theorem dX0_costOfLink_87 : decode cX0_costOfLink 87 = .ok (.aload_n 0, 1) := by decide +kernel
theorem dX0_costOfLink_88 : decode cX0_costOfLink 88 = .ok (.getfield 29, 3) := by decide +kernel
theorem dX0_costOfLink_91 : decode cX0_costOfLink 91 = .ok (.iconst 1, 1) := by decide +kernel
theorem dX0_costOfLink_92 : decode cX0_costOfLink 92 = .ok (.invokevirtual 78, 3) := by decide +kernel
theorem dX0_costOfLink_95 : decode cX0_costOfLink 95 = .ok (.ireturn, 1) := by decide +kernel
theorem dX0_costOfLink_96 : decode cX0_costOfLink 96 = .ok (.iconst (-1), 1) := by decide +kernel
theorem dX0_costOfLink_97 : decode cX0_costOfLink 97 = .ok (.ireturn, 1) := by decide +kernel
theorem dX0_kindOfLink_0 : decode cX0_kindOfLink 0 = .ok (.iload_n 2, 1) := by decide +kernel
theorem dX0_kindOfLink_1 : decode cX0_kindOfLink 1 = .ok (.iload 4, 2) := by decide +kernel
theorem dX0_kindOfLink_3 : decode cX0_kindOfLink 3 = .ok (.if_icmp .ne 5, 3) := by decide +kernel
theorem dX0_kindOfLink_6 : decode cX0_kindOfLink 6 = .ok (.iconst 0, 1) := by decide +kernel
theorem dX0_kindOfLink_7 : decode cX0_kindOfLink 7 = .ok (.ireturn, 1) := by decide +kernel
theorem dX0_kindOfLink_8 : decode cX0_kindOfLink 8 = .ok (.iload_n 1, 1) := by decide +kernel
theorem dX0_kindOfLink_9 : decode cX0_kindOfLink 9 = .ok (.iload_n 3, 1) := by decide +kernel
theorem dX0_kindOfLink_10 : decode cX0_kindOfLink 10 = .ok (.if_icmp .ne 5, 3) := by decide +kernel
theorem dX0_kindOfLink_13 : decode cX0_kindOfLink 13 = .ok (.iconst 1, 1) := by decide +kernel
theorem dX0_kindOfLink_14 : decode cX0_kindOfLink 14 = .ok (.ireturn, 1) := by decide +kernel
theorem dX0_kindOfLink_15 : decode cX0_kindOfLink 15 = .ok (.aload_n 0, 1) := by decide +kernel
theorem dX0_kindOfLink_16 : decode cX0_kindOfLink 16 = .ok (.getfield 44, 3) := by decide +kernel
theorem dX0_kindOfLink_19 : decode cX0_kindOfLink 19 = .ok (.ifCond .eq 10, 3) := by decide +kernel
theorem dX0_kindOfLink_22 : decode cX0_kindOfLink 22 = .ok (.iload 4, 2) := by decide +kernel
theorem dX0_kindOfLink_24 : decode cX0_kindOfLink 24 = .ok (.iload_n 2, 1) := by decide +kernel
theorem dX0_kindOfLink_25 : decode cX0_kindOfLink 25 = .ok (.isub, 1) := by decide +kernel
theorem dX0_kindOfLink_26 : decode cX0_kindOfLink 26 = .ok (.goto 7, 3) := by decide +kernel
theorem dX0_kindOfLink_29 : decode cX0_kindOfLink 29 = .ok (.iload_n 2, 1) := by decide +kernel
theorem dX0_kindOfLink_30 : decode cX0_kindOfLink 30 = .ok (.iload 4, 2) := by decide +kernel
theorem dX0_kindOfLink_32 : decode cX0_kindOfLink 32 = .ok (.isub, 1) := by decide +kernel
theorem dX0_kindOfLink_33 : decode cX0_kindOfLink 33 = .ok (.istore 5, 2) := by decide +kernel
theorem dX0_kindOfLink_35 : decode cX0_kindOfLink 35 = .ok (.iload 5, 2) := by decide +kernel
theorem dX0_kindOfLink_37 : decode cX0_kindOfLink 37 = .ok (.ifCond .le 7, 3) := by decide +kernel
theorem dX0_kindOfLink_40 : decode cX0_kindOfLink 40 = .ok (.iconst 1, 1) := by decide +kernel
theorem dX0_kindOfLink_41 : decode cX0_kindOfLink 41 = .ok (.goto 4, 3) := by decide +kernel
theorem dX0_kindOfLink_44 : decode cX0_kindOfLink 44 = .ok (.iconst 0, 1) := by decide +kernel
theorem dX0_kindOfLink_45 : decode cX0_kindOfLink 45 = .ok (.iload_n 3, 1) := by decide +kernel
theorem dX0_kindOfLink_46 : decode cX0_kindOfLink 46 = .ok (.iload_n 1, 1) := by decide +kernel
theorem dX0_kindOfLink_47 : decode cX0_kindOfLink 47 = .ok (.if_icmp .le 7, 3) := by decide +kernel
theorem dX0_kindOfLink_50 : decode cX0_kindOfLink 50 = .ok (.iconst 1, 1) := by decide +kernel
theorem dX0_kindOfLink_51 : decode cX0_kindOfLink 51 = .ok (.goto 4, 3) := by decide +kernel
theorem dX0_kindOfLink_54 : decode cX0_kindOfLink 54 = .ok (.iconst 0, 1) := by decide +kernel
theorem dX0_kindOfLink_55 : decode cX0_kindOfLink 55 = .ok (.if_icmp .ne 5, 3) := by decide +kernel
theorem dX0_kindOfLink_58 : decode cX0_kindOfLink 58 = .ok (.iconst 2, 1) := by decide +kernel
theorem dX0_kindOfLink_59 : decode cX0_kindOfLink 59 = .ok (.ireturn, 1) := by decide +kernel
theorem dX0_kindOfLink_60 : decode cX0_kindOfLink 60 = .ok (.iload_n 1, 1) := by decide +kernel
theorem dX0_kindOfLink_61 : decode cX0_kindOfLink 61 = .ok (.iload_n 3, 1) := by decide +kernel
theorem dX0_kindOfLink_62 : decode cX0_kindOfLink 62 = .ok (.invokestatic 144, 3) := by decide +kernel
theorem dX0_kindOfLink_65 : decode cX0_kindOfLink 65 = .ok (.iconst 1, 1) := by decide +kernel
theorem dX0_kindOfLink_66 : decode cX0_kindOfLink 66 = .ok (.if_icmp .ne 16, 3) := by decide +kernel
theorem dX0_kindOfLink_69 : decode cX0_kindOfLink 69 = .ok (.iload_n 1, 1) := by decide +kernel
theorem dX0_kindOfLink_70 : decode cX0_kindOfLink 70 = .ok (.iload_n 3, 1) := by decide +kernel
theorem dX0_kindOfLink_71 : decode cX0_kindOfLink 71 = .ok (.invokestatic 98, 3) := by decide +kernel
theorem dX0_kindOfLink_74 : decode cX0_kindOfLink 74 = .ok (.iconst 5, 1) := by decide +kernel
theorem dX0_kindOfLink_75 : decode cX0_kindOfLink 75 = .ok (.if_icmp .ge 7, 3) := by decide +kernel
theorem dX0_kindOfLink_78 : decode cX0_kindOfLink 78 = .ok (.iconst 1, 1) := by decide +kernel
theorem dX0_kindOfLink_79 : decode cX0_kindOfLink 79 = .ok (.goto 4, 3) := by decide +kernel
theorem dX0_kindOfLink_82 : decode cX0_kindOfLink 82 = .ok (.iconst 0, 1) := by decide +kernel
theorem dX0_kindOfLink_83 : decode cX0_kindOfLink 83 = .ok (.istore 6, 2) := by decide +kernel
theorem dX0_kindOfLink_85 : decode cX0_kindOfLink 85 = .ok (.iload 6, 2) := by decide +kernel
theorem dX0_kindOfLink_87 : decode cX0_kindOfLink 87 = .ok (.ifCond .eq 24, 3) := by decide +kernel
theorem dX0_kindOfLink_90 : decode cX0_kindOfLink 90 = .ok (.iload 5, 2) := by decide +kernel
theorem dX0_kindOfLink_92 : decode cX0_kindOfLink 92 = .ok (.invokestatic 141, 3) := by decide +kernel
theorem dX0_kindOfLink_95 : decode cX0_kindOfLink 95 = .ok (.aload_n 0, 1) := by decide +kernel
theorem dX0_kindOfLink_96 : decode cX0_kindOfLink 96 = .ok (.getfield 29, 3) := by decide +kernel
theorem dX0_kindOfLink_99 : decode cX0_kindOfLink 99 = .ok (.bipush 9, 2) := by decide +kernel
theorem dX0_kindOfLink_101 : decode cX0_kindOfLink 101 = .ok (.invokevirtual 78, 3) := by decide +kernel
theorem dX0_kindOfLink_104 : decode cX0_kindOfLink 104 = .ok (.if_icmp .gt 7, 3) := by decide +kernel
theorem dX0_kindOfLink_107 : decode cX0_kindOfLink 107 = .ok (.iconst 3, 1) := by decide +kernel
theorem dX0_kindOfLink_108 : decode cX0_kindOfLink 108 = .ok (.goto 4, 3) := by decide +kernel
theorem dX0_kindOfLink_111 : decode cX0_kindOfLink 111 = .ok (.iconst 4, 1) := by decide +kernel
theorem dX0_kindOfLink_112 : decode cX0_kindOfLink 112 = .ok (.ireturn, 1) := by decide +kernel
theorem dX1_init_0 : decode cX1_init 0 = .ok (.aload_n 0, 1) := by decide +kernel
theorem dX1_init_1 : decode cX1_init 1 = .ok (.invokespecial 3, 3) := by decide +kernel
theorem dX1_init_4 : decode cX1_init 4 = .ok (.aload_n 0, 1) := by decide +kernel
theorem dX1_init_5 : decode cX1_init 5 = .ok (.iconst 0, 1) := by decide +kernel
theorem dX1_init_6 : decode cX1_init 6 = .ok (.putfield 9, 3) := by decide +kernel
theorem dX1_init_9 : decode cX1_init 9 = .ok (.aload_n 0, 1) := by decide +kernel
theorem dX1_init_10 : decode cX1_init 10 = .ok (.iconst 0, 1) := by decide +kernel
theorem dX1_init_11 : decode cX1_init 11 = .ok (.putfield 15, 3) := by decide +kernel
theorem dX1_init_14 : decode cX1_init 14 = .ok (.aload_n 0, 1) := by decide +kernel
theorem dX1_init_15 : decode cX1_init 15 = .ok (.iconst 0, 1) := by decide +kernel
theorem dX1_init_16 : decode cX1_init 16 = .ok (.putfield 19, 3) := by decide +kernel
theorem dX1_init_19 : decode cX1_init 19 = .ok (.aload_n 0, 1) := by decide +kernel
theorem dX1_init_20 : decode cX1_init 20 = .ok (.new 22, 3) := by decide +kernel
theorem dX1_init_23 : decode cX1_init 23 = .ok (.dup, 1) := by decide +kernel
theorem dX1_init_24 : decode cX1_init 24 = .ok (.bipush 40, 2) := by decide +kernel
theorem dX1_init_26 : decode cX1_init 26 = .ok (.invokespecial 24, 3) := by decide +kernel
theorem dX1_init_29 : decode cX1_init 29 = .ok (.putfield 27, 3) := by decide +kernel
theorem dX1_init_32 : decode cX1_init 32 = .ok (.aload_n 0, 1) := by decide +kernel
theorem dX1_init_33 : decode cX1_init 33 = .ok (.new 22, 3) := by decide +kernel
theorem dX1_init_36 : decode cX1_init 36 = .ok (.dup, 1) := by decide +kernel
theorem dX1_init_37 : decode cX1_init 37 = .ok (.sipush 1200, 3) := by decide +kernel
theorem dX1_init_40 : decode cX1_init 40 = .ok (.invokespecial 24, 3) := by decide +kernel
theorem dX1_init_43 : decode cX1_init 43 = .ok (.putfield 31, 3) := by decide +kernel
theorem dX1_init_46 : decode cX1_init 46 = .ok (.aload_n 0, 1) := by decide +kernel
theorem dX1_init_47 : decode cX1_init 47 = .ok (.new 22, 3) := by decide +kernel
theorem dX1_init_50 : decode cX1_init 50 = .ok (.dup, 1) := by decide +kernel
theorem dX1_init_51 : decode cX1_init 51 = .ok (.sipush 400, 3) := by decide +kernel
theorem dX1_init_54 : decode cX1_init 54 = .ok (.invokespecial 24, 3) := by decide +kernel
theorem dX1_init_57 : decode cX1_init 57 = .ok (.putfield 34, 3) := by decide +kernel
theorem dX1_init_60 : decode cX1_init 60 = .ok (.aload_n 0, 1) := by decide +kernel
theorem dX1_init_61 : decode cX1_init 61 = .ok (.new 22, 3) := by decide +kernel
theorem dX1_init_64 : decode cX1_init 64 = .ok (.dup, 1) := by decide +kernel
theorem dX1_init_65 : decode cX1_init 65 = .ok (.sipush 4000, 3) := by decide +kernel
theorem dX1_init_68 : decode cX1_init 68 = .ok (.invokespecial 24, 3) := by decide +kernel
theorem dX1_init_71 : decode cX1_init 71 = .ok (.putfield 37, 3) := by decide +kernel
theorem dX1_init_74 : decode cX1_init 74 = .ok (.aload_n 0, 1) := by decide +kernel
theorem dX1_init_75 : decode cX1_init 75 = .ok (.new 22, 3) := by decide +kernel
theorem dX1_init_78 : decode cX1_init 78 = .ok (.dup, 1) := by decide +kernel
theorem dX1_init_79 : decode cX1_init 79 = .ok (.sipush 400, 3) := by decide +kernel
theorem dX1_init_82 : decode cX1_init 82 = .ok (.invokespecial 24, 3) := by decide +kernel
theorem dX1_init_85 : decode cX1_init 85 = .ok (.putfield 40, 3) := by decide +kernel
theorem dX1_init_88 : decode cX1_init 88 = .ok (.aload_n 0, 1) := by decide +kernel
theorem dX1_init_89 : decode cX1_init 89 = .ok (.new 22, 3) := by decide +kernel
theorem dX1_init_92 : decode cX1_init 92 = .ok (.dup, 1) := by decide +kernel
theorem dX1_init_93 : decode cX1_init 93 = .ok (.sipush 400, 3) := by decide +kernel
theorem dX1_init_96 : decode cX1_init 96 = .ok (.invokespecial 24, 3) := by decide +kernel
theorem dX1_init_99 : decode cX1_init 99 = .ok (.putfield 43, 3) := by decide +kernel
theorem dX1_init_102 : decode cX1_init 102 = .ok (.aload_n 0, 1) := by decide +kernel
theorem dX1_init_103 : decode cX1_init 103 = .ok (.new 22, 3) := by decide +kernel
theorem dX1_init_106 : decode cX1_init 106 = .ok (.dup, 1) := by decide +kernel
theorem dX1_init_107 : decode cX1_init 107 = .ok (.bipush 40, 2) := by decide +kernel
theorem dX1_init_109 : decode cX1_init 109 = .ok (.invokespecial 24, 3) := by decide +kernel
theorem dX1_init_112 : decode cX1_init 112 = .ok (.putfield 46, 3) := by decide +kernel
theorem dX1_init_115 : decode cX1_init 115 = .ok (.aload_n 0, 1) := by decide +kernel
theorem dX1_init_116 : decode cX1_init 116 = .ok (.new 22, 3) := by decide +kernel
theorem dX1_init_119 : decode cX1_init 119 = .ok (.dup, 1) := by decide +kernel
theorem dX1_init_120 : decode cX1_init 120 = .ok (.sipush 400, 3) := by decide +kernel
theorem dX1_init_123 : decode cX1_init 123 = .ok (.invokespecial 24, 3) := by decide +kernel
theorem dX1_init_126 : decode cX1_init 126 = .ok (.putfield 49, 3) := by decide +kernel
theorem dX1_init_129 : decode cX1_init 129 = .ok (.aload_n 0, 1) := by decide +kernel
theorem dX1_init_130 : decode cX1_init 130 = .ok (.new 22, 3) := by decide +kernel
theorem dX1_init_133 : decode cX1_init 133 = .ok (.dup, 1) := by decide +kernel
theorem dX1_init_134 : decode cX1_init 134 = .ok (.bipush 12, 2) := by decide +kernel
theorem dX1_init_136 : decode cX1_init 136 = .ok (.invokespecial 24, 3) := by decide +kernel
theorem dX1_init_139 : decode cX1_init 139 = .ok (.putfield 52, 3) := by decide +kernel
theorem dX1_init_142 : decode cX1_init 142 = .ok (.aload_n 0, 1) := by decide +kernel
theorem dX1_init_143 : decode cX1_init 143 = .ok (.sipush 400, 3) := by decide +kernel
theorem dX1_init_146 : decode cX1_init 146 = .ok (.newarray .long, 2) := by decide +kernel
theorem dX1_init_148 : decode cX1_init 148 = .ok (.putfield 55, 3) := by decide +kernel
theorem dX1_init_151 : decode cX1_init 151 = .ok (.return_, 1) := by decide +kernel
theorem dX1_forget_0 : decode cX1_forget 0 = .ok (.aload_n 0, 1) := by decide +kernel
theorem dX1_forget_1 : decode cX1_forget 1 = .ok (.iconst 0, 1) := by decide +kernel
theorem dX1_forget_2 : decode cX1_forget 2 = .ok (.putfield 9, 3) := by decide +kernel
theorem dX1_forget_5 : decode cX1_forget 5 = .ok (.return_, 1) := by decide +kernel
theorem dX1_solve_0 : decode cX1_solve 0 = .ok (.aload_n 0, 1) := by decide +kernel
theorem dX1_solve_1 : decode cX1_solve 1 = .ok (.getfield 9, 3) := by decide +kernel
theorem dX1_solve_4 : decode cX1_solve 4 = .ok (.ifCond .eq 4, 3) := by decide +kernel
theorem dX1_solve_7 : decode cX1_solve 7 = .ok (.return_, 1) := by decide +kernel
theorem dX1_solve_8 : decode cX1_solve 8 = .ok (.aload_n 0, 1) := by decide +kernel
theorem dX1_solve_9 : decode cX1_solve 9 = .ok (.iconst 1, 1) := by decide +kernel
theorem dX1_solve_10 : decode cX1_solve 10 = .ok (.putfield 9, 3) := by decide +kernel
theorem dX1_solve_13 : decode cX1_solve 13 = .ok (.aload_n 0, 1) := by decide +kernel
theorem dX1_solve_14 : decode cX1_solve 14 = .ok (.aload_n 1, 1) := by decide +kernel
theorem dX1_solve_15 : decode cX1_solve 15 = .ok (.getfield 59, 3) := by decide +kernel
theorem dX1_solve_18 : decode cX1_solve 18 = .ok (.putfield 15, 3) := by decide +kernel
theorem dX1_solve_21 : decode cX1_solve 21 = .ok (.iconst 0, 1) := by decide +kernel
theorem dX1_solve_22 : decode cX1_solve 22 = .ok (.istore_n 2, 1) := by decide +kernel
theorem dX1_solve_23 : decode cX1_solve 23 = .ok (.iload_n 2, 1) := by decide +kernel
theorem dX1_solve_24 : decode cX1_solve 24 = .ok (.aload_n 0, 1) := by decide +kernel
theorem dX1_solve_25 : decode cX1_solve 25 = .ok (.getfield 15, 3) := by decide +kernel
theorem dX1_solve_28 : decode cX1_solve 28 = .ok (.if_icmp .ge 15, 3) := by decide +kernel
theorem dX1_solve_31 : decode cX1_solve 31 = .ok (.aload_n 0, 1) := by decide +kernel
theorem dX1_solve_32 : decode cX1_solve 32 = .ok (.aload_n 1, 1) := by decide +kernel
theorem dX1_solve_33 : decode cX1_solve 33 = .ok (.iload_n 2, 1) := by decide +kernel
theorem dX1_solve_34 : decode cX1_solve 34 = .ok (.invokevirtual 62, 3) := by decide +kernel
theorem dX1_solve_37 : decode cX1_solve 37 = .ok (.iinc 2 1, 3) := by decide +kernel
theorem dX1_solve_40 : decode cX1_solve 40 = .ok (.goto (-17), 3) := by decide +kernel
theorem dX1_solve_43 : decode cX1_solve 43 = .ok (.iconst 0, 1) := by decide +kernel
theorem dX1_solve_44 : decode cX1_solve 44 = .ok (.istore_n 2, 1) := by decide +kernel
theorem dX1_solve_45 : decode cX1_solve 45 = .ok (.iload_n 2, 1) := by decide +kernel
theorem dX1_solve_46 : decode cX1_solve 46 = .ok (.aload_n 0, 1) := by decide +kernel
theorem dX1_solve_47 : decode cX1_solve 47 = .ok (.getfield 15, 3) := by decide +kernel
theorem dX1_solve_50 : decode cX1_solve 50 = .ok (.iconst 1, 1) := by decide +kernel
theorem dX1_solve_51 : decode cX1_solve 51 = .ok (.isub, 1) := by decide +kernel
theorem dX1_solve_52 : decode cX1_solve 52 = .ok (.if_icmp .ge 15, 3) := by decide +kernel
theorem dX1_solve_55 : decode cX1_solve 55 = .ok (.aload_n 0, 1) := by decide +kernel
theorem dX1_solve_56 : decode cX1_solve 56 = .ok (.aload_n 1, 1) := by decide +kernel
theorem dX1_solve_57 : decode cX1_solve 57 = .ok (.iload_n 2, 1) := by decide +kernel
theorem dX1_solve_58 : decode cX1_solve 58 = .ok (.invokevirtual 66, 3) := by decide +kernel
theorem dX1_solve_61 : decode cX1_solve 61 = .ok (.iinc 2 1, 3) := by decide +kernel
theorem dX1_solve_64 : decode cX1_solve 64 = .ok (.goto (-19), 3) := by decide +kernel
theorem dX1_solve_67 : decode cX1_solve 67 = .ok (.aload_n 0, 1) := by decide +kernel
theorem dX1_solve_68 : decode cX1_solve 68 = .ok (.aload_n 1, 1) := by decide +kernel
theorem dX1_solve_69 : decode cX1_solve 69 = .ok (.iconst 0, 1) := by decide +kernel
theorem dX1_solve_70 : decode cX1_solve 70 = .ok (.aload_n 0, 1) := by decide +kernel
theorem dX1_solve_71 : decode cX1_solve 71 = .ok (.getfield 40, 3) := by decide +kernel
theorem dX1_solve_74 : decode cX1_solve 74 = .ok (.invokevirtual 69, 3) := by decide +kernel
theorem dX1_solve_77 : decode cX1_solve 77 = .ok (.aload_n 0, 1) := by decide +kernel
theorem dX1_solve_78 : decode cX1_solve 78 = .ok (.invokevirtual 73, 3) := by decide +kernel
theorem dX1_solve_81 : decode cX1_solve 81 = .ok (.aload_n 0, 1) := by decide +kernel
theorem dX1_solve_82 : decode cX1_solve 82 = .ok (.aload_n 0, 1) := by decide +kernel
theorem dX1_solve_83 : decode cX1_solve 83 = .ok (.aload_n 0, 1) := by decide +kernel
theorem dX1_solve_84 : decode cX1_solve 84 = .ok (.getfield 40, 3) := by decide +kernel
theorem dX1_solve_87 : decode cX1_solve 87 = .ok (.invokevirtual 76, 3) := by decide +kernel
theorem dX1_solve_90 : decode cX1_solve 90 = .ok (.putfield 19, 3) := by decide +kernel
theorem dX1_solve_93 : decode cX1_solve 93 = .ok (.aload_n 0, 1) := by decide +kernel
theorem dX1_solve_94 : decode cX1_solve 94 = .ok (.invokevirtual 80, 3) := by decide +kernel
theorem dX1_solve_97 : decode cX1_solve 97 = .ok (.iconst 1, 1) := by decide +kernel
theorem dX1_solve_98 : decode cX1_solve 98 = .ok (.istore_n 2, 1) := by decide +kernel
theorem dX1_solve_99 : decode cX1_solve 99 = .ok (.iload_n 2, 1) := by decide +kernel
theorem dX1_solve_100 : decode cX1_solve 100 = .ok (.bipush 12, 2) := by decide +kernel
theorem dX1_solve_102 : decode cX1_solve 102 = .ok (.if_icmp .ge 18, 3) := by decide +kernel
theorem dX1_solve_105 : decode cX1_solve 105 = .ok (.aload_n 0, 1) := by decide +kernel
theorem dX1_solve_106 : decode cX1_solve 106 = .ok (.getfield 52, 3) := by decide +kernel
theorem dX1_solve_109 : decode cX1_solve 109 = .ok (.iload_n 2, 1) := by decide +kernel
theorem dX1_solve_110 : decode cX1_solve 110 = .ok (.iconst (-1), 1) := by decide +kernel
theorem dX1_solve_111 : decode cX1_solve 111 = .ok (.invokevirtual 83, 3) := by decide +kernel
theorem dX1_solve_114 : decode cX1_solve 114 = .ok (.iinc 2 1, 3) := by decide +kernel
theorem dX1_solve_117 : decode cX1_solve 117 = .ok (.goto (-18), 3) := by decide +kernel
theorem dX1_solve_120 : decode cX1_solve 120 = .ok (.aload_n 0, 1) := by decide +kernel
theorem dX1_solve_121 : decode cX1_solve 121 = .ok (.getfield 52, 3) := by decide +kernel
theorem dX1_solve_124 : decode cX1_solve 124 = .ok (.iconst 0, 1) := by decide +kernel
theorem dX1_solve_125 : decode cX1_solve 125 = .ok (.aload_n 0, 1) := by decide +kernel
theorem dX1_solve_126 : decode cX1_solve 126 = .ok (.getfield 19, 3) := by decide +kernel
theorem dX1_solve_129 : decode cX1_solve 129 = .ok (.invokevirtual 83, 3) := by decide +kernel
theorem dX1_solve_132 : decode cX1_solve 132 = .ok (.return_, 1) := by decide +kernel
theorem dX1_placeOfChoice_0 : decode cX1_placeOfChoice 0 = .ok (.iload_n 0, 1) := by decide +kernel
theorem dX1_placeOfChoice_1 : decode cX1_placeOfChoice 1 = .ok (.bipush 10, 2) := by decide +kernel
theorem dX1_placeOfChoice_3 : decode cX1_placeOfChoice 3 = .ok (.imul, 1) := by decide +kernel
theorem dX1_placeOfChoice_4 : decode cX1_placeOfChoice 4 = .ok (.iload_n 1, 1) := by decide +kernel
theorem dX1_placeOfChoice_5 : decode cX1_placeOfChoice 5 = .ok (.iadd, 1) := by decide +kernel
theorem dX1_placeOfChoice_6 : decode cX1_placeOfChoice 6 = .ok (.ireturn, 1) := by decide +kernel
theorem dX1_baseOf_0 : decode cX1_baseOf 0 = .ok (.iload_n 0, 1) := by decide +kernel
theorem dX1_baseOf_1 : decode cX1_baseOf 1 = .ok (.iload_n 1, 1) := by decide +kernel
theorem dX1_baseOf_2 : decode cX1_baseOf 2 = .ok (.invokestatic 87, 3) := by decide +kernel
theorem dX1_baseOf_5 : decode cX1_baseOf 5 = .ok (.iconst 3, 1) := by decide +kernel
theorem dX1_baseOf_6 : decode cX1_baseOf 6 = .ok (.imul, 1) := by decide +kernel
theorem dX1_baseOf_7 : decode cX1_baseOf 7 = .ok (.ireturn, 1) := by decide +kernel
theorem dX1_placeOfStep_0 : decode cX1_placeOfStep 0 = .ok (.iload_n 0, 1) := by decide +kernel
theorem dX1_placeOfStep_1 : decode cX1_placeOfStep 1 = .ok (.iload_n 1, 1) := by decide +kernel
theorem dX1_placeOfStep_2 : decode cX1_placeOfStep 2 = .ok (.invokestatic 87, 3) := by decide +kernel
theorem dX1_placeOfStep_5 : decode cX1_placeOfStep 5 = .ok (.bipush 10, 2) := by decide +kernel
theorem dX1_placeOfStep_7 : decode cX1_placeOfStep 7 = .ok (.imul, 1) := by decide +kernel
theorem dX1_placeOfStep_8 : decode cX1_placeOfStep 8 = .ok (.iload_n 2, 1) := by decide +kernel
theorem dX1_placeOfStep_9 : decode cX1_placeOfStep 9 = .ok (.iadd, 1) := by decide +kernel
theorem dX1_placeOfStep_10 : decode cX1_placeOfStep 10 = .ok (.ireturn, 1) := by decide +kernel
theorem dX1_listChoices_0 : decode cX1_listChoices 0 = .ok (.aload_n 0, 1) := by decide +kernel
theorem dX1_listChoices_1 : decode cX1_listChoices 1 = .ok (.getfield 27, 3) := by decide +kernel
theorem dX1_listChoices_4 : decode cX1_listChoices 4 = .ok (.iload_n 2, 1) := by decide +kernel
theorem dX1_listChoices_5 : decode cX1_listChoices 5 = .ok (.iconst 0, 1) := by decide +kernel
theorem dX1_listChoices_6 : decode cX1_listChoices 6 = .ok (.invokevirtual 83, 3) := by decide +kernel
theorem dX1_listChoices_9 : decode cX1_listChoices 9 = .ok (.aload_n 1, 1) := by decide +kernel
theorem dX1_listChoices_10 : decode cX1_listChoices 10 = .ok (.getfield 91, 3) := by decide +kernel
theorem dX1_listChoices_13 : decode cX1_listChoices 13 = .ok (.iload_n 2, 1) := by decide +kernel
theorem dX1_listChoices_14 : decode cX1_listChoices 14 = .ok (.invokevirtual 94, 3) := by decide +kernel
theorem dX1_listChoices_17 : decode cX1_listChoices 17 = .ok (.istore_n 3, 1) := by decide +kernel
theorem dX1_listChoices_18 : decode cX1_listChoices 18 = .ok (.iconst 1, 1) := by decide +kernel
theorem dX1_listChoices_19 : decode cX1_listChoices 19 = .ok (.istore 4, 2) := by decide +kernel
theorem dX1_listChoices_21 : decode cX1_listChoices 21 = .ok (.iload 4, 2) := by decide +kernel
theorem dX1_listChoices_23 : decode cX1_listChoices 23 = .ok (.iconst 5, 1) := by decide +kernel
theorem dX1_listChoices_24 : decode cX1_listChoices 24 = .ok (.if_icmp .gt 117, 3) := by decide +kernel
theorem dX1_listChoices_27 : decode cX1_listChoices 27 = .ok (.iload_n 3, 1) := by decide +kernel
theorem dX1_listChoices_28 : decode cX1_listChoices 28 = .ok (.iconst 1, 1) := by decide +kernel
theorem dX1_listChoices_29 : decode cX1_listChoices 29 = .ok (.if_icmp .ne 13, 3) := by decide +kernel
theorem dX1_listChoices_32 : decode cX1_listChoices 32 = .ok (.aload_n 0, 1) := by decide +kernel
theorem dX1_listChoices_33 : decode cX1_listChoices 33 = .ok (.aload_n 1, 1) := by decide +kernel
theorem dX1_listChoices_34 : decode cX1_listChoices 34 = .ok (.iload_n 2, 1) := by decide +kernel
theorem dX1_listChoices_35 : decode cX1_listChoices 35 = .ok (.iload 4, 2) := by decide +kernel
theorem dX1_listChoices_37 : decode cX1_listChoices 37 = .ok (.iconst 0, 1) := by decide +kernel
theorem dX1_listChoices_38 : decode cX1_listChoices 38 = .ok (.iconst 0, 1) := by decide +kernel
theorem dX1_listChoices_39 : decode cX1_listChoices 39 = .ok (.invokevirtual 98, 3) := by decide +kernel
theorem dX1_listChoices_42 : decode cX1_listChoices 42 = .ok (.iconst 1, 1) := by decide +kernel
theorem dX1_listChoices_43 : decode cX1_listChoices 43 = .ok (.istore 5, 2) := by decide +kernel
theorem dX1_listChoices_45 : decode cX1_listChoices 45 = .ok (.iload_n 3, 1) := by decide +kernel
theorem dX1_listChoices_46 : decode cX1_listChoices 46 = .ok (.iconst 1, 1) := by decide +kernel
theorem dX1_listChoices_47 : decode cX1_listChoices 47 = .ok (.if_icmp .le 88, 3) := by decide +kernel
theorem dX1_listChoices_50 : decode cX1_listChoices 50 = .ok (.iload 5, 2) := by decide +kernel
theorem dX1_listChoices_52 : decode cX1_listChoices 52 = .ok (.iconst 5, 1) := by decide +kernel
theorem dX1_listChoices_53 : decode cX1_listChoices 53 = .ok (.if_icmp .gt 82, 3) := by decide +kernel
theorem dX1_listChoices_56 : decode cX1_listChoices 56 = .ok (.aload_n 1, 1) := by decide +kernel
theorem dX1_listChoices_57 : decode cX1_listChoices 57 = .ok (.iload 4, 2) := by decide +kernel
theorem dX1_listChoices_59 : decode cX1_listChoices 59 = .ok (.iload 5, 2) := by decide +kernel
theorem dX1_listChoices_61 : decode cX1_listChoices 61 = .ok (.invokevirtual 102, 3) := by decide +kernel
theorem dX1_listChoices_64 : decode cX1_listChoices 64 = .ok (.ifCond .ne 6, 3) := by decide +kernel
theorem dX1_listChoices_67 : decode cX1_listChoices 67 = .ok (.goto 62, 3) := by decide +kernel
theorem dX1_listChoices_70 : decode cX1_listChoices 70 = .ok (.iload_n 3, 1) := by decide +kernel
theorem dX1_listChoices_71 : decode cX1_listChoices 71 = .ok (.iconst 2, 1) := by decide +kernel
theorem dX1_listChoices_72 : decode cX1_listChoices 72 = .ok (.if_icmp .ne 14, 3) := by decide +kernel
theorem dX1_listChoices_75 : decode cX1_listChoices 75 = .ok (.aload_n 0, 1) := by decide +kernel
theorem dX1_listChoices_76 : decode cX1_listChoices 76 = .ok (.aload_n 1, 1) := by decide +kernel
theorem dX1_listChoices_77 : decode cX1_listChoices 77 = .ok (.iload_n 2, 1) := by decide +kernel
theorem dX1_listChoices_78 : decode cX1_listChoices 78 = .ok (.iload 4, 2) := by decide +kernel
theorem dX1_listChoices_80 : decode cX1_listChoices 80 = .ok (.iload 5, 2) := by decide +kernel
theorem dX1_listChoices_82 : decode cX1_listChoices 82 = .ok (.iconst 0, 1) := by decide +kernel
theorem dX1_listChoices_83 : decode cX1_listChoices 83 = .ok (.invokevirtual 98, 3) := by decide +kernel
theorem dX1_listChoices_86 : decode cX1_listChoices 86 = .ok (.iconst 1, 1) := by decide +kernel
theorem dX1_listChoices_87 : decode cX1_listChoices 87 = .ok (.istore 6, 2) := by decide +kernel
theorem dX1_listChoices_89 : decode cX1_listChoices 89 = .ok (.iload_n 3, 1) := by decide +kernel
theorem dX1_listChoices_90 : decode cX1_listChoices 90 = .ok (.iconst 2, 1) := by decide +kernel
theorem dX1_listChoices_91 : decode cX1_listChoices 91 = .ok (.if_icmp .le 38, 3) := by decide +kernel
theorem dX1_listChoices_94 : decode cX1_listChoices 94 = .ok (.iload 6, 2) := by decide +kernel
theorem dX1_listChoices_96 : decode cX1_listChoices 96 = .ok (.iconst 5, 1) := by decide +kernel
theorem dX1_listChoices_97 : decode cX1_listChoices 97 = .ok (.if_icmp .gt 32, 3) := by decide +kernel
theorem dX1_listChoices_100 : decode cX1_listChoices 100 = .ok (.aload_n 1, 1) := by decide +kernel
theorem dX1_listChoices_101 : decode cX1_listChoices 101 = .ok (.iload 5, 2) := by decide +kernel
theorem dX1_listChoices_103 : decode cX1_listChoices 103 = .ok (.iload 6, 2) := by decide +kernel
theorem dX1_listChoices_105 : decode cX1_listChoices 105 = .ok (.invokevirtual 102, 3) := by decide +kernel
theorem dX1_listChoices_108 : decode cX1_listChoices 108 = .ok (.ifCond .eq 15, 3) := by decide +kernel
theorem dX1_listChoices_111 : decode cX1_listChoices 111 = .ok (.aload_n 0, 1) := by decide +kernel
theorem dX1_listChoices_112 : decode cX1_listChoices 112 = .ok (.aload_n 1, 1) := by decide +kernel
theorem dX1_listChoices_113 : decode cX1_listChoices 113 = .ok (.iload_n 2, 1) := by decide +kernel
theorem dX1_listChoices_114 : decode cX1_listChoices 114 = .ok (.iload 4, 2) := by decide +kernel
theorem dX1_listChoices_116 : decode cX1_listChoices 116 = .ok (.iload 5, 2) := by decide +kernel
theorem dX1_listChoices_118 : decode cX1_listChoices 118 = .ok (.iload 6, 2) := by decide +kernel
theorem dX1_listChoices_120 : decode cX1_listChoices 120 = .ok (.invokevirtual 98, 3) := by decide +kernel
theorem dX1_listChoices_123 : decode cX1_listChoices 123 = .ok (.iinc 6 1, 3) := by decide +kernel
theorem dX1_listChoices_126 : decode cX1_listChoices 126 = .ok (.goto (-37), 3) := by decide +kernel
theorem dX1_listChoices_129 : decode cX1_listChoices 129 = .ok (.iinc 5 1, 3) := by decide +kernel
theorem dX1_listChoices_132 : decode cX1_listChoices 132 = .ok (.goto (-87), 3) := by decide +kernel
theorem dX1_listChoices_135 : decode cX1_listChoices 135 = .ok (.iinc 4 1, 3) := by decide +kernel
theorem dX1_listChoices_138 : decode cX1_listChoices 138 = .ok (.goto (-117), 3) := by decide +kernel
theorem dX1_listChoices_141 : decode cX1_listChoices 141 = .ok (.return_, 1) := by decide +kernel
theorem dX1_tryChoice_0 : decode cX1_tryChoice 0 = .ok (.aload_n 0, 1) := by decide +kernel
theorem dX1_tryChoice_1 : decode cX1_tryChoice 1 = .ok (.getfield 27, 3) := by decide +kernel
theorem dX1_tryChoice_4 : decode cX1_tryChoice 4 = .ok (.iload_n 2, 1) := by decide +kernel
theorem dX1_tryChoice_5 : decode cX1_tryChoice 5 = .ok (.invokevirtual 94, 3) := by decide +kernel
theorem dX1_tryChoice_8 : decode cX1_tryChoice 8 = .ok (.istore 6, 2) := by decide +kernel
theorem dX1_tryChoice_10 : decode cX1_tryChoice 10 = .ok (.iload 6, 2) := by decide +kernel
theorem dX1_tryChoice_12 : decode cX1_tryChoice 12 = .ok (.bipush 10, 2) := by decide +kernel
theorem dX1_tryChoice_14 : decode cX1_tryChoice 14 = .ok (.if_icmp .lt 4, 3) := by decide +kernel
theorem dX1_tryChoice_17 : decode cX1_tryChoice 17 = .ok (.return_, 1) := by decide +kernel
theorem dX1_tryChoice_18 : decode cX1_tryChoice 18 = .ok (.iload_n 2, 1) := by decide +kernel
theorem dX1_tryChoice_19 : decode cX1_tryChoice 19 = .ok (.iload 6, 2) := by decide +kernel
theorem dX1_tryChoice_21 : decode cX1_tryChoice 21 = .ok (.invokestatic 106, 3) := by decide +kernel
theorem dX1_tryChoice_24 : decode cX1_tryChoice 24 = .ok (.istore 7, 2) := by decide +kernel
theorem dX1_tryChoice_26 : decode cX1_tryChoice 26 = .ok (.aload_n 0, 1) := by decide +kernel
theorem dX1_tryChoice_27 : decode cX1_tryChoice 27 = .ok (.getfield 31, 3) := by decide +kernel
theorem dX1_tryChoice_30 : decode cX1_tryChoice 30 = .ok (.iload 7, 2) := by decide +kernel
theorem dX1_tryChoice_32 : decode cX1_tryChoice 32 = .ok (.iload_n 3, 1) := by decide +kernel
theorem dX1_tryChoice_33 : decode cX1_tryChoice 33 = .ok (.invokevirtual 83, 3) := by decide +kernel
theorem dX1_tryChoice_36 : decode cX1_tryChoice 36 = .ok (.aload_n 0, 1) := by decide +kernel
theorem dX1_tryChoice_37 : decode cX1_tryChoice 37 = .ok (.getfield 31, 3) := by decide +kernel
theorem dX1_tryChoice_40 : decode cX1_tryChoice 40 = .ok (.iload 7, 2) := by decide +kernel
theorem dX1_tryChoice_42 : decode cX1_tryChoice 42 = .ok (.iconst 1, 1) := by decide +kernel
theorem dX1_tryChoice_43 : decode cX1_tryChoice 43 = .ok (.iadd, 1) := by decide +kernel
theorem dX1_tryChoice_44 : decode cX1_tryChoice 44 = .ok (.iload 4, 2) := by decide +kernel
theorem dX1_tryChoice_46 : decode cX1_tryChoice 46 = .ok (.invokevirtual 83, 3) := by decide +kernel
theorem dX1_tryChoice_49 : decode cX1_tryChoice 49 = .ok (.aload_n 0, 1) := by decide +kernel
theorem dX1_tryChoice_50 : decode cX1_tryChoice 50 = .ok (.getfield 31, 3) := by decide +kernel
theorem dX1_tryChoice_53 : decode cX1_tryChoice 53 = .ok (.iload 7, 2) := by decide +kernel
theorem dX1_tryChoice_55 : decode cX1_tryChoice 55 = .ok (.iconst 2, 1) := by decide +kernel
theorem dX1_tryChoice_56 : decode cX1_tryChoice 56 = .ok (.iadd, 1) := by decide +kernel
theorem dX1_tryChoice_57 : decode cX1_tryChoice 57 = .ok (.iload 5, 2) := by decide +kernel
theorem dX1_tryChoice_59 : decode cX1_tryChoice 59 = .ok (.invokevirtual 83, 3) := by decide +kernel
theorem dX1_tryChoice_62 : decode cX1_tryChoice 62 = .ok (.aload_n 1, 1) := by decide +kernel
theorem dX1_tryChoice_63 : decode cX1_tryChoice 63 = .ok (.iload_n 2, 1) := by decide +kernel
theorem dX1_tryChoice_64 : decode cX1_tryChoice 64 = .ok (.aload_n 0, 1) := by decide +kernel
theorem dX1_tryChoice_65 : decode cX1_tryChoice 65 = .ok (.getfield 31, 3) := by decide +kernel
theorem dX1_tryChoice_68 : decode cX1_tryChoice 68 = .ok (.iload 7, 2) := by decide +kernel
theorem dX1_tryChoice_70 : decode cX1_tryChoice 70 = .ok (.iconst 0, 1) := by decide +kernel
theorem dX1_tryChoice_71 : decode cX1_tryChoice 71 = .ok (.invokevirtual 109, 3) := by decide +kernel
theorem dX1_tryChoice_74 : decode cX1_tryChoice 74 = .ok (.istore 8, 2) := by decide +kernel
theorem dX1_tryChoice_76 : decode cX1_tryChoice 76 = .ok (.iload 8, 2) := by decide +kernel
theorem dX1_tryChoice_78 : decode cX1_tryChoice 78 = .ok (.iconst (-1), 1) := by decide +kernel
theorem dX1_tryChoice_79 : decode cX1_tryChoice 79 = .ok (.if_icmp .eq 30, 3) := by decide +kernel
theorem dX1_tryChoice_82 : decode cX1_tryChoice 82 = .ok (.aload_n 0, 1) := by decide +kernel
theorem dX1_tryChoice_83 : decode cX1_tryChoice 83 = .ok (.getfield 34, 3) := by decide +kernel
theorem dX1_tryChoice_86 : decode cX1_tryChoice 86 = .ok (.iload_n 2, 1) := by decide +kernel
theorem dX1_tryChoice_87 : decode cX1_tryChoice 87 = .ok (.iload 6, 2) := by decide +kernel
theorem dX1_tryChoice_89 : decode cX1_tryChoice 89 = .ok (.invokestatic 87, 3) := by decide +kernel
theorem dX1_tryChoice_92 : decode cX1_tryChoice 92 = .ok (.iload 8, 2) := by decide +kernel
theorem dX1_tryChoice_94 : decode cX1_tryChoice 94 = .ok (.invokevirtual 83, 3) := by decide +kernel
theorem dX1_tryChoice_97 : decode cX1_tryChoice 97 = .ok (.aload_n 0, 1) := by decide +kernel
theorem dX1_tryChoice_98 : decode cX1_tryChoice 98 = .ok (.getfield 27, 3) := by decide +kernel
theorem dX1_tryChoice_101 : decode cX1_tryChoice 101 = .ok (.iload_n 2, 1) := by decide +kernel
theorem dX1_tryChoice_102 : decode cX1_tryChoice 102 = .ok (.iload 6, 2) := by decide +kernel
theorem dX1_tryChoice_104 : decode cX1_tryChoice 104 = .ok (.iconst 1, 1) := by decide +kernel
theorem dX1_tryChoice_105 : decode cX1_tryChoice 105 = .ok (.iadd, 1) := by decide +kernel
theorem dX1_tryChoice_106 : decode cX1_tryChoice 106 = .ok (.invokevirtual 83, 3) := by decide +kernel
theorem dX1_tryChoice_109 : decode cX1_tryChoice 109 = .ok (.return_, 1) := by decide +kernel
theorem dX1_fillSteps_0 : decode cX1_fillSteps 0 = .ok (.aload_n 1, 1) := by decide +kernel
theorem dX1_fillSteps_1 : decode cX1_fillSteps 1 = .ok (.getfield 113, 3) := by decide +kernel
theorem dX1_fillSteps_4 : decode cX1_fillSteps 4 = .ok (.iload_n 2, 1) := by decide +kernel
theorem dX1_fillSteps_5 : decode cX1_fillSteps 5 = .ok (.invokevirtual 94, 3) := by decide +kernel
theorem dX1_fillSteps_8 : decode cX1_fillSteps 8 = .ok (.istore_n 3, 1) := by decide +kernel
theorem dX1_fillSteps_9 : decode cX1_fillSteps 9 = .ok (.iconst 0, 1) := by decide +kernel
theorem dX1_fillSteps_10 : decode cX1_fillSteps 10 = .ok (.istore 4, 2) := by decide +kernel
theorem dX1_fillSteps_12 : decode cX1_fillSteps 12 = .ok (.iload 4, 2) := by decide +kernel
theorem dX1_fillSteps_14 : decode cX1_fillSteps 14 = .ok (.aload_n 0, 1) := by decide +kernel
theorem dX1_fillSteps_15 : decode cX1_fillSteps 15 = .ok (.getfield 27, 3) := by decide +kernel
theorem dX1_fillSteps_18 : decode cX1_fillSteps 18 = .ok (.iload_n 2, 1) := by decide +kernel
theorem dX1_fillSteps_19 : decode cX1_fillSteps 19 = .ok (.invokevirtual 94, 3) := by decide +kernel
theorem dX1_fillSteps_22 : decode cX1_fillSteps 22 = .ok (.if_icmp .ge 72, 3) := by decide +kernel
theorem dX1_fillSteps_25 : decode cX1_fillSteps 25 = .ok (.iconst 0, 1) := by decide +kernel
theorem dX1_fillSteps_26 : decode cX1_fillSteps 26 = .ok (.istore 5, 2) := by decide +kernel
theorem dX1_fillSteps_28 : decode cX1_fillSteps 28 = .ok (.iload 5, 2) := by decide +kernel
theorem dX1_fillSteps_30 : decode cX1_fillSteps 30 = .ok (.aload_n 0, 1) := by decide +kernel
theorem dX1_fillSteps_31 : decode cX1_fillSteps 31 = .ok (.getfield 27, 3) := by decide +kernel
theorem dX1_fillSteps_34 : decode cX1_fillSteps 34 = .ok (.iload_n 2, 1) := by decide +kernel
theorem dX1_fillSteps_35 : decode cX1_fillSteps 35 = .ok (.iconst 1, 1) := by decide +kernel
theorem dX1_fillSteps_36 : decode cX1_fillSteps 36 = .ok (.iadd, 1) := by decide +kernel
theorem dX1_fillSteps_37 : decode cX1_fillSteps 37 = .ok (.invokevirtual 94, 3) := by decide +kernel
theorem dX1_fillSteps_40 : decode cX1_fillSteps 40 = .ok (.if_icmp .ge 48, 3) := by decide +kernel
theorem dX1_fillSteps_43 : decode cX1_fillSteps 43 = .ok (.aload_n 0, 1) := by decide +kernel
theorem dX1_fillSteps_44 : decode cX1_fillSteps 44 = .ok (.getfield 37, 3) := by decide +kernel
theorem dX1_fillSteps_47 : decode cX1_fillSteps 47 = .ok (.iload_n 2, 1) := by decide +kernel
theorem dX1_fillSteps_48 : decode cX1_fillSteps 48 = .ok (.iload 4, 2) := by decide +kernel
theorem dX1_fillSteps_50 : decode cX1_fillSteps 50 = .ok (.iload 5, 2) := by decide +kernel
theorem dX1_fillSteps_52 : decode cX1_fillSteps 52 = .ok (.invokestatic 116, 3) := by decide +kernel
theorem dX1_fillSteps_55 : decode cX1_fillSteps 55 = .ok (.aload_n 1, 1) := by decide +kernel
theorem dX1_fillSteps_56 : decode cX1_fillSteps 56 = .ok (.iload_n 2, 1) := by decide +kernel
theorem dX1_fillSteps_57 : decode cX1_fillSteps 57 = .ok (.iload_n 3, 1) := by decide +kernel
theorem dX1_fillSteps_58 : decode cX1_fillSteps 58 = .ok (.aload_n 0, 1) := by decide +kernel
theorem dX1_fillSteps_59 : decode cX1_fillSteps 59 = .ok (.getfield 31, 3) := by decide +kernel
theorem dX1_fillSteps_62 : decode cX1_fillSteps 62 = .ok (.iload_n 2, 1) := by decide +kernel
theorem dX1_fillSteps_63 : decode cX1_fillSteps 63 = .ok (.iload 4, 2) := by decide +kernel
theorem dX1_fillSteps_65 : decode cX1_fillSteps 65 = .ok (.invokestatic 106, 3) := by decide +kernel
theorem dX1_fillSteps_68 : decode cX1_fillSteps 68 = .ok (.iload_n 2, 1) := by decide +kernel
theorem dX1_fillSteps_69 : decode cX1_fillSteps 69 = .ok (.iconst 1, 1) := by decide +kernel
theorem dX1_fillSteps_70 : decode cX1_fillSteps 70 = .ok (.iadd, 1) := by decide +kernel
theorem dX1_fillSteps_71 : decode cX1_fillSteps 71 = .ok (.iload 5, 2) := by decide +kernel
theorem dX1_fillSteps_73 : decode cX1_fillSteps 73 = .ok (.invokestatic 106, 3) := by decide +kernel
theorem dX1_fillSteps_76 : decode cX1_fillSteps 76 = .ok (.invokevirtual 120, 3) := by decide +kernel
theorem dX1_fillSteps_79 : decode cX1_fillSteps 79 = .ok (.invokevirtual 83, 3) := by decide +kernel
theorem dX1_fillSteps_82 : decode cX1_fillSteps 82 = .ok (.iinc 5 1, 3) := by decide +kernel
theorem dX1_fillSteps_85 : decode cX1_fillSteps 85 = .ok (.goto (-57), 3) := by decide +kernel
theorem dX1_fillSteps_88 : decode cX1_fillSteps 88 = .ok (.iinc 4 1, 3) := by decide +kernel
theorem dX1_fillSteps_91 : decode cX1_fillSteps 91 = .ok (.goto (-79), 3) := by decide +kernel
theorem dX1_fillSteps_94 : decode cX1_fillSteps 94 = .ok (.return_, 1) := by decide +kernel
theorem dX1_fillAhead_0 : decode cX1_fillAhead 0 = .ok (.iconst 0, 1) := by decide +kernel
theorem dX1_fillAhead_1 : decode cX1_fillAhead 1 = .ok (.istore 4, 2) := by decide +kernel
theorem dX1_fillAhead_3 : decode cX1_fillAhead 3 = .ok (.iload 4, 2) := by decide +kernel
theorem dX1_fillAhead_5 : decode cX1_fillAhead 5 = .ok (.aload_n 0, 1) := by decide +kernel
theorem dX1_fillAhead_6 : decode cX1_fillAhead 6 = .ok (.getfield 15, 3) := by decide +kernel
theorem dX1_fillAhead_9 : decode cX1_fillAhead 9 = .ok (.if_icmp .ge 90, 3) := by decide +kernel
theorem dX1_fillAhead_12 : decode cX1_fillAhead 12 = .ok (.iconst 0, 1) := by decide +kernel
theorem dX1_fillAhead_13 : decode cX1_fillAhead 13 = .ok (.istore 5, 2) := by decide +kernel
theorem dX1_fillAhead_15 : decode cX1_fillAhead 15 = .ok (.iload 5, 2) := by decide +kernel
theorem dX1_fillAhead_17 : decode cX1_fillAhead 17 = .ok (.aload_n 0, 1) := by decide +kernel
theorem dX1_fillAhead_18 : decode cX1_fillAhead 18 = .ok (.getfield 27, 3) := by decide +kernel
theorem dX1_fillAhead_21 : decode cX1_fillAhead 21 = .ok (.iload 4, 2) := by decide +kernel
theorem dX1_fillAhead_23 : decode cX1_fillAhead 23 = .ok (.invokevirtual 94, 3) := by decide +kernel
theorem dX1_fillAhead_26 : decode cX1_fillAhead 26 = .ok (.if_icmp .ge 67, 3) := by decide +kernel
theorem dX1_fillAhead_29 : decode cX1_fillAhead 29 = .ok (.aload_n 1, 1) := by decide +kernel
theorem dX1_fillAhead_30 : decode cX1_fillAhead 30 = .ok (.iload 4, 2) := by decide +kernel
theorem dX1_fillAhead_32 : decode cX1_fillAhead 32 = .ok (.aload_n 0, 1) := by decide +kernel
theorem dX1_fillAhead_33 : decode cX1_fillAhead 33 = .ok (.getfield 31, 3) := by decide +kernel
theorem dX1_fillAhead_36 : decode cX1_fillAhead 36 = .ok (.iload 4, 2) := by decide +kernel
theorem dX1_fillAhead_38 : decode cX1_fillAhead 38 = .ok (.iload 5, 2) := by decide +kernel
theorem dX1_fillAhead_40 : decode cX1_fillAhead 40 = .ok (.invokestatic 106, 3) := by decide +kernel
theorem dX1_fillAhead_43 : decode cX1_fillAhead 43 = .ok (.iload_n 2, 1) := by decide +kernel
theorem dX1_fillAhead_44 : decode cX1_fillAhead 44 = .ok (.invokevirtual 109, 3) := by decide +kernel
theorem dX1_fillAhead_47 : decode cX1_fillAhead 47 = .ok (.istore 6, 2) := by decide +kernel
theorem dX1_fillAhead_49 : decode cX1_fillAhead 49 = .ok (.iload 4, 2) := by decide +kernel
theorem dX1_fillAhead_51 : decode cX1_fillAhead 51 = .ok (.ifCond .ne 7, 3) := by decide +kernel
theorem dX1_fillAhead_54 : decode cX1_fillAhead 54 = .ok (.iconst 0, 1) := by decide +kernel
theorem dX1_fillAhead_55 : decode cX1_fillAhead 55 = .ok (.goto 12, 3) := by decide +kernel
theorem dX1_fillAhead_58 : decode cX1_fillAhead 58 = .ok (.aload_n 0, 1) := by decide +kernel
theorem dX1_fillAhead_59 : decode cX1_fillAhead 59 = .ok (.iload 4, 2) := by decide +kernel
theorem dX1_fillAhead_61 : decode cX1_fillAhead 61 = .ok (.iload 5, 2) := by decide +kernel
theorem dX1_fillAhead_63 : decode cX1_fillAhead 63 = .ok (.aload_n 3, 1) := by decide +kernel
theorem dX1_fillAhead_64 : decode cX1_fillAhead 64 = .ok (.invokevirtual 124, 3) := by decide +kernel
theorem dX1_fillAhead_67 : decode cX1_fillAhead 67 = .ok (.istore 7, 2) := by decide +kernel
theorem dX1_fillAhead_69 : decode cX1_fillAhead 69 = .ok (.aload_n 3, 1) := by decide +kernel
theorem dX1_fillAhead_70 : decode cX1_fillAhead 70 = .ok (.iload 4, 2) := by decide +kernel
theorem dX1_fillAhead_72 : decode cX1_fillAhead 72 = .ok (.iload 5, 2) := by decide +kernel
theorem dX1_fillAhead_74 : decode cX1_fillAhead 74 = .ok (.invokestatic 87, 3) := by decide +kernel
theorem dX1_fillAhead_77 : decode cX1_fillAhead 77 = .ok (.iload 7, 2) := by decide +kernel
theorem dX1_fillAhead_79 : decode cX1_fillAhead 79 = .ok (.iload 6, 2) := by decide +kernel
theorem dX1_fillAhead_81 : decode cX1_fillAhead 81 = .ok (.invokestatic 128, 3) := by decide +kernel
theorem dX1_fillAhead_84 : decode cX1_fillAhead 84 = .ok (.invokevirtual 83, 3) := by decide +kernel
theorem dX1_fillAhead_87 : decode cX1_fillAhead 87 = .ok (.iinc 5 1, 3) := by decide +kernel
theorem dX1_fillAhead_90 : decode cX1_fillAhead 90 = .ok (.goto (-75), 3) := by decide +kernel
theorem dX1_fillAhead_93 : decode cX1_fillAhead 93 = .ok (.iinc 4 1, 3) := by decide +kernel
theorem dX1_fillAhead_96 : decode cX1_fillAhead 96 = .ok (.goto (-93), 3) := by decide +kernel
theorem dX1_fillAhead_99 : decode cX1_fillAhead 99 = .ok (.return_, 1) := by decide +kernel
theorem dX1_leastInto_0 : decode cX1_leastInto 0 = .ok (.iconst (-1), 1) := by decide +kernel
theorem dX1_leastInto_1 : decode cX1_leastInto 1 = .ok (.istore 4, 2) := by decide +kernel
theorem dX1_leastInto_3 : decode cX1_leastInto 3 = .ok (.iconst 0, 1) := by decide +kernel
theorem dX1_leastInto_4 : decode cX1_leastInto 4 = .ok (.istore 5, 2) := by decide +kernel
theorem dX1_leastInto_6 : decode cX1_leastInto 6 = .ok (.iload 5, 2) := by decide +kernel
theorem dX1_leastInto_8 : decode cX1_leastInto 8 = .ok (.aload_n 0, 1) := by decide +kernel
theorem dX1_leastInto_9 : decode cX1_leastInto 9 = .ok (.getfield 27, 3) := by decide +kernel
theorem dX1_leastInto_12 : decode cX1_leastInto 12 = .ok (.iload_n 1, 1) := by decide +kernel
theorem dX1_leastInto_13 : decode cX1_leastInto 13 = .ok (.iconst 1, 1) := by decide +kernel
theorem dX1_leastInto_14 : decode cX1_leastInto 14 = .ok (.isub, 1) := by decide +kernel
theorem dX1_leastInto_15 : decode cX1_leastInto 15 = .ok (.invokevirtual 94, 3) := by decide +kernel
theorem dX1_leastInto_18 : decode cX1_leastInto 18 = .ok (.if_icmp .ge 51, 3) := by decide +kernel
theorem dX1_leastInto_21 : decode cX1_leastInto 21 = .ok (.aload_n 0, 1) := by decide +kernel
theorem dX1_leastInto_22 : decode cX1_leastInto 22 = .ok (.getfield 37, 3) := by decide +kernel
theorem dX1_leastInto_25 : decode cX1_leastInto 25 = .ok (.iload_n 1, 1) := by decide +kernel
theorem dX1_leastInto_26 : decode cX1_leastInto 26 = .ok (.iconst 1, 1) := by decide +kernel
theorem dX1_leastInto_27 : decode cX1_leastInto 27 = .ok (.isub, 1) := by decide +kernel
theorem dX1_leastInto_28 : decode cX1_leastInto 28 = .ok (.iload 5, 2) := by decide +kernel
theorem dX1_leastInto_30 : decode cX1_leastInto 30 = .ok (.iload_n 2, 1) := by decide +kernel
theorem dX1_leastInto_31 : decode cX1_leastInto 31 = .ok (.invokestatic 116, 3) := by decide +kernel
theorem dX1_leastInto_34 : decode cX1_leastInto 34 = .ok (.invokevirtual 94, 3) := by decide +kernel
theorem dX1_leastInto_37 : decode cX1_leastInto 37 = .ok (.istore 6, 2) := by decide +kernel
theorem dX1_leastInto_39 : decode cX1_leastInto 39 = .ok (.iload 4, 2) := by decide +kernel
theorem dX1_leastInto_41 : decode cX1_leastInto 41 = .ok (.aload_n 3, 1) := by decide +kernel
theorem dX1_leastInto_42 : decode cX1_leastInto 42 = .ok (.iload_n 1, 1) := by decide +kernel
theorem dX1_leastInto_43 : decode cX1_leastInto 43 = .ok (.iconst 1, 1) := by decide +kernel
theorem dX1_leastInto_44 : decode cX1_leastInto 44 = .ok (.isub, 1) := by decide +kernel
theorem dX1_leastInto_45 : decode cX1_leastInto 45 = .ok (.iload 5, 2) := by decide +kernel
theorem dX1_leastInto_47 : decode cX1_leastInto 47 = .ok (.invokestatic 87, 3) := by decide +kernel
theorem dX1_leastInto_50 : decode cX1_leastInto 50 = .ok (.invokevirtual 94, 3) := by decide +kernel
theorem dX1_leastInto_53 : decode cX1_leastInto 53 = .ok (.iload 6, 2) := by decide +kernel
theorem dX1_leastInto_55 : decode cX1_leastInto 55 = .ok (.invokestatic 128, 3) := by decide +kernel
theorem dX1_leastInto_58 : decode cX1_leastInto 58 = .ok (.invokestatic 131, 3) := by decide +kernel
theorem dX1_leastInto_61 : decode cX1_leastInto 61 = .ok (.istore 4, 2) := by decide +kernel
theorem dX1_leastInto_63 : decode cX1_leastInto 63 = .ok (.iinc 5 1, 3) := by decide +kernel
theorem dX1_leastInto_66 : decode cX1_leastInto 66 = .ok (.goto (-60), 3) := by decide +kernel
theorem dX1_leastInto_69 : decode cX1_leastInto 69 = .ok (.iload 4, 2) := by decide +kernel
theorem dX1_leastInto_71 : decode cX1_leastInto 71 = .ok (.ireturn, 1) := by decide +kernel
theorem dX1_fillBehind_0 : decode cX1_fillBehind 0 = .ok (.aload_n 0, 1) := by decide +kernel
theorem dX1_fillBehind_1 : decode cX1_fillBehind 1 = .ok (.getfield 15, 3) := by decide +kernel
theorem dX1_fillBehind_4 : decode cX1_fillBehind 4 = .ok (.iconst 1, 1) := by decide +kernel
theorem dX1_fillBehind_5 : decode cX1_fillBehind 5 = .ok (.isub, 1) := by decide +kernel
theorem dX1_fillBehind_6 : decode cX1_fillBehind 6 = .ok (.istore_n 1, 1) := by decide +kernel
theorem dX1_fillBehind_7 : decode cX1_fillBehind 7 = .ok (.iload_n 1, 1) := by decide +kernel
theorem dX1_fillBehind_8 : decode cX1_fillBehind 8 = .ok (.ifCond .lt 63, 3) := by decide +kernel
theorem dX1_fillBehind_11 : decode cX1_fillBehind 11 = .ok (.iconst 0, 1) := by decide +kernel
theorem dX1_fillBehind_12 : decode cX1_fillBehind 12 = .ok (.istore_n 2, 1) := by decide +kernel
theorem dX1_fillBehind_13 : decode cX1_fillBehind 13 = .ok (.iload_n 2, 1) := by decide +kernel
theorem dX1_fillBehind_14 : decode cX1_fillBehind 14 = .ok (.aload_n 0, 1) := by decide +kernel
theorem dX1_fillBehind_15 : decode cX1_fillBehind 15 = .ok (.getfield 27, 3) := by decide +kernel
theorem dX1_fillBehind_18 : decode cX1_fillBehind 18 = .ok (.iload_n 1, 1) := by decide +kernel
theorem dX1_fillBehind_19 : decode cX1_fillBehind 19 = .ok (.invokevirtual 94, 3) := by decide +kernel
theorem dX1_fillBehind_22 : decode cX1_fillBehind 22 = .ok (.if_icmp .ge 43, 3) := by decide +kernel
theorem dX1_fillBehind_25 : decode cX1_fillBehind 25 = .ok (.iload_n 1, 1) := by decide +kernel
theorem dX1_fillBehind_26 : decode cX1_fillBehind 26 = .ok (.aload_n 0, 1) := by decide +kernel
theorem dX1_fillBehind_27 : decode cX1_fillBehind 27 = .ok (.getfield 15, 3) := by decide +kernel
theorem dX1_fillBehind_30 : decode cX1_fillBehind 30 = .ok (.iconst 1, 1) := by decide +kernel
theorem dX1_fillBehind_31 : decode cX1_fillBehind 31 = .ok (.isub, 1) := by decide +kernel
theorem dX1_fillBehind_32 : decode cX1_fillBehind 32 = .ok (.if_icmp .ne 7, 3) := by decide +kernel
theorem dX1_fillBehind_35 : decode cX1_fillBehind 35 = .ok (.iconst 0, 1) := by decide +kernel
theorem dX1_fillBehind_36 : decode cX1_fillBehind 36 = .ok (.goto 9, 3) := by decide +kernel
theorem dX1_fillBehind_39 : decode cX1_fillBehind 39 = .ok (.aload_n 0, 1) := by decide +kernel
theorem dX1_fillBehind_40 : decode cX1_fillBehind 40 = .ok (.iload_n 1, 1) := by decide +kernel
theorem dX1_fillBehind_41 : decode cX1_fillBehind 41 = .ok (.iload_n 2, 1) := by decide +kernel
theorem dX1_fillBehind_42 : decode cX1_fillBehind 42 = .ok (.invokevirtual 134, 3) := by decide +kernel
theorem dX1_fillBehind_45 : decode cX1_fillBehind 45 = .ok (.istore_n 3, 1) := by decide +kernel
theorem dX1_fillBehind_46 : decode cX1_fillBehind 46 = .ok (.aload_n 0, 1) := by decide +kernel
theorem dX1_fillBehind_47 : decode cX1_fillBehind 47 = .ok (.getfield 43, 3) := by decide +kernel
theorem dX1_fillBehind_50 : decode cX1_fillBehind 50 = .ok (.iload_n 1, 1) := by decide +kernel
theorem dX1_fillBehind_51 : decode cX1_fillBehind 51 = .ok (.iload_n 2, 1) := by decide +kernel
theorem dX1_fillBehind_52 : decode cX1_fillBehind 52 = .ok (.invokestatic 87, 3) := by decide +kernel
theorem dX1_fillBehind_55 : decode cX1_fillBehind 55 = .ok (.iload_n 3, 1) := by decide +kernel
theorem dX1_fillBehind_56 : decode cX1_fillBehind 56 = .ok (.invokevirtual 83, 3) := by decide +kernel
theorem dX1_fillBehind_59 : decode cX1_fillBehind 59 = .ok (.iinc 2 1, 3) := by decide +kernel
theorem dX1_fillBehind_62 : decode cX1_fillBehind 62 = .ok (.goto (-49), 3) := by decide +kernel
theorem dX1_fillBehind_65 : decode cX1_fillBehind 65 = .ok (.iinc 1 (-1), 3) := by decide +kernel
theorem dX1_fillBehind_68 : decode cX1_fillBehind 68 = .ok (.goto (-61), 3) := by decide +kernel
theorem dX1_fillBehind_71 : decode cX1_fillBehind 71 = .ok (.return_, 1) := by decide +kernel
theorem dX1_leastOutOf_0 : decode cX1_leastOutOf 0 = .ok (.iconst (-1), 1) := by decide +kernel
theorem dX1_leastOutOf_1 : decode cX1_leastOutOf 1 = .ok (.istore_n 3, 1) := by decide +kernel
theorem dX1_leastOutOf_2 : decode cX1_leastOutOf 2 = .ok (.iconst 0, 1) := by decide +kernel
theorem dX1_leastOutOf_3 : decode cX1_leastOutOf 3 = .ok (.istore 4, 2) := by decide +kernel
theorem dX1_leastOutOf_5 : decode cX1_leastOutOf 5 = .ok (.iload 4, 2) := by decide +kernel
theorem dX1_leastOutOf_7 : decode cX1_leastOutOf 7 = .ok (.aload_n 0, 1) := by decide +kernel
theorem dX1_leastOutOf_8 : decode cX1_leastOutOf 8 = .ok (.getfield 27, 3) := by decide +kernel
theorem dX1_leastOutOf_11 : decode cX1_leastOutOf 11 = .ok (.iload_n 1, 1) := by decide +kernel
theorem dX1_leastOutOf_12 : decode cX1_leastOutOf 12 = .ok (.iconst 1, 1) := by decide +kernel
theorem dX1_leastOutOf_13 : decode cX1_leastOutOf 13 = .ok (.iadd, 1) := by decide +kernel
theorem dX1_leastOutOf_14 : decode cX1_leastOutOf 14 = .ok (.invokevirtual 94, 3) := by decide +kernel
theorem dX1_leastOutOf_17 : decode cX1_leastOutOf 17 = .ok (.if_icmp .ge 22, 3) := by decide +kernel
theorem dX1_leastOutOf_20 : decode cX1_leastOutOf 20 = .ok (.iload_n 3, 1) := by decide +kernel
theorem dX1_leastOutOf_21 : decode cX1_leastOutOf 21 = .ok (.aload_n 0, 1) := by decide +kernel
theorem dX1_leastOutOf_22 : decode cX1_leastOutOf 22 = .ok (.iload_n 1, 1) := by decide +kernel
theorem dX1_leastOutOf_23 : decode cX1_leastOutOf 23 = .ok (.iload_n 2, 1) := by decide +kernel
theorem dX1_leastOutOf_24 : decode cX1_leastOutOf 24 = .ok (.iload 4, 2) := by decide +kernel
theorem dX1_leastOutOf_26 : decode cX1_leastOutOf 26 = .ok (.invokevirtual 137, 3) := by decide +kernel
theorem dX1_leastOutOf_29 : decode cX1_leastOutOf 29 = .ok (.invokestatic 131, 3) := by decide +kernel
theorem dX1_leastOutOf_32 : decode cX1_leastOutOf 32 = .ok (.istore_n 3, 1) := by decide +kernel
theorem dX1_leastOutOf_33 : decode cX1_leastOutOf 33 = .ok (.iinc 4 1, 3) := by decide +kernel
theorem dX1_leastOutOf_36 : decode cX1_leastOutOf 36 = .ok (.goto (-31), 3) := by decide +kernel
theorem dX1_leastOutOf_39 : decode cX1_leastOutOf 39 = .ok (.iload_n 3, 1) := by decide +kernel
theorem dX1_leastOutOf_40 : decode cX1_leastOutOf 40 = .ok (.ireturn, 1) := by decide +kernel
theorem dX1_costOnward_0 : decode cX1_costOnward 0 = .ok (.aload_n 0, 1) := by decide +kernel
theorem dX1_costOnward_1 : decode cX1_costOnward 1 = .ok (.getfield 37, 3) := by decide +kernel
theorem dX1_costOnward_4 : decode cX1_costOnward 4 = .ok (.iload_n 1, 1) := by decide +kernel
theorem dX1_costOnward_5 : decode cX1_costOnward 5 = .ok (.iload_n 2, 1) := by decide +kernel
theorem dX1_costOnward_6 : decode cX1_costOnward 6 = .ok (.iload_n 3, 1) := by decide +kernel
theorem dX1_costOnward_7 : decode cX1_costOnward 7 = .ok (.invokestatic 116, 3) := by decide +kernel
theorem dX1_costOnward_10 : decode cX1_costOnward 10 = .ok (.invokevirtual 94, 3) := by decide +kernel
theorem dX1_costOnward_13 : decode cX1_costOnward 13 = .ok (.aload_n 0, 1) := by decide +kernel
theorem dX1_costOnward_14 : decode cX1_costOnward 14 = .ok (.iload_n 1, 1) := by decide +kernel
theorem dX1_costOnward_15 : decode cX1_costOnward 15 = .ok (.iconst 1, 1) := by decide +kernel
theorem dX1_costOnward_16 : decode cX1_costOnward 16 = .ok (.iadd, 1) := by decide +kernel
theorem dX1_costOnward_17 : decode cX1_costOnward 17 = .ok (.iload_n 3, 1) := by decide +kernel
theorem dX1_costOnward_18 : decode cX1_costOnward 18 = .ok (.invokevirtual 140, 3) := by decide +kernel
theorem dX1_costOnward_21 : decode cX1_costOnward 21 = .ok (.invokestatic 128, 3) := by decide +kernel
theorem dX1_costOnward_24 : decode cX1_costOnward 24 = .ok (.ireturn, 1) := by decide +kernel
theorem dX1_costFrom_0 : decode cX1_costFrom 0 = .ok (.iload_n 1, 1) := by decide +kernel
theorem dX1_costFrom_1 : decode cX1_costFrom 1 = .ok (.iload_n 2, 1) := by decide +kernel
theorem dX1_costFrom_2 : decode cX1_costFrom 2 = .ok (.invokestatic 87, 3) := by decide +kernel
theorem dX1_costFrom_5 : decode cX1_costFrom 5 = .ok (.istore_n 3, 1) := by decide +kernel
theorem dX1_costFrom_6 : decode cX1_costFrom 6 = .ok (.aload_n 0, 1) := by decide +kernel
theorem dX1_costFrom_7 : decode cX1_costFrom 7 = .ok (.getfield 34, 3) := by decide +kernel
theorem dX1_costFrom_10 : decode cX1_costFrom 10 = .ok (.iload_n 3, 1) := by decide +kernel
theorem dX1_costFrom_11 : decode cX1_costFrom 11 = .ok (.invokevirtual 94, 3) := by decide +kernel
theorem dX1_costFrom_14 : decode cX1_costFrom 14 = .ok (.aload_n 0, 1) := by decide +kernel
theorem dX1_costFrom_15 : decode cX1_costFrom 15 = .ok (.getfield 43, 3) := by decide +kernel
theorem dX1_costFrom_18 : decode cX1_costFrom 18 = .ok (.iload_n 3, 1) := by decide +kernel
theorem dX1_costFrom_19 : decode cX1_costFrom 19 = .ok (.invokevirtual 94, 3) := by decide +kernel
theorem dX1_costFrom_22 : decode cX1_costFrom 22 = .ok (.invokestatic 128, 3) := by decide +kernel
theorem dX1_costFrom_25 : decode cX1_costFrom 25 = .ok (.ireturn, 1) := by decide +kernel
theorem dX1_costThrough_0 : decode cX1_costThrough 0 = .ok (.iload_n 1, 1) := by decide +kernel
theorem dX1_costThrough_1 : decode cX1_costThrough 1 = .ok (.iload_n 2, 1) := by decide +kernel
theorem dX1_costThrough_2 : decode cX1_costThrough 2 = .ok (.invokestatic 87, 3) := by decide +kernel
theorem dX1_costThrough_5 : decode cX1_costThrough 5 = .ok (.istore_n 3, 1) := by decide +kernel
theorem dX1_costThrough_6 : decode cX1_costThrough 6 = .ok (.aload_n 0, 1) := by decide +kernel
theorem dX1_costThrough_7 : decode cX1_costThrough 7 = .ok (.getfield 40, 3) := by decide +kernel
theorem dX1_costThrough_10 : decode cX1_costThrough 10 = .ok (.iload_n 3, 1) := by decide +kernel
theorem dX1_costThrough_11 : decode cX1_costThrough 11 = .ok (.invokevirtual 94, 3) := by decide +kernel
theorem dX1_costThrough_14 : decode cX1_costThrough 14 = .ok (.aload_n 0, 1) := by decide +kernel
theorem dX1_costThrough_15 : decode cX1_costThrough 15 = .ok (.getfield 43, 3) := by decide +kernel
theorem dX1_costThrough_18 : decode cX1_costThrough 18 = .ok (.iload_n 3, 1) := by decide +kernel
theorem dX1_costThrough_19 : decode cX1_costThrough 19 = .ok (.invokevirtual 94, 3) := by decide +kernel
theorem dX1_costThrough_22 : decode cX1_costThrough 22 = .ok (.invokestatic 128, 3) := by decide +kernel
theorem dX1_costThrough_25 : decode cX1_costThrough 25 = .ok (.ireturn, 1) := by decide +kernel
theorem dX1_leastAtEnd_0 : decode cX1_leastAtEnd 0 = .ok (.aload_n 0, 1) := by decide +kernel
theorem dX1_leastAtEnd_1 : decode cX1_leastAtEnd 1 = .ok (.getfield 15, 3) := by decide +kernel
theorem dX1_leastAtEnd_4 : decode cX1_leastAtEnd 4 = .ok (.ifCond .ne 7, 3) := by decide +kernel
theorem dX1_leastAtEnd_7 : decode cX1_leastAtEnd 7 = .ok (.iconst 0, 1) := by decide +kernel
theorem dX1_leastAtEnd_8 : decode cX1_leastAtEnd 8 = .ok (.goto 4, 3) := by decide +kernel
theorem dX1_leastAtEnd_11 : decode cX1_leastAtEnd 11 = .ok (.iconst (-1), 1) := by decide +kernel
theorem dX1_leastAtEnd_12 : decode cX1_leastAtEnd 12 = .ok (.istore_n 2, 1) := by decide +kernel
theorem dX1_leastAtEnd_13 : decode cX1_leastAtEnd 13 = .ok (.iconst 0, 1) := by decide +kernel
theorem dX1_leastAtEnd_14 : decode cX1_leastAtEnd 14 = .ok (.istore_n 3, 1) := by decide +kernel
theorem dX1_leastAtEnd_15 : decode cX1_leastAtEnd 15 = .ok (.iload_n 3, 1) := by decide +kernel
theorem dX1_leastAtEnd_16 : decode cX1_leastAtEnd 16 = .ok (.aload_n 0, 1) := by decide +kernel
theorem dX1_leastAtEnd_17 : decode cX1_leastAtEnd 17 = .ok (.getfield 27, 3) := by decide +kernel
theorem dX1_leastAtEnd_20 : decode cX1_leastAtEnd 20 = .ok (.aload_n 0, 1) := by decide +kernel
theorem dX1_leastAtEnd_21 : decode cX1_leastAtEnd 21 = .ok (.getfield 15, 3) := by decide +kernel
theorem dX1_leastAtEnd_24 : decode cX1_leastAtEnd 24 = .ok (.iconst 1, 1) := by decide +kernel
theorem dX1_leastAtEnd_25 : decode cX1_leastAtEnd 25 = .ok (.isub, 1) := by decide +kernel
theorem dX1_leastAtEnd_26 : decode cX1_leastAtEnd 26 = .ok (.invokevirtual 94, 3) := by decide +kernel
theorem dX1_leastAtEnd_29 : decode cX1_leastAtEnd 29 = .ok (.if_icmp .ge 28, 3) := by decide +kernel
theorem dX1_leastAtEnd_32 : decode cX1_leastAtEnd 32 = .ok (.iload_n 2, 1) := by decide +kernel
theorem dX1_leastAtEnd_33 : decode cX1_leastAtEnd 33 = .ok (.aload_n 1, 1) := by decide +kernel
theorem dX1_leastAtEnd_34 : decode cX1_leastAtEnd 34 = .ok (.aload_n 0, 1) := by decide +kernel
theorem dX1_leastAtEnd_35 : decode cX1_leastAtEnd 35 = .ok (.getfield 15, 3) := by decide +kernel
theorem dX1_leastAtEnd_38 : decode cX1_leastAtEnd 38 = .ok (.iconst 1, 1) := by decide +kernel
theorem dX1_leastAtEnd_39 : decode cX1_leastAtEnd 39 = .ok (.isub, 1) := by decide +kernel
theorem dX1_leastAtEnd_40 : decode cX1_leastAtEnd 40 = .ok (.iload_n 3, 1) := by decide +kernel
theorem dX1_leastAtEnd_41 : decode cX1_leastAtEnd 41 = .ok (.invokestatic 87, 3) := by decide +kernel
theorem dX1_leastAtEnd_44 : decode cX1_leastAtEnd 44 = .ok (.invokevirtual 94, 3) := by decide +kernel
theorem dX1_leastAtEnd_47 : decode cX1_leastAtEnd 47 = .ok (.invokestatic 131, 3) := by decide +kernel
theorem dX1_leastAtEnd_50 : decode cX1_leastAtEnd 50 = .ok (.istore_n 2, 1) := by decide +kernel
theorem dX1_leastAtEnd_51 : decode cX1_leastAtEnd 51 = .ok (.iinc 3 1, 3) := by decide +kernel
theorem dX1_leastAtEnd_54 : decode cX1_leastAtEnd 54 = .ok (.goto (-39), 3) := by decide +kernel
theorem dX1_leastAtEnd_57 : decode cX1_leastAtEnd 57 = .ok (.iload_n 2, 1) := by decide +kernel
theorem dX1_leastAtEnd_58 : decode cX1_leastAtEnd 58 = .ok (.ireturn, 1) := by decide +kernel
theorem dX1_findFirst_0 : decode cX1_findFirst 0 = .ok (.aload_n 0, 1) := by decide +kernel
theorem dX1_findFirst_1 : decode cX1_findFirst 1 = .ok (.getfield 19, 3) := by decide +kernel
theorem dX1_findFirst_4 : decode cX1_findFirst 4 = .ok (.iconst (-1), 1) := by decide +kernel
theorem dX1_findFirst_5 : decode cX1_findFirst 5 = .ok (.if_icmp .ne 4, 3) := by decide +kernel
theorem dX1_findFirst_8 : decode cX1_findFirst 8 = .ok (.return_, 1) := by decide +kernel
theorem dX1_findFirst_9 : decode cX1_findFirst 9 = .ok (.aload_n 0, 1) := by decide +kernel
theorem dX1_findFirst_10 : decode cX1_findFirst 10 = .ok (.getfield 19, 3) := by decide +kernel
theorem dX1_findFirst_13 : decode cX1_findFirst 13 = .ok (.istore_n 1, 1) := by decide +kernel
theorem dX1_findFirst_14 : decode cX1_findFirst 14 = .ok (.iconst 0, 1) := by decide +kernel
theorem dX1_findFirst_15 : decode cX1_findFirst 15 = .ok (.istore_n 2, 1) := by decide +kernel
theorem dX1_findFirst_16 : decode cX1_findFirst 16 = .ok (.iload_n 2, 1) := by decide +kernel
theorem dX1_findFirst_17 : decode cX1_findFirst 17 = .ok (.aload_n 0, 1) := by decide +kernel
theorem dX1_findFirst_18 : decode cX1_findFirst 18 = .ok (.getfield 15, 3) := by decide +kernel
theorem dX1_findFirst_21 : decode cX1_findFirst 21 = .ok (.if_icmp .ge 38, 3) := by decide +kernel
theorem dX1_findFirst_24 : decode cX1_findFirst 24 = .ok (.aload_n 0, 1) := by decide +kernel
theorem dX1_findFirst_25 : decode cX1_findFirst 25 = .ok (.iload_n 2, 1) := by decide +kernel
theorem dX1_findFirst_26 : decode cX1_findFirst 26 = .ok (.iload_n 1, 1) := by decide +kernel
theorem dX1_findFirst_27 : decode cX1_findFirst 27 = .ok (.invokevirtual 143, 3) := by decide +kernel
theorem dX1_findFirst_30 : decode cX1_findFirst 30 = .ok (.istore_n 3, 1) := by decide +kernel
theorem dX1_findFirst_31 : decode cX1_findFirst 31 = .ok (.aload_n 0, 1) := by decide +kernel
theorem dX1_findFirst_32 : decode cX1_findFirst 32 = .ok (.getfield 46, 3) := by decide +kernel
theorem dX1_findFirst_35 : decode cX1_findFirst 35 = .ok (.iload_n 2, 1) := by decide +kernel
theorem dX1_findFirst_36 : decode cX1_findFirst 36 = .ok (.iload_n 3, 1) := by decide +kernel
theorem dX1_findFirst_37 : decode cX1_findFirst 37 = .ok (.invokevirtual 83, 3) := by decide +kernel
theorem dX1_findFirst_40 : decode cX1_findFirst 40 = .ok (.aload_n 0, 1) := by decide +kernel
theorem dX1_findFirst_41 : decode cX1_findFirst 41 = .ok (.getfield 43, 3) := by decide +kernel
theorem dX1_findFirst_44 : decode cX1_findFirst 44 = .ok (.iload_n 2, 1) := by decide +kernel
theorem dX1_findFirst_45 : decode cX1_findFirst 45 = .ok (.iload_n 3, 1) := by decide +kernel
theorem dX1_findFirst_46 : decode cX1_findFirst 46 = .ok (.invokestatic 87, 3) := by decide +kernel
theorem dX1_findFirst_49 : decode cX1_findFirst 49 = .ok (.invokevirtual 94, 3) := by decide +kernel
theorem dX1_findFirst_52 : decode cX1_findFirst 52 = .ok (.istore_n 1, 1) := by decide +kernel
theorem dX1_findFirst_53 : decode cX1_findFirst 53 = .ok (.iinc 2 1, 3) := by decide +kernel
theorem dX1_findFirst_56 : decode cX1_findFirst 56 = .ok (.goto (-40), 3) := by decide +kernel
theorem dX1_findFirst_59 : decode cX1_findFirst 59 = .ok (.return_, 1) := by decide +kernel
theorem dX1_firstChoice_0 : decode cX1_firstChoice 0 = .ok (.iconst 0, 1) := by decide +kernel
theorem dX1_firstChoice_1 : decode cX1_firstChoice 1 = .ok (.istore_n 3, 1) := by decide +kernel
theorem dX1_firstChoice_2 : decode cX1_firstChoice 2 = .ok (.iload_n 3, 1) := by decide +kernel
theorem dX1_firstChoice_3 : decode cX1_firstChoice 3 = .ok (.aload_n 0, 1) := by decide +kernel
theorem dX1_firstChoice_4 : decode cX1_firstChoice 4 = .ok (.getfield 27, 3) := by decide +kernel
theorem dX1_firstChoice_7 : decode cX1_firstChoice 7 = .ok (.iload_n 1, 1) := by decide +kernel
theorem dX1_firstChoice_8 : decode cX1_firstChoice 8 = .ok (.invokevirtual 94, 3) := by decide +kernel
theorem dX1_firstChoice_11 : decode cX1_firstChoice 11 = .ok (.if_icmp .ge 50, 3) := by decide +kernel
theorem dX1_firstChoice_14 : decode cX1_firstChoice 14 = .ok (.iload_n 1, 1) := by decide +kernel
theorem dX1_firstChoice_15 : decode cX1_firstChoice 15 = .ok (.ifCond .ne 12, 3) := by decide +kernel
theorem dX1_firstChoice_18 : decode cX1_firstChoice 18 = .ok (.aload_n 0, 1) := by decide +kernel
theorem dX1_firstChoice_19 : decode cX1_firstChoice 19 = .ok (.iload_n 1, 1) := by decide +kernel
theorem dX1_firstChoice_20 : decode cX1_firstChoice 20 = .ok (.iload_n 3, 1) := by decide +kernel
theorem dX1_firstChoice_21 : decode cX1_firstChoice 21 = .ok (.invokevirtual 140, 3) := by decide +kernel
theorem dX1_firstChoice_24 : decode cX1_firstChoice 24 = .ok (.goto 21, 3) := by decide +kernel
theorem dX1_firstChoice_27 : decode cX1_firstChoice 27 = .ok (.aload_n 0, 1) := by decide +kernel
theorem dX1_firstChoice_28 : decode cX1_firstChoice 28 = .ok (.iload_n 1, 1) := by decide +kernel
theorem dX1_firstChoice_29 : decode cX1_firstChoice 29 = .ok (.iconst 1, 1) := by decide +kernel
theorem dX1_firstChoice_30 : decode cX1_firstChoice 30 = .ok (.isub, 1) := by decide +kernel
theorem dX1_firstChoice_31 : decode cX1_firstChoice 31 = .ok (.aload_n 0, 1) := by decide +kernel
theorem dX1_firstChoice_32 : decode cX1_firstChoice 32 = .ok (.getfield 46, 3) := by decide +kernel
theorem dX1_firstChoice_35 : decode cX1_firstChoice 35 = .ok (.iload_n 1, 1) := by decide +kernel
theorem dX1_firstChoice_36 : decode cX1_firstChoice 36 = .ok (.iconst 1, 1) := by decide +kernel
theorem dX1_firstChoice_37 : decode cX1_firstChoice 37 = .ok (.isub, 1) := by decide +kernel
theorem dX1_firstChoice_38 : decode cX1_firstChoice 38 = .ok (.invokevirtual 94, 3) := by decide +kernel
theorem dX1_firstChoice_41 : decode cX1_firstChoice 41 = .ok (.iload_n 3, 1) := by decide +kernel
theorem dX1_firstChoice_42 : decode cX1_firstChoice 42 = .ok (.invokevirtual 137, 3) := by decide +kernel
theorem dX1_firstChoice_45 : decode cX1_firstChoice 45 = .ok (.istore 4, 2) := by decide +kernel
theorem dX1_firstChoice_47 : decode cX1_firstChoice 47 = .ok (.iload 4, 2) := by decide +kernel
theorem dX1_firstChoice_49 : decode cX1_firstChoice 49 = .ok (.iload_n 2, 1) := by decide +kernel
theorem dX1_firstChoice_50 : decode cX1_firstChoice 50 = .ok (.if_icmp .ne 5, 3) := by decide +kernel
theorem dX1_firstChoice_53 : decode cX1_firstChoice 53 = .ok (.iload_n 3, 1) := by decide +kernel
theorem dX1_firstChoice_54 : decode cX1_firstChoice 54 = .ok (.ireturn, 1) := by decide +kernel
theorem dX1_firstChoice_55 : decode cX1_firstChoice 55 = .ok (.iinc 3 1, 3) := by decide +kernel
theorem dX1_firstChoice_58 : decode cX1_firstChoice 58 = .ok (.goto (-56), 3) := by decide +kernel
theorem dX1_firstChoice_61 : decode cX1_firstChoice 61 = .ok (.iconst 0, 1) := by decide +kernel
theorem dX1_firstChoice_62 : decode cX1_firstChoice 62 = .ok (.ireturn, 1) := by decide +kernel
theorem dX1_firstFinger_0 : decode cX1_firstFinger 0 = .ok (.aload_n 0, 1) := by decide +kernel
theorem dX1_firstFinger_1 : decode cX1_firstFinger 1 = .ok (.getfield 31, 3) := by decide +kernel
theorem dX1_firstFinger_4 : decode cX1_firstFinger 4 = .ok (.iload_n 1, 1) := by decide +kernel
theorem dX1_firstFinger_5 : decode cX1_firstFinger 5 = .ok (.aload_n 0, 1) := by decide +kernel
theorem dX1_firstFinger_6 : decode cX1_firstFinger 6 = .ok (.getfield 46, 3) := by decide +kernel
theorem dX1_firstFinger_9 : decode cX1_firstFinger 9 = .ok (.iload_n 1, 1) := by decide +kernel
theorem dX1_firstFinger_10 : decode cX1_firstFinger 10 = .ok (.invokevirtual 94, 3) := by decide +kernel
theorem dX1_firstFinger_13 : decode cX1_firstFinger 13 = .ok (.invokestatic 106, 3) := by decide +kernel
theorem dX1_firstFinger_16 : decode cX1_firstFinger 16 = .ok (.iload_n 2, 1) := by decide +kernel
theorem dX1_firstFinger_17 : decode cX1_firstFinger 17 = .ok (.iadd, 1) := by decide +kernel
theorem dX1_firstFinger_18 : decode cX1_firstFinger 18 = .ok (.invokevirtual 94, 3) := by decide +kernel
theorem dX1_firstFinger_21 : decode cX1_firstFinger 21 = .ok (.ireturn, 1) := by decide +kernel
theorem dX1_firstEventCost_0 : decode cX1_firstEventCost 0 = .ok (.aload_n 0, 1) := by decide +kernel
theorem dX1_firstEventCost_1 : decode cX1_firstEventCost 1 = .ok (.getfield 34, 3) := by decide +kernel
theorem dX1_firstEventCost_4 : decode cX1_firstEventCost 4 = .ok (.iload_n 1, 1) := by decide +kernel
theorem dX1_firstEventCost_5 : decode cX1_firstEventCost 5 = .ok (.aload_n 0, 1) := by decide +kernel
theorem dX1_firstEventCost_6 : decode cX1_firstEventCost 6 = .ok (.getfield 46, 3) := by decide +kernel
theorem dX1_firstEventCost_9 : decode cX1_firstEventCost 9 = .ok (.iload_n 1, 1) := by decide +kernel
theorem dX1_firstEventCost_10 : decode cX1_firstEventCost 10 = .ok (.invokevirtual 94, 3) := by decide +kernel
theorem dX1_firstEventCost_13 : decode cX1_firstEventCost 13 = .ok (.invokestatic 87, 3) := by decide +kernel
theorem dX1_firstEventCost_16 : decode cX1_firstEventCost 16 = .ok (.invokevirtual 94, 3) := by decide +kernel
theorem dX1_firstEventCost_19 : decode cX1_firstEventCost 19 = .ok (.ireturn, 1) := by decide +kernel
theorem dX1_firstPassageCost_0 : decode cX1_firstPassageCost 0 = .ok (.aload_n 0, 1) := by decide +kernel
theorem dX1_firstPassageCost_1 : decode cX1_firstPassageCost 1 = .ok (.getfield 37, 3) := by decide +kernel
theorem dX1_firstPassageCost_4 : decode cX1_firstPassageCost 4 = .ok (.iload_n 1, 1) := by decide +kernel
theorem dX1_firstPassageCost_5 : decode cX1_firstPassageCost 5 = .ok (.aload_n 0, 1) := by decide +kernel
theorem dX1_firstPassageCost_6 : decode cX1_firstPassageCost 6 = .ok (.getfield 46, 3) := by decide +kernel
theorem dX1_firstPassageCost_9 : decode cX1_firstPassageCost 9 = .ok (.iload_n 1, 1) := by decide +kernel
theorem dX1_firstPassageCost_10 : decode cX1_firstPassageCost 10 = .ok (.invokevirtual 94, 3) := by decide +kernel
theorem dX1_firstPassageCost_13 : decode cX1_firstPassageCost 13 = .ok (.aload_n 0, 1) := by decide +kernel
theorem dX1_firstPassageCost_14 : decode cX1_firstPassageCost 14 = .ok (.getfield 46, 3) := by decide +kernel
theorem dX1_firstPassageCost_17 : decode cX1_firstPassageCost 17 = .ok (.iload_n 1, 1) := by decide +kernel
theorem dX1_firstPassageCost_18 : decode cX1_firstPassageCost 18 = .ok (.iconst 1, 1) := by decide +kernel
theorem dX1_firstPassageCost_19 : decode cX1_firstPassageCost 19 = .ok (.iadd, 1) := by decide +kernel
theorem dX1_firstPassageCost_20 : decode cX1_firstPassageCost 20 = .ok (.invokevirtual 94, 3) := by decide +kernel
theorem dX1_firstPassageCost_23 : decode cX1_firstPassageCost 23 = .ok (.invokestatic 116, 3) := by decide +kernel
theorem dX1_firstPassageCost_26 : decode cX1_firstPassageCost 26 = .ok (.invokevirtual 94, 3) := by decide +kernel
theorem dX1_firstPassageCost_29 : decode cX1_firstPassageCost 29 = .ok (.ireturn, 1) := by decide +kernel
theorem dX1_firstCrossings_0 : decode cX1_firstCrossings 0 = .ok (.aload_n 1, 1) := by decide +kernel
theorem dX1_firstCrossings_1 : decode cX1_firstCrossings 1 = .ok (.iload_n 2, 1) := by decide +kernel
theorem dX1_firstCrossings_2 : decode cX1_firstCrossings 2 = .ok (.aload_n 0, 1) := by decide +kernel
theorem dX1_firstCrossings_3 : decode cX1_firstCrossings 3 = .ok (.getfield 31, 3) := by decide +kernel
theorem dX1_firstCrossings_6 : decode cX1_firstCrossings 6 = .ok (.iload_n 2, 1) := by decide +kernel
theorem dX1_firstCrossings_7 : decode cX1_firstCrossings 7 = .ok (.aload_n 0, 1) := by decide +kernel
theorem dX1_firstCrossings_8 : decode cX1_firstCrossings 8 = .ok (.getfield 46, 3) := by decide +kernel
theorem dX1_firstCrossings_11 : decode cX1_firstCrossings 11 = .ok (.iload_n 2, 1) := by decide +kernel
theorem dX1_firstCrossings_12 : decode cX1_firstCrossings 12 = .ok (.invokevirtual 94, 3) := by decide +kernel
theorem dX1_firstCrossings_15 : decode cX1_firstCrossings 15 = .ok (.invokestatic 106, 3) := by decide +kernel
theorem dX1_firstCrossings_18 : decode cX1_firstCrossings 18 = .ok (.iload_n 2, 1) := by decide +kernel
theorem dX1_firstCrossings_19 : decode cX1_firstCrossings 19 = .ok (.iconst 1, 1) := by decide +kernel
theorem dX1_firstCrossings_20 : decode cX1_firstCrossings 20 = .ok (.iadd, 1) := by decide +kernel
theorem dX1_firstCrossings_21 : decode cX1_firstCrossings 21 = .ok (.aload_n 0, 1) := by decide +kernel
theorem dX1_firstCrossings_22 : decode cX1_firstCrossings 22 = .ok (.getfield 46, 3) := by decide +kernel
theorem dX1_firstCrossings_25 : decode cX1_firstCrossings 25 = .ok (.iload_n 2, 1) := by decide +kernel
theorem dX1_firstCrossings_26 : decode cX1_firstCrossings 26 = .ok (.iconst 1, 1) := by decide +kernel
theorem dX1_firstCrossings_27 : decode cX1_firstCrossings 27 = .ok (.iadd, 1) := by decide +kernel
theorem dX1_firstCrossings_28 : decode cX1_firstCrossings 28 = .ok (.invokevirtual 94, 3) := by decide +kernel
theorem dX1_firstCrossings_31 : decode cX1_firstCrossings 31 = .ok (.invokestatic 106, 3) := by decide +kernel
theorem dX1_firstCrossings_34 : decode cX1_firstCrossings 34 = .ok (.invokevirtual 146, 3) := by decide +kernel
theorem dX1_firstCrossings_37 : decode cX1_firstCrossings 37 = .ok (.ireturn, 1) := by decide +kernel
theorem dX1_countWays_0 : decode cX1_countWays 0 = .ok (.aload_n 0, 1) := by decide +kernel
theorem dX1_countWays_1 : decode cX1_countWays 1 = .ok (.getfield 15, 3) := by decide +kernel
theorem dX1_countWays_4 : decode cX1_countWays 4 = .ok (.ifCond .ne 5, 3) := by decide +kernel
theorem dX1_countWays_7 : decode cX1_countWays 7 = .ok (.lconst 1, 1) := by decide +kernel
theorem dX1_countWays_8 : decode cX1_countWays 8 = .ok (.lreturn, 1) := by decide +kernel
theorem dX1_countWays_9 : decode cX1_countWays 9 = .ok (.iconst 0, 1) := by decide +kernel
theorem dX1_countWays_10 : decode cX1_countWays 10 = .ok (.istore_n 2, 1) := by decide +kernel
theorem dX1_countWays_11 : decode cX1_countWays 11 = .ok (.iload_n 2, 1) := by decide +kernel
theorem dX1_countWays_12 : decode cX1_countWays 12 = .ok (.aload_n 0, 1) := by decide +kernel
theorem dX1_countWays_13 : decode cX1_countWays 13 = .ok (.getfield 15, 3) := by decide +kernel
theorem dX1_countWays_16 : decode cX1_countWays 16 = .ok (.if_icmp .ge 53, 3) := by decide +kernel
theorem dX1_countWays_19 : decode cX1_countWays 19 = .ok (.iconst 0, 1) := by decide +kernel
theorem dX1_countWays_20 : decode cX1_countWays 20 = .ok (.istore_n 3, 1) := by decide +kernel
theorem dX1_countWays_21 : decode cX1_countWays 21 = .ok (.iload_n 3, 1) := by decide +kernel
theorem dX1_countWays_22 : decode cX1_countWays 22 = .ok (.aload_n 0, 1) := by decide +kernel
theorem dX1_countWays_23 : decode cX1_countWays 23 = .ok (.getfield 27, 3) := by decide +kernel
theorem dX1_countWays_26 : decode cX1_countWays 26 = .ok (.iload_n 2, 1) := by decide +kernel
theorem dX1_countWays_27 : decode cX1_countWays 27 = .ok (.invokevirtual 94, 3) := by decide +kernel
theorem dX1_countWays_30 : decode cX1_countWays 30 = .ok (.if_icmp .ge 33, 3) := by decide +kernel
theorem dX1_countWays_33 : decode cX1_countWays 33 = .ok (.aload_n 0, 1) := by decide +kernel
theorem dX1_countWays_34 : decode cX1_countWays 34 = .ok (.iload_n 2, 1) := by decide +kernel
theorem dX1_countWays_35 : decode cX1_countWays 35 = .ok (.iload_n 3, 1) := by decide +kernel
theorem dX1_countWays_36 : decode cX1_countWays 36 = .ok (.invokestatic 87, 3) := by decide +kernel
theorem dX1_countWays_39 : decode cX1_countWays 39 = .ok (.iload_n 2, 1) := by decide +kernel
theorem dX1_countWays_40 : decode cX1_countWays 40 = .ok (.ifCond .ne 7, 3) := by decide +kernel
theorem dX1_countWays_43 : decode cX1_countWays 43 = .ok (.lconst 1, 1) := by decide +kernel
theorem dX1_countWays_44 : decode cX1_countWays 44 = .ok (.goto 10, 3) := by decide +kernel
theorem dX1_countWays_47 : decode cX1_countWays 47 = .ok (.aload_n 0, 1) := by decide +kernel
theorem dX1_countWays_48 : decode cX1_countWays 48 = .ok (.iload_n 2, 1) := by decide +kernel
theorem dX1_countWays_49 : decode cX1_countWays 49 = .ok (.iload_n 3, 1) := by decide +kernel
theorem dX1_countWays_50 : decode cX1_countWays 50 = .ok (.iload_n 1, 1) := by decide +kernel
theorem dX1_countWays_51 : decode cX1_countWays 51 = .ok (.invokevirtual 149, 3) := by decide +kernel
theorem dX1_countWays_54 : decode cX1_countWays 54 = .ok (.invokevirtual 153, 3) := by decide +kernel
theorem dX1_countWays_57 : decode cX1_countWays 57 = .ok (.iinc 3 1, 3) := by decide +kernel
theorem dX1_countWays_60 : decode cX1_countWays 60 = .ok (.goto (-39), 3) := by decide +kernel
theorem dX1_countWays_63 : decode cX1_countWays 63 = .ok (.iinc 2 1, 3) := by decide +kernel
theorem dX1_countWays_66 : decode cX1_countWays 66 = .ok (.goto (-55), 3) := by decide +kernel
theorem dX1_countWays_69 : decode cX1_countWays 69 = .ok (.lconst 0, 1) := by decide +kernel
theorem dX1_countWays_70 : decode cX1_countWays 70 = .ok (.lstore_n 2, 1) := by decide +kernel
theorem dX1_countWays_71 : decode cX1_countWays 71 = .ok (.iconst 0, 1) := by decide +kernel
theorem dX1_countWays_72 : decode cX1_countWays 72 = .ok (.istore 4, 2) := by decide +kernel
theorem dX1_countWays_74 : decode cX1_countWays 74 = .ok (.iload 4, 2) := by decide +kernel
theorem dX1_countWays_76 : decode cX1_countWays 76 = .ok (.aload_n 0, 1) := by decide +kernel
theorem dX1_countWays_77 : decode cX1_countWays 77 = .ok (.getfield 27, 3) := by decide +kernel
theorem dX1_countWays_80 : decode cX1_countWays 80 = .ok (.aload_n 0, 1) := by decide +kernel
theorem dX1_countWays_81 : decode cX1_countWays 81 = .ok (.getfield 15, 3) := by decide +kernel
theorem dX1_countWays_84 : decode cX1_countWays 84 = .ok (.iconst 1, 1) := by decide +kernel
theorem dX1_countWays_85 : decode cX1_countWays 85 = .ok (.isub, 1) := by decide +kernel
theorem dX1_countWays_86 : decode cX1_countWays 86 = .ok (.invokevirtual 94, 3) := by decide +kernel
theorem dX1_countWays_89 : decode cX1_countWays 89 = .ok (.if_icmp .ge 51, 3) := by decide +kernel
theorem dX1_countWays_92 : decode cX1_countWays 92 = .ok (.aload_n 0, 1) := by decide +kernel
theorem dX1_countWays_93 : decode cX1_countWays 93 = .ok (.getfield 15, 3) := by decide +kernel
theorem dX1_countWays_96 : decode cX1_countWays 96 = .ok (.iconst 1, 1) := by decide +kernel
theorem dX1_countWays_97 : decode cX1_countWays 97 = .ok (.isub, 1) := by decide +kernel
theorem dX1_countWays_98 : decode cX1_countWays 98 = .ok (.iload 4, 2) := by decide +kernel
theorem dX1_countWays_100 : decode cX1_countWays 100 = .ok (.invokestatic 87, 3) := by decide +kernel
theorem dX1_countWays_103 : decode cX1_countWays 103 = .ok (.istore 5, 2) := by decide +kernel
theorem dX1_countWays_105 : decode cX1_countWays 105 = .ok (.iload_n 1, 1) := by decide +kernel
theorem dX1_countWays_106 : decode cX1_countWays 106 = .ok (.ifCond .eq 19, 3) := by decide +kernel
theorem dX1_countWays_109 : decode cX1_countWays 109 = .ok (.aload_n 0, 1) := by decide +kernel
theorem dX1_countWays_110 : decode cX1_countWays 110 = .ok (.getfield 40, 3) := by decide +kernel
theorem dX1_countWays_113 : decode cX1_countWays 113 = .ok (.iload 5, 2) := by decide +kernel
theorem dX1_countWays_115 : decode cX1_countWays 115 = .ok (.invokevirtual 94, 3) := by decide +kernel
theorem dX1_countWays_118 : decode cX1_countWays 118 = .ok (.aload_n 0, 1) := by decide +kernel
theorem dX1_countWays_119 : decode cX1_countWays 119 = .ok (.getfield 19, 3) := by decide +kernel
theorem dX1_countWays_122 : decode cX1_countWays 122 = .ok (.if_icmp .ne 12, 3) := by decide +kernel
theorem dX1_countWays_125 : decode cX1_countWays 125 = .ok (.lload_n 2, 1) := by decide +kernel
theorem dX1_countWays_126 : decode cX1_countWays 126 = .ok (.aload_n 0, 1) := by decide +kernel
theorem dX1_countWays_127 : decode cX1_countWays 127 = .ok (.iload 5, 2) := by decide +kernel
theorem dX1_countWays_129 : decode cX1_countWays 129 = .ok (.invokevirtual 157, 3) := by decide +kernel
theorem dX1_countWays_132 : decode cX1_countWays 132 = .ok (.ladd, 1) := by decide +kernel
theorem dX1_countWays_133 : decode cX1_countWays 133 = .ok (.lstore_n 2, 1) := by decide +kernel
theorem dX1_countWays_134 : decode cX1_countWays 134 = .ok (.iinc 4 1, 3) := by decide +kernel
theorem dX1_countWays_137 : decode cX1_countWays 137 = .ok (.goto (-63), 3) := by decide +kernel
theorem dX1_countWays_140 : decode cX1_countWays 140 = .ok (.lload_n 2, 1) := by decide +kernel
theorem dX1_countWays_141 : decode cX1_countWays 141 = .ok (.ldc2_w 161, 3) := by decide +kernel
theorem dX1_countWays_144 : decode cX1_countWays 144 = .ok (.invokestatic 163, 3) := by decide +kernel
theorem dX1_countWays_147 : decode cX1_countWays 147 = .ok (.lreturn, 1) := by decide +kernel
theorem dX1_waysInto_0 : decode cX1_waysInto 0 = .ok (.iload_n 1, 1) := by decide +kernel
theorem dX1_waysInto_1 : decode cX1_waysInto 1 = .ok (.iload_n 2, 1) := by decide +kernel
theorem dX1_waysInto_2 : decode cX1_waysInto 2 = .ok (.invokestatic 87, 3) := by decide +kernel
theorem dX1_waysInto_5 : decode cX1_waysInto 5 = .ok (.istore 4, 2) := by decide +kernel
theorem dX1_waysInto_7 : decode cX1_waysInto 7 = .ok (.lconst 0, 1) := by decide +kernel
theorem dX1_waysInto_8 : decode cX1_waysInto 8 = .ok (.lstore 5, 2) := by decide +kernel
theorem dX1_waysInto_10 : decode cX1_waysInto 10 = .ok (.iconst 0, 1) := by decide +kernel
theorem dX1_waysInto_11 : decode cX1_waysInto 11 = .ok (.istore 7, 2) := by decide +kernel
theorem dX1_waysInto_13 : decode cX1_waysInto 13 = .ok (.iload 7, 2) := by decide +kernel
theorem dX1_waysInto_15 : decode cX1_waysInto 15 = .ok (.aload_n 0, 1) := by decide +kernel
theorem dX1_waysInto_16 : decode cX1_waysInto 16 = .ok (.getfield 27, 3) := by decide +kernel
theorem dX1_waysInto_19 : decode cX1_waysInto 19 = .ok (.iload_n 1, 1) := by decide +kernel
theorem dX1_waysInto_20 : decode cX1_waysInto 20 = .ok (.iconst 1, 1) := by decide +kernel
theorem dX1_waysInto_21 : decode cX1_waysInto 21 = .ok (.isub, 1) := by decide +kernel
theorem dX1_waysInto_22 : decode cX1_waysInto 22 = .ok (.invokevirtual 94, 3) := by decide +kernel
theorem dX1_waysInto_25 : decode cX1_waysInto 25 = .ok (.if_icmp .ge 100, 3) := by decide +kernel
theorem dX1_waysInto_28 : decode cX1_waysInto 28 = .ok (.iload_n 1, 1) := by decide +kernel
theorem dX1_waysInto_29 : decode cX1_waysInto 29 = .ok (.iconst 1, 1) := by decide +kernel
theorem dX1_waysInto_30 : decode cX1_waysInto 30 = .ok (.isub, 1) := by decide +kernel
theorem dX1_waysInto_31 : decode cX1_waysInto 31 = .ok (.iload 7, 2) := by decide +kernel
theorem dX1_waysInto_33 : decode cX1_waysInto 33 = .ok (.invokestatic 87, 3) := by decide +kernel
theorem dX1_waysInto_36 : decode cX1_waysInto 36 = .ok (.istore 8, 2) := by decide +kernel
theorem dX1_waysInto_38 : decode cX1_waysInto 38 = .ok (.aload_n 0, 1) := by decide +kernel
theorem dX1_waysInto_39 : decode cX1_waysInto 39 = .ok (.getfield 37, 3) := by decide +kernel
theorem dX1_waysInto_42 : decode cX1_waysInto 42 = .ok (.iload_n 1, 1) := by decide +kernel
theorem dX1_waysInto_43 : decode cX1_waysInto 43 = .ok (.iconst 1, 1) := by decide +kernel
theorem dX1_waysInto_44 : decode cX1_waysInto 44 = .ok (.isub, 1) := by decide +kernel
theorem dX1_waysInto_45 : decode cX1_waysInto 45 = .ok (.iload 7, 2) := by decide +kernel
theorem dX1_waysInto_47 : decode cX1_waysInto 47 = .ok (.iload_n 2, 1) := by decide +kernel
theorem dX1_waysInto_48 : decode cX1_waysInto 48 = .ok (.invokestatic 116, 3) := by decide +kernel
theorem dX1_waysInto_51 : decode cX1_waysInto 51 = .ok (.invokevirtual 94, 3) := by decide +kernel
theorem dX1_waysInto_54 : decode cX1_waysInto 54 = .ok (.istore 9, 2) := by decide +kernel
theorem dX1_waysInto_56 : decode cX1_waysInto 56 = .ok (.aload_n 0, 1) := by decide +kernel
theorem dX1_waysInto_57 : decode cX1_waysInto 57 = .ok (.getfield 40, 3) := by decide +kernel
theorem dX1_waysInto_60 : decode cX1_waysInto 60 = .ok (.iload 8, 2) := by decide +kernel
theorem dX1_waysInto_62 : decode cX1_waysInto 62 = .ok (.invokevirtual 94, 3) := by decide +kernel
theorem dX1_waysInto_65 : decode cX1_waysInto 65 = .ok (.iload 9, 2) := by decide +kernel
theorem dX1_waysInto_67 : decode cX1_waysInto 67 = .ok (.invokestatic 128, 3) := by decide +kernel
theorem dX1_waysInto_70 : decode cX1_waysInto 70 = .ok (.aload_n 0, 1) := by decide +kernel
theorem dX1_waysInto_71 : decode cX1_waysInto 71 = .ok (.getfield 34, 3) := by decide +kernel
theorem dX1_waysInto_74 : decode cX1_waysInto 74 = .ok (.iload 4, 2) := by decide +kernel
theorem dX1_waysInto_76 : decode cX1_waysInto 76 = .ok (.invokevirtual 94, 3) := by decide +kernel
theorem dX1_waysInto_79 : decode cX1_waysInto 79 = .ok (.invokestatic 128, 3) := by decide +kernel
theorem dX1_waysInto_82 : decode cX1_waysInto 82 = .ok (.istore 10, 2) := by decide +kernel
theorem dX1_waysInto_84 : decode cX1_waysInto 84 = .ok (.iload 10, 2) := by decide +kernel
theorem dX1_waysInto_86 : decode cX1_waysInto 86 = .ok (.iconst (-1), 1) := by decide +kernel
theorem dX1_waysInto_87 : decode cX1_waysInto 87 = .ok (.if_icmp .eq 32, 3) := by decide +kernel
theorem dX1_waysInto_90 : decode cX1_waysInto 90 = .ok (.iload_n 3, 1) := by decide +kernel
theorem dX1_waysInto_91 : decode cX1_waysInto 91 = .ok (.ifCond .eq 17, 3) := by decide +kernel
theorem dX1_waysInto_94 : decode cX1_waysInto 94 = .ok (.iload 10, 2) := by decide +kernel
theorem dX1_waysInto_96 : decode cX1_waysInto 96 = .ok (.aload_n 0, 1) := by decide +kernel
theorem dX1_waysInto_97 : decode cX1_waysInto 97 = .ok (.getfield 40, 3) := by decide +kernel
theorem dX1_waysInto_100 : decode cX1_waysInto 100 = .ok (.iload 4, 2) := by decide +kernel
theorem dX1_waysInto_102 : decode cX1_waysInto 102 = .ok (.invokevirtual 94, 3) := by decide +kernel
theorem dX1_waysInto_105 : decode cX1_waysInto 105 = .ok (.if_icmp .ne 14, 3) := by decide +kernel
theorem dX1_waysInto_108 : decode cX1_waysInto 108 = .ok (.lload 5, 2) := by decide +kernel
theorem dX1_waysInto_110 : decode cX1_waysInto 110 = .ok (.aload_n 0, 1) := by decide +kernel
theorem dX1_waysInto_111 : decode cX1_waysInto 111 = .ok (.iload 8, 2) := by decide +kernel
theorem dX1_waysInto_113 : decode cX1_waysInto 113 = .ok (.invokevirtual 157, 3) := by decide +kernel
theorem dX1_waysInto_116 : decode cX1_waysInto 116 = .ok (.ladd, 1) := by decide +kernel
theorem dX1_waysInto_117 : decode cX1_waysInto 117 = .ok (.lstore 5, 2) := by decide +kernel
theorem dX1_waysInto_119 : decode cX1_waysInto 119 = .ok (.iinc 7 1, 3) := by decide +kernel
theorem dX1_waysInto_122 : decode cX1_waysInto 122 = .ok (.goto (-109), 3) := by decide +kernel
theorem dX1_waysInto_125 : decode cX1_waysInto 125 = .ok (.lload 5, 2) := by decide +kernel
theorem dX1_waysInto_127 : decode cX1_waysInto 127 = .ok (.ldc2_w 161, 3) := by decide +kernel
theorem dX1_waysInto_130 : decode cX1_waysInto 130 = .ok (.invokestatic 163, 3) := by decide +kernel
theorem dX1_waysInto_133 : decode cX1_waysInto 133 = .ok (.lreturn, 1) := by decide +kernel
theorem dX1_waysAt_0 : decode cX1_waysAt 0 = .ok (.iload_n 1, 1) := by decide +kernel
theorem dX1_waysAt_1 : decode cX1_waysAt 1 = .ok (.ifCond .lt 21, 3) := by decide +kernel
theorem dX1_waysAt_4 : decode cX1_waysAt 4 = .ok (.iload_n 1, 1) := by decide +kernel
theorem dX1_waysAt_5 : decode cX1_waysAt 5 = .ok (.aload_n 0, 1) := by decide +kernel
theorem dX1_waysAt_6 : decode cX1_waysAt 6 = .ok (.getfield 55, 3) := by decide +kernel
theorem dX1_waysAt_9 : decode cX1_waysAt 9 = .ok (.arraylength, 1) := by decide +kernel
theorem dX1_waysAt_10 : decode cX1_waysAt 10 = .ok (.if_icmp .ge 12, 3) := by decide +kernel
theorem dX1_waysAt_13 : decode cX1_waysAt 13 = .ok (.aload_n 0, 1) := by decide +kernel
theorem dX1_waysAt_14 : decode cX1_waysAt 14 = .ok (.getfield 55, 3) := by decide +kernel
theorem dX1_waysAt_17 : decode cX1_waysAt 17 = .ok (.iload_n 1, 1) := by decide +kernel
theorem dX1_waysAt_18 : decode cX1_waysAt 18 = .ok (.laload, 1) := by decide +kernel
theorem dX1_waysAt_19 : decode cX1_waysAt 19 = .ok (.goto 4, 3) := by decide +kernel
theorem dX1_waysAt_22 : decode cX1_waysAt 22 = .ok (.lconst 0, 1) := by decide +kernel
theorem dX1_waysAt_23 : decode cX1_waysAt 23 = .ok (.lreturn, 1) := by decide +kernel
theorem dX1_putWays_0 : decode cX1_putWays 0 = .ok (.iload_n 1, 1) := by decide +kernel
theorem dX1_putWays_1 : decode cX1_putWays 1 = .ok (.ifCond .lt 19, 3) := by decide +kernel
theorem dX1_putWays_4 : decode cX1_putWays 4 = .ok (.iload_n 1, 1) := by decide +kernel
theorem dX1_putWays_5 : decode cX1_putWays 5 = .ok (.aload_n 0, 1) := by decide +kernel
theorem dX1_putWays_6 : decode cX1_putWays 6 = .ok (.getfield 55, 3) := by decide +kernel
theorem dX1_putWays_9 : decode cX1_putWays 9 = .ok (.arraylength, 1) := by decide +kernel
theorem dX1_putWays_10 : decode cX1_putWays 10 = .ok (.if_icmp .ge 10, 3) := by decide +kernel
theorem dX1_putWays_13 : decode cX1_putWays 13 = .ok (.aload_n 0, 1) := by decide +kernel
theorem dX1_putWays_14 : decode cX1_putWays 14 = .ok (.getfield 55, 3) := by decide +kernel
theorem dX1_putWays_17 : decode cX1_putWays 17 = .ok (.iload_n 1, 1) := by decide +kernel
theorem dX1_putWays_18 : decode cX1_putWays 18 = .ok (.lload_n 2, 1) := by decide +kernel
theorem dX1_putWays_19 : decode cX1_putWays 19 = .ok (.lastore, 1) := by decide +kernel
theorem dX1_putWays_20 : decode cX1_putWays 20 = .ok (.return_, 1) := by decide +kernel
theorem dX1_leastWith_0 : decode cX1_leastWith 0 = .ok (.iconst (-1), 1) := by decide +kernel
theorem dX1_leastWith_1 : decode cX1_leastWith 1 = .ok (.istore 4, 2) := by decide +kernel
theorem dX1_leastWith_3 : decode cX1_leastWith 3 = .ok (.iconst 0, 1) := by decide +kernel
theorem dX1_leastWith_4 : decode cX1_leastWith 4 = .ok (.istore 5, 2) := by decide +kernel
theorem dX1_leastWith_6 : decode cX1_leastWith 6 = .ok (.iload 5, 2) := by decide +kernel
theorem dX1_leastWith_8 : decode cX1_leastWith 8 = .ok (.aload_n 0, 1) := by decide +kernel
theorem dX1_leastWith_9 : decode cX1_leastWith 9 = .ok (.getfield 27, 3) := by decide +kernel
theorem dX1_leastWith_12 : decode cX1_leastWith 12 = .ok (.iload_n 1, 1) := by decide +kernel
theorem dX1_leastWith_13 : decode cX1_leastWith 13 = .ok (.invokevirtual 94, 3) := by decide +kernel
theorem dX1_leastWith_16 : decode cX1_leastWith 16 = .ok (.if_icmp .ge 42, 3) := by decide +kernel
theorem dX1_leastWith_19 : decode cX1_leastWith 19 = .ok (.aload_n 0, 1) := by decide +kernel
theorem dX1_leastWith_20 : decode cX1_leastWith 20 = .ok (.getfield 31, 3) := by decide +kernel
theorem dX1_leastWith_23 : decode cX1_leastWith 23 = .ok (.iload_n 1, 1) := by decide +kernel
theorem dX1_leastWith_24 : decode cX1_leastWith 24 = .ok (.iload 5, 2) := by decide +kernel
theorem dX1_leastWith_26 : decode cX1_leastWith 26 = .ok (.invokestatic 106, 3) := by decide +kernel
theorem dX1_leastWith_29 : decode cX1_leastWith 29 = .ok (.iload_n 2, 1) := by decide +kernel
theorem dX1_leastWith_30 : decode cX1_leastWith 30 = .ok (.iadd, 1) := by decide +kernel
theorem dX1_leastWith_31 : decode cX1_leastWith 31 = .ok (.invokevirtual 94, 3) := by decide +kernel
theorem dX1_leastWith_34 : decode cX1_leastWith 34 = .ok (.iload_n 3, 1) := by decide +kernel
theorem dX1_leastWith_35 : decode cX1_leastWith 35 = .ok (.if_icmp .ne 17, 3) := by decide +kernel
theorem dX1_leastWith_38 : decode cX1_leastWith 38 = .ok (.iload 4, 2) := by decide +kernel
theorem dX1_leastWith_40 : decode cX1_leastWith 40 = .ok (.aload_n 0, 1) := by decide +kernel
theorem dX1_leastWith_41 : decode cX1_leastWith 41 = .ok (.iload_n 1, 1) := by decide +kernel
theorem dX1_leastWith_42 : decode cX1_leastWith 42 = .ok (.iload 5, 2) := by decide +kernel
theorem dX1_leastWith_44 : decode cX1_leastWith 44 = .ok (.invokevirtual 169, 3) := by decide +kernel
theorem dX1_leastWith_47 : decode cX1_leastWith 47 = .ok (.invokestatic 131, 3) := by decide +kernel
theorem dX1_leastWith_50 : decode cX1_leastWith 50 = .ok (.istore 4, 2) := by decide +kernel
theorem dX1_leastWith_52 : decode cX1_leastWith 52 = .ok (.iinc 5 1, 3) := by decide +kernel
theorem dX1_leastWith_55 : decode cX1_leastWith 55 = .ok (.goto (-49), 3) := by decide +kernel
theorem dX1_leastWith_58 : decode cX1_leastWith 58 = .ok (.iload 4, 2) := by decide +kernel
theorem dX1_leastWith_60 : decode cX1_leastWith 60 = .ok (.ireturn, 1) := by decide +kernel
theorem dX1_eventsReached_0 : decode cX1_eventsReached 0 = .ok (.iconst 0, 1) := by decide +kernel
theorem dX1_eventsReached_1 : decode cX1_eventsReached 1 = .ok (.istore_n 1, 1) := by decide +kernel
theorem dX1_eventsReached_2 : decode cX1_eventsReached 2 = .ok (.iload_n 1, 1) := by decide +kernel
theorem dX1_eventsReached_3 : decode cX1_eventsReached 3 = .ok (.aload_n 0, 1) := by decide +kernel
theorem dX1_eventsReached_4 : decode cX1_eventsReached 4 = .ok (.getfield 15, 3) := by decide +kernel
theorem dX1_eventsReached_7 : decode cX1_eventsReached 7 = .ok (.if_icmp .ge 19, 3) := by decide +kernel
theorem dX1_eventsReached_10 : decode cX1_eventsReached 10 = .ok (.aload_n 0, 1) := by decide +kernel
theorem dX1_eventsReached_11 : decode cX1_eventsReached 11 = .ok (.iload_n 1, 1) := by decide +kernel
theorem dX1_eventsReached_12 : decode cX1_eventsReached 12 = .ok (.invokevirtual 172, 3) := by decide +kernel
theorem dX1_eventsReached_15 : decode cX1_eventsReached 15 = .ok (.ifCond .ne 5, 3) := by decide +kernel
theorem dX1_eventsReached_18 : decode cX1_eventsReached 18 = .ok (.iload_n 1, 1) := by decide +kernel
theorem dX1_eventsReached_19 : decode cX1_eventsReached 19 = .ok (.ireturn, 1) := by decide +kernel
theorem dX1_eventsReached_20 : decode cX1_eventsReached 20 = .ok (.iinc 1 1, 3) := by decide +kernel
theorem dX1_eventsReached_23 : decode cX1_eventsReached 23 = .ok (.goto (-21), 3) := by decide +kernel
theorem dX1_eventsReached_26 : decode cX1_eventsReached 26 = .ok (.aload_n 0, 1) := by decide +kernel
theorem dX1_eventsReached_27 : decode cX1_eventsReached 27 = .ok (.getfield 15, 3) := by decide +kernel
theorem dX1_eventsReached_30 : decode cX1_eventsReached 30 = .ok (.ireturn, 1) := by decide +kernel
theorem dX1_isReached_0 : decode cX1_isReached 0 = .ok (.iconst 0, 1) := by decide +kernel
theorem dX1_isReached_1 : decode cX1_isReached 1 = .ok (.istore_n 2, 1) := by decide +kernel
theorem dX1_isReached_2 : decode cX1_isReached 2 = .ok (.iload_n 2, 1) := by decide +kernel
theorem dX1_isReached_3 : decode cX1_isReached 3 = .ok (.aload_n 0, 1) := by decide +kernel
theorem dX1_isReached_4 : decode cX1_isReached 4 = .ok (.getfield 27, 3) := by decide +kernel
theorem dX1_isReached_7 : decode cX1_isReached 7 = .ok (.iload_n 1, 1) := by decide +kernel
theorem dX1_isReached_8 : decode cX1_isReached 8 = .ok (.invokevirtual 94, 3) := by decide +kernel
theorem dX1_isReached_11 : decode cX1_isReached 11 = .ok (.if_icmp .ge 27, 3) := by decide +kernel
theorem dX1_isReached_14 : decode cX1_isReached 14 = .ok (.aload_n 0, 1) := by decide +kernel
theorem dX1_isReached_15 : decode cX1_isReached 15 = .ok (.getfield 40, 3) := by decide +kernel
theorem dX1_isReached_18 : decode cX1_isReached 18 = .ok (.iload_n 1, 1) := by decide +kernel
theorem dX1_isReached_19 : decode cX1_isReached 19 = .ok (.iload_n 2, 1) := by decide +kernel
theorem dX1_isReached_20 : decode cX1_isReached 20 = .ok (.invokestatic 87, 3) := by decide +kernel
theorem dX1_isReached_23 : decode cX1_isReached 23 = .ok (.invokevirtual 94, 3) := by decide +kernel
theorem dX1_isReached_26 : decode cX1_isReached 26 = .ok (.iconst (-1), 1) := by decide +kernel
theorem dX1_isReached_27 : decode cX1_isReached 27 = .ok (.if_icmp .eq 5, 3) := by decide +kernel
theorem dX1_isReached_30 : decode cX1_isReached 30 = .ok (.iconst 1, 1) := by decide +kernel
theorem dX1_isReached_31 : decode cX1_isReached 31 = .ok (.ireturn, 1) := by decide +kernel
theorem dX1_isReached_32 : decode cX1_isReached 32 = .ok (.iinc 2 1, 3) := by decide +kernel
theorem dX1_isReached_35 : decode cX1_isReached 35 = .ok (.goto (-33), 3) := by decide +kernel
theorem dX1_isReached_38 : decode cX1_isReached 38 = .ok (.iconst 0, 1) := by decide +kernel
theorem dX1_isReached_39 : decode cX1_isReached 39 = .ok (.ireturn, 1) := by decide +kernel
theorem dX1_cheapestFingers_0 : decode cX1_cheapestFingers 0 = .ok (.iconst 0, 1) := by decide +kernel
theorem dX1_cheapestFingers_1 : decode cX1_cheapestFingers 1 = .ok (.istore_n 3, 1) := by decide +kernel
theorem dX1_cheapestFingers_2 : decode cX1_cheapestFingers 2 = .ok (.iconst 0, 1) := by decide +kernel
theorem dX1_cheapestFingers_3 : decode cX1_cheapestFingers 3 = .ok (.istore 4, 2) := by decide +kernel
theorem dX1_cheapestFingers_5 : decode cX1_cheapestFingers 5 = .ok (.iload 4, 2) := by decide +kernel
theorem dX1_cheapestFingers_7 : decode cX1_cheapestFingers 7 = .ok (.aload_n 0, 1) := by decide +kernel
theorem dX1_cheapestFingers_8 : decode cX1_cheapestFingers 8 = .ok (.getfield 27, 3) := by decide +kernel
theorem dX1_cheapestFingers_11 : decode cX1_cheapestFingers 11 = .ok (.iload_n 1, 1) := by decide +kernel
theorem dX1_cheapestFingers_12 : decode cX1_cheapestFingers 12 = .ok (.invokevirtual 94, 3) := by decide +kernel
theorem dX1_cheapestFingers_15 : decode cX1_cheapestFingers 15 = .ok (.if_icmp .ge 44, 3) := by decide +kernel
theorem dX1_cheapestFingers_18 : decode cX1_cheapestFingers 18 = .ok (.aload_n 0, 1) := by decide +kernel
theorem dX1_cheapestFingers_19 : decode cX1_cheapestFingers 19 = .ok (.iload_n 1, 1) := by decide +kernel
theorem dX1_cheapestFingers_20 : decode cX1_cheapestFingers 20 = .ok (.iload 4, 2) := by decide +kernel
theorem dX1_cheapestFingers_22 : decode cX1_cheapestFingers 22 = .ok (.invokevirtual 169, 3) := by decide +kernel
theorem dX1_cheapestFingers_25 : decode cX1_cheapestFingers 25 = .ok (.aload_n 0, 1) := by decide +kernel
theorem dX1_cheapestFingers_26 : decode cX1_cheapestFingers 26 = .ok (.getfield 19, 3) := by decide +kernel
theorem dX1_cheapestFingers_29 : decode cX1_cheapestFingers 29 = .ok (.if_icmp .ne 24, 3) := by decide +kernel
theorem dX1_cheapestFingers_32 : decode cX1_cheapestFingers 32 = .ok (.iload_n 3, 1) := by decide +kernel
theorem dX1_cheapestFingers_33 : decode cX1_cheapestFingers 33 = .ok (.aload_n 0, 1) := by decide +kernel
theorem dX1_cheapestFingers_34 : decode cX1_cheapestFingers 34 = .ok (.getfield 31, 3) := by decide +kernel
theorem dX1_cheapestFingers_37 : decode cX1_cheapestFingers 37 = .ok (.iload_n 1, 1) := by decide +kernel
theorem dX1_cheapestFingers_38 : decode cX1_cheapestFingers 38 = .ok (.iload 4, 2) := by decide +kernel
theorem dX1_cheapestFingers_40 : decode cX1_cheapestFingers 40 = .ok (.invokestatic 106, 3) := by decide +kernel
theorem dX1_cheapestFingers_43 : decode cX1_cheapestFingers 43 = .ok (.iload_n 2, 1) := by decide +kernel
theorem dX1_cheapestFingers_44 : decode cX1_cheapestFingers 44 = .ok (.iadd, 1) := by decide +kernel
theorem dX1_cheapestFingers_45 : decode cX1_cheapestFingers 45 = .ok (.invokevirtual 94, 3) := by decide +kernel
theorem dX1_cheapestFingers_48 : decode cX1_cheapestFingers 48 = .ok (.invokestatic 176, 3) := by decide +kernel
theorem dX1_cheapestFingers_51 : decode cX1_cheapestFingers 51 = .ok (.ior, 1) := by decide +kernel
theorem dX1_cheapestFingers_52 : decode cX1_cheapestFingers 52 = .ok (.istore_n 3, 1) := by decide +kernel
theorem dX1_cheapestFingers_53 : decode cX1_cheapestFingers 53 = .ok (.iinc 4 1, 3) := by decide +kernel
theorem dX1_cheapestFingers_56 : decode cX1_cheapestFingers 56 = .ok (.goto (-51), 3) := by decide +kernel
theorem dX1_cheapestFingers_59 : decode cX1_cheapestFingers 59 = .ok (.iload_n 3, 1) := by decide +kernel
theorem dX1_cheapestFingers_60 : decode cX1_cheapestFingers 60 = .ok (.ireturn, 1) := by decide +kernel
theorem dX1_leastShifted_0 : decode cX1_leastShifted 0 = .ok (.iload_n 2, 1) := by decide +kernel
theorem dX1_leastShifted_1 : decode cX1_leastShifted 1 = .ok (.bipush 12, 2) := by decide +kernel
theorem dX1_leastShifted_3 : decode cX1_leastShifted 3 = .ok (.invokestatic 179, 3) := by decide +kernel
theorem dX1_leastShifted_6 : decode cX1_leastShifted 6 = .ok (.istore_n 3, 1) := by decide +kernel
theorem dX1_leastShifted_7 : decode cX1_leastShifted 7 = .ok (.aload_n 0, 1) := by decide +kernel
theorem dX1_leastShifted_8 : decode cX1_leastShifted 8 = .ok (.getfield 19, 3) := by decide +kernel
theorem dX1_leastShifted_11 : decode cX1_leastShifted 11 = .ok (.iconst (-1), 1) := by decide +kernel
theorem dX1_leastShifted_12 : decode cX1_leastShifted 12 = .ok (.if_icmp .eq 41, 3) := by decide +kernel
theorem dX1_leastShifted_15 : decode cX1_leastShifted 15 = .ok (.aload_n 0, 1) := by decide +kernel
theorem dX1_leastShifted_16 : decode cX1_leastShifted 16 = .ok (.getfield 52, 3) := by decide +kernel
theorem dX1_leastShifted_19 : decode cX1_leastShifted 19 = .ok (.iload_n 3, 1) := by decide +kernel
theorem dX1_leastShifted_20 : decode cX1_leastShifted 20 = .ok (.invokevirtual 94, 3) := by decide +kernel
theorem dX1_leastShifted_23 : decode cX1_leastShifted 23 = .ok (.iconst (-1), 1) := by decide +kernel
theorem dX1_leastShifted_24 : decode cX1_leastShifted 24 = .ok (.if_icmp .ne 29, 3) := by decide +kernel
theorem dX1_leastShifted_27 : decode cX1_leastShifted 27 = .ok (.aload_n 0, 1) := by decide +kernel
theorem dX1_leastShifted_28 : decode cX1_leastShifted 28 = .ok (.aload_n 1, 1) := by decide +kernel
theorem dX1_leastShifted_29 : decode cX1_leastShifted 29 = .ok (.iload_n 3, 1) := by decide +kernel
theorem dX1_leastShifted_30 : decode cX1_leastShifted 30 = .ok (.aload_n 0, 1) := by decide +kernel
theorem dX1_leastShifted_31 : decode cX1_leastShifted 31 = .ok (.getfield 49, 3) := by decide +kernel
theorem dX1_leastShifted_34 : decode cX1_leastShifted 34 = .ok (.invokevirtual 69, 3) := by decide +kernel
theorem dX1_leastShifted_37 : decode cX1_leastShifted 37 = .ok (.aload_n 0, 1) := by decide +kernel
theorem dX1_leastShifted_38 : decode cX1_leastShifted 38 = .ok (.getfield 52, 3) := by decide +kernel
theorem dX1_leastShifted_41 : decode cX1_leastShifted 41 = .ok (.iload_n 3, 1) := by decide +kernel
theorem dX1_leastShifted_42 : decode cX1_leastShifted 42 = .ok (.aload_n 0, 1) := by decide +kernel
theorem dX1_leastShifted_43 : decode cX1_leastShifted 43 = .ok (.aload_n 0, 1) := by decide +kernel
theorem dX1_leastShifted_44 : decode cX1_leastShifted 44 = .ok (.getfield 49, 3) := by decide +kernel
theorem dX1_leastShifted_47 : decode cX1_leastShifted 47 = .ok (.invokevirtual 76, 3) := by decide +kernel
theorem dX1_leastShifted_50 : decode cX1_leastShifted 50 = .ok (.invokevirtual 83, 3) := by decide +kernel
theorem dX1_leastShifted_53 : decode cX1_leastShifted 53 = .ok (.aload_n 0, 1) := by decide +kernel
theorem dX1_leastShifted_54 : decode cX1_leastShifted 54 = .ok (.getfield 52, 3) := by decide +kernel
theorem dX1_leastShifted_57 : decode cX1_leastShifted 57 = .ok (.iload_n 3, 1) := by decide +kernel
theorem dX1_leastShifted_58 : decode cX1_leastShifted 58 = .ok (.invokevirtual 94, 3) := by decide +kernel
theorem dX1_leastShifted_61 : decode cX1_leastShifted 61 = .ok (.ireturn, 1) := by decide +kernel
theorem dX1_leastWithRest_0 : decode cX1_leastWithRest 0 = .ok (.iconst (-1), 1) := by decide +kernel
theorem dX1_leastWithRest_1 : decode cX1_leastWithRest 1 = .ok (.istore_n 3, 1) := by decide +kernel
theorem dX1_leastWithRest_2 : decode cX1_leastWithRest 2 = .ok (.iconst 0, 1) := by decide +kernel
theorem dX1_leastWithRest_3 : decode cX1_leastWithRest 3 = .ok (.istore 4, 2) := by decide +kernel
theorem dX1_leastWithRest_5 : decode cX1_leastWithRest 5 = .ok (.iload 4, 2) := by decide +kernel
theorem dX1_leastWithRest_7 : decode cX1_leastWithRest 7 = .ok (.aload_n 0, 1) := by decide +kernel
theorem dX1_leastWithRest_8 : decode cX1_leastWithRest 8 = .ok (.getfield 27, 3) := by decide +kernel
theorem dX1_leastWithRest_11 : decode cX1_leastWithRest 11 = .ok (.iload_n 2, 1) := by decide +kernel
theorem dX1_leastWithRest_12 : decode cX1_leastWithRest 12 = .ok (.invokevirtual 94, 3) := by decide +kernel
theorem dX1_leastWithRest_15 : decode cX1_leastWithRest 15 = .ok (.if_icmp .ge 105, 3) := by decide +kernel
theorem dX1_leastWithRest_18 : decode cX1_leastWithRest 18 = .ok (.aload_n 0, 1) := by decide +kernel
theorem dX1_leastWithRest_19 : decode cX1_leastWithRest 19 = .ok (.getfield 40, 3) := by decide +kernel
theorem dX1_leastWithRest_22 : decode cX1_leastWithRest 22 = .ok (.iload_n 2, 1) := by decide +kernel
theorem dX1_leastWithRest_23 : decode cX1_leastWithRest 23 = .ok (.iload 4, 2) := by decide +kernel
theorem dX1_leastWithRest_25 : decode cX1_leastWithRest 25 = .ok (.invokestatic 87, 3) := by decide +kernel
theorem dX1_leastWithRest_28 : decode cX1_leastWithRest 28 = .ok (.invokevirtual 94, 3) := by decide +kernel
theorem dX1_leastWithRest_31 : decode cX1_leastWithRest 31 = .ok (.istore 5, 2) := by decide +kernel
theorem dX1_leastWithRest_33 : decode cX1_leastWithRest 33 = .ok (.iconst 0, 1) := by decide +kernel
theorem dX1_leastWithRest_34 : decode cX1_leastWithRest 34 = .ok (.istore 6, 2) := by decide +kernel
theorem dX1_leastWithRest_36 : decode cX1_leastWithRest 36 = .ok (.iload 5, 2) := by decide +kernel
theorem dX1_leastWithRest_38 : decode cX1_leastWithRest 38 = .ok (.iconst (-1), 1) := by decide +kernel
theorem dX1_leastWithRest_39 : decode cX1_leastWithRest 39 = .ok (.if_icmp .eq 75, 3) := by decide +kernel
theorem dX1_leastWithRest_42 : decode cX1_leastWithRest 42 = .ok (.iload 6, 2) := by decide +kernel
theorem dX1_leastWithRest_44 : decode cX1_leastWithRest 44 = .ok (.aload_n 0, 1) := by decide +kernel
theorem dX1_leastWithRest_45 : decode cX1_leastWithRest 45 = .ok (.getfield 27, 3) := by decide +kernel
theorem dX1_leastWithRest_48 : decode cX1_leastWithRest 48 = .ok (.iload_n 2, 1) := by decide +kernel
theorem dX1_leastWithRest_49 : decode cX1_leastWithRest 49 = .ok (.iconst 1, 1) := by decide +kernel
theorem dX1_leastWithRest_50 : decode cX1_leastWithRest 50 = .ok (.iadd, 1) := by decide +kernel
theorem dX1_leastWithRest_51 : decode cX1_leastWithRest 51 = .ok (.invokevirtual 94, 3) := by decide +kernel
theorem dX1_leastWithRest_54 : decode cX1_leastWithRest 54 = .ok (.if_icmp .ge 60, 3) := by decide +kernel
theorem dX1_leastWithRest_57 : decode cX1_leastWithRest 57 = .ok (.aload_n 1, 1) := by decide +kernel
theorem dX1_leastWithRest_58 : decode cX1_leastWithRest 58 = .ok (.iload_n 2, 1) := by decide +kernel
theorem dX1_leastWithRest_59 : decode cX1_leastWithRest 59 = .ok (.bipush 9, 2) := by decide +kernel
theorem dX1_leastWithRest_61 : decode cX1_leastWithRest 61 = .ok (.aload_n 0, 1) := by decide +kernel
theorem dX1_leastWithRest_62 : decode cX1_leastWithRest 62 = .ok (.getfield 31, 3) := by decide +kernel
theorem dX1_leastWithRest_65 : decode cX1_leastWithRest 65 = .ok (.iload_n 2, 1) := by decide +kernel
theorem dX1_leastWithRest_66 : decode cX1_leastWithRest 66 = .ok (.iload 4, 2) := by decide +kernel
theorem dX1_leastWithRest_68 : decode cX1_leastWithRest 68 = .ok (.invokestatic 106, 3) := by decide +kernel
theorem dX1_leastWithRest_71 : decode cX1_leastWithRest 71 = .ok (.iload_n 2, 1) := by decide +kernel
theorem dX1_leastWithRest_72 : decode cX1_leastWithRest 72 = .ok (.iconst 1, 1) := by decide +kernel
theorem dX1_leastWithRest_73 : decode cX1_leastWithRest 73 = .ok (.iadd, 1) := by decide +kernel
theorem dX1_leastWithRest_74 : decode cX1_leastWithRest 74 = .ok (.iload 6, 2) := by decide +kernel
theorem dX1_leastWithRest_76 : decode cX1_leastWithRest 76 = .ok (.invokestatic 106, 3) := by decide +kernel
theorem dX1_leastWithRest_79 : decode cX1_leastWithRest 79 = .ok (.invokevirtual 120, 3) := by decide +kernel
theorem dX1_leastWithRest_82 : decode cX1_leastWithRest 82 = .ok (.istore 7, 2) := by decide +kernel
theorem dX1_leastWithRest_84 : decode cX1_leastWithRest 84 = .ok (.iload_n 3, 1) := by decide +kernel
theorem dX1_leastWithRest_85 : decode cX1_leastWithRest 85 = .ok (.iload 5, 2) := by decide +kernel
theorem dX1_leastWithRest_87 : decode cX1_leastWithRest 87 = .ok (.iload 7, 2) := by decide +kernel
theorem dX1_leastWithRest_89 : decode cX1_leastWithRest 89 = .ok (.aload_n 0, 1) := by decide +kernel
theorem dX1_leastWithRest_90 : decode cX1_leastWithRest 90 = .ok (.iload_n 2, 1) := by decide +kernel
theorem dX1_leastWithRest_91 : decode cX1_leastWithRest 91 = .ok (.iconst 1, 1) := by decide +kernel
theorem dX1_leastWithRest_92 : decode cX1_leastWithRest 92 = .ok (.iadd, 1) := by decide +kernel
theorem dX1_leastWithRest_93 : decode cX1_leastWithRest 93 = .ok (.iload 6, 2) := by decide +kernel
theorem dX1_leastWithRest_95 : decode cX1_leastWithRest 95 = .ok (.invokevirtual 140, 3) := by decide +kernel
theorem dX1_leastWithRest_98 : decode cX1_leastWithRest 98 = .ok (.invokestatic 128, 3) := by decide +kernel
theorem dX1_leastWithRest_101 : decode cX1_leastWithRest 101 = .ok (.invokestatic 128, 3) := by decide +kernel
theorem dX1_leastWithRest_104 : decode cX1_leastWithRest 104 = .ok (.invokestatic 131, 3) := by decide +kernel
theorem dX1_leastWithRest_107 : decode cX1_leastWithRest 107 = .ok (.istore_n 3, 1) := by decide +kernel
theorem dX1_leastWithRest_108 : decode cX1_leastWithRest 108 = .ok (.iinc 6 1, 3) := by decide +kernel
theorem dX1_leastWithRest_111 : decode cX1_leastWithRest 111 = .ok (.goto (-75), 3) := by decide +kernel
theorem dX1_leastWithRest_114 : decode cX1_leastWithRest 114 = .ok (.iinc 4 1, 3) := by decide +kernel
theorem dX1_leastWithRest_117 : decode cX1_leastWithRest 117 = .ok (.goto (-112), 3) := by decide +kernel
theorem dX1_leastWithRest_120 : decode cX1_leastWithRest 120 = .ok (.iload_n 3, 1) := by decide +kernel
theorem dX1_leastWithRest_121 : decode cX1_leastWithRest 121 = .ok (.ireturn, 1) := by decide +kernel
theorem dX2_init_0 : decode cX2_init 0 = .ok (.aload_n 0, 1) := by decide +kernel
theorem dX2_init_1 : decode cX2_init 1 = .ok (.invokespecial 1, 3) := by decide +kernel
theorem dX2_init_4 : decode cX2_init 4 = .ok (.aload_n 0, 1) := by decide +kernel
theorem dX2_init_5 : decode cX2_init 5 = .ok (.iconst 0, 1) := by decide +kernel
theorem dX2_init_6 : decode cX2_init 6 = .ok (.iload_n 1, 1) := by decide +kernel
theorem dX2_init_7 : decode cX2_init 7 = .ok (.invokestatic 7, 3) := by decide +kernel
theorem dX2_init_10 : decode cX2_init 10 = .ok (.newarray .int, 2) := by decide +kernel
theorem dX2_init_12 : decode cX2_init 12 = .ok (.putfield 13, 3) := by decide +kernel
theorem dX2_init_15 : decode cX2_init 15 = .ok (.return_, 1) := by decide +kernel
theorem dX2_get_0 : decode cX2_get 0 = .ok (.iload_n 1, 1) := by decide +kernel
theorem dX2_get_1 : decode cX2_get 1 = .ok (.ifCond .lt 21, 3) := by decide +kernel
theorem dX2_get_4 : decode cX2_get 4 = .ok (.iload_n 1, 1) := by decide +kernel
theorem dX2_get_5 : decode cX2_get 5 = .ok (.aload_n 0, 1) := by decide +kernel
theorem dX2_get_6 : decode cX2_get 6 = .ok (.getfield 13, 3) := by decide +kernel
theorem dX2_get_9 : decode cX2_get 9 = .ok (.arraylength, 1) := by decide +kernel
theorem dX2_get_10 : decode cX2_get 10 = .ok (.if_icmp .ge 12, 3) := by decide +kernel
theorem dX2_get_13 : decode cX2_get 13 = .ok (.aload_n 0, 1) := by decide +kernel
theorem dX2_get_14 : decode cX2_get 14 = .ok (.getfield 13, 3) := by decide +kernel
theorem dX2_get_17 : decode cX2_get 17 = .ok (.iload_n 1, 1) := by decide +kernel
theorem dX2_get_18 : decode cX2_get 18 = .ok (.iaload, 1) := by decide +kernel
theorem dX2_get_19 : decode cX2_get 19 = .ok (.goto 4, 3) := by decide +kernel
theorem dX2_get_22 : decode cX2_get 22 = .ok (.iconst 0, 1) := by decide +kernel
theorem dX2_get_23 : decode cX2_get 23 = .ok (.ireturn, 1) := by decide +kernel
theorem dX2_put_0 : decode cX2_put 0 = .ok (.iload_n 1, 1) := by decide +kernel
theorem dX2_put_1 : decode cX2_put 1 = .ok (.ifCond .lt 19, 3) := by decide +kernel
theorem dX2_put_4 : decode cX2_put 4 = .ok (.iload_n 1, 1) := by decide +kernel
theorem dX2_put_5 : decode cX2_put 5 = .ok (.aload_n 0, 1) := by decide +kernel
theorem dX2_put_6 : decode cX2_put 6 = .ok (.getfield 13, 3) := by decide +kernel
theorem dX2_put_9 : decode cX2_put 9 = .ok (.arraylength, 1) := by decide +kernel
theorem dX2_put_10 : decode cX2_put 10 = .ok (.if_icmp .ge 10, 3) := by decide +kernel
theorem dX2_put_13 : decode cX2_put 13 = .ok (.aload_n 0, 1) := by decide +kernel
theorem dX2_put_14 : decode cX2_put 14 = .ok (.getfield 13, 3) := by decide +kernel
theorem dX2_put_17 : decode cX2_put 17 = .ok (.iload_n 1, 1) := by decide +kernel
theorem dX2_put_18 : decode cX2_put 18 = .ok (.iload_n 2, 1) := by decide +kernel
theorem dX2_put_19 : decode cX2_put 19 = .ok (.iastore, 1) := by decide +kernel
theorem dX2_put_20 : decode cX2_put 20 = .ok (.return_, 1) := by decide +kernel
theorem dX2_copyFrom_0 : decode cX2_copyFrom 0 = .ok (.aload_n 1, 1) := by decide +kernel
theorem dX2_copyFrom_1 : decode cX2_copyFrom 1 = .ok (.getfield 13, 3) := by decide +kernel
theorem dX2_copyFrom_4 : decode cX2_copyFrom 4 = .ok (.iconst 0, 1) := by decide +kernel
theorem dX2_copyFrom_5 : decode cX2_copyFrom 5 = .ok (.aload_n 0, 1) := by decide +kernel
theorem dX2_copyFrom_6 : decode cX2_copyFrom 6 = .ok (.getfield 13, 3) := by decide +kernel
theorem dX2_copyFrom_9 : decode cX2_copyFrom 9 = .ok (.iconst 0, 1) := by decide +kernel
theorem dX2_copyFrom_10 : decode cX2_copyFrom 10 = .ok (.aload_n 0, 1) := by decide +kernel
theorem dX2_copyFrom_11 : decode cX2_copyFrom 11 = .ok (.getfield 13, 3) := by decide +kernel
theorem dX2_copyFrom_14 : decode cX2_copyFrom 14 = .ok (.arraylength, 1) := by decide +kernel
theorem dX2_copyFrom_15 : decode cX2_copyFrom 15 = .ok (.aload_n 1, 1) := by decide +kernel
theorem dX2_copyFrom_16 : decode cX2_copyFrom 16 = .ok (.getfield 13, 3) := by decide +kernel
theorem dX2_copyFrom_19 : decode cX2_copyFrom 19 = .ok (.arraylength, 1) := by decide +kernel
theorem dX2_copyFrom_20 : decode cX2_copyFrom 20 = .ok (.invokestatic 19, 3) := by decide +kernel
theorem dX2_copyFrom_23 : decode cX2_copyFrom 23 = .ok (.invokestatic 22, 3) := by decide +kernel
theorem dX2_copyFrom_26 : decode cX2_copyFrom 26 = .ok (.return_, 1) := by decide +kernel
theorem dX3_init_0 : decode cX3_init 0 = .ok (.aload_n 0, 1) := by decide +kernel
theorem dX3_init_1 : decode cX3_init 1 = .ok (.invokespecial 1, 3) := by decide +kernel
theorem dX3_init_4 : decode cX3_init 4 = .ok (.aload_n 0, 1) := by decide +kernel
theorem dX3_init_5 : decode cX3_init 5 = .ok (.iconst 0, 1) := by decide +kernel
theorem dX3_init_6 : decode cX3_init 6 = .ok (.iload_n 1, 1) := by decide +kernel
theorem dX3_init_7 : decode cX3_init 7 = .ok (.invokestatic 7, 3) := by decide +kernel
theorem dX3_init_10 : decode cX3_init 10 = .ok (.anewarray 13, 3) := by decide +kernel
theorem dX3_init_13 : decode cX3_init 13 = .ok (.putfield 15, 3) := by decide +kernel
theorem dX3_init_16 : decode cX3_init 16 = .ok (.return_, 1) := by decide +kernel
