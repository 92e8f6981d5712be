theorem dX3_holds_0 : decode cX3_holds 0 = .ok (.iload_n 1, 1) := by decide +kernel
theorem dX3_holds_1 : decode cX3_holds 1 = .ok (.ifCond .lt 25, 3) := by decide +kernel
theorem dX3_holds_4 : decode cX3_holds 4 = .ok (.iload_n 1, 1) := by decide +kernel
theorem dX3_holds_5 : decode cX3_holds 5 = .ok (.aload_n 0, 1) := by decide +kernel
theorem dX3_holds_6 : decode cX3_holds 6 = .ok (.getfield 15, 3) := by decide +kernel
theorem dX3_holds_9 : decode cX3_holds 9 = .ok (.arraylength, 1) := by decide +kernel
theorem dX3_holds_10 : decode cX3_holds 10 = .ok (.if_icmp .ge 16, 3) := by decide +kernel
theorem dX3_holds_13 : decode cX3_holds 13 = .ok (.aload_n 0, 1) := by decide +kernel
theorem dX3_holds_14 : decode cX3_holds 14 = .ok (.getfield 15, 3) := by decide +kernel
theorem dX3_holds_17 : decode cX3_holds 17 = .ok (.iload_n 1, 1) := by decide +kernel
theorem dX3_holds_18 : decode cX3_holds 18 = .ok (.aaload, 1) := by decide +kernel
theorem dX3_holds_19 : decode cX3_holds 19 = .ok (.ifnull 7, 3) := by decide +kernel
theorem dX3_holds_22 : decode cX3_holds 22 = .ok (.iconst 1, 1) := by decide +kernel
theorem dX3_holds_23 : decode cX3_holds 23 = .ok (.goto 4, 3) := by decide +kernel
theorem dX3_holds_26 : decode cX3_holds 26 = .ok (.iconst 0, 1) := by decide +kernel
theorem dX3_holds_27 : decode cX3_holds 27 = .ok (.ireturn, 1) := by decide +kernel
theorem dX3_putIn_0 : decode cX3_putIn 0 = .ok (.iload_n 1, 1) := by decide +kernel
theorem dX3_putIn_1 : decode cX3_putIn 1 = .ok (.ifCond .lt 12, 3) := by decide +kernel
theorem dX3_putIn_4 : decode cX3_putIn 4 = .ok (.iload_n 1, 1) := by decide +kernel
theorem dX3_putIn_5 : decode cX3_putIn 5 = .ok (.aload_n 0, 1) := by decide +kernel
theorem dX3_putIn_6 : decode cX3_putIn 6 = .ok (.getfield 15, 3) := by decide +kernel
theorem dX3_putIn_9 : decode cX3_putIn 9 = .ok (.arraylength, 1) := by decide +kernel
theorem dX3_putIn_10 : decode cX3_putIn 10 = .ok (.if_icmp .lt 4, 3) := by decide +kernel
theorem dX3_putIn_13 : decode cX3_putIn 13 = .ok (.return_, 1) := by decide +kernel
theorem dX3_putIn_14 : decode cX3_putIn 14 = .ok (.aload_n 0, 1) := by decide +kernel
theorem dX3_putIn_15 : decode cX3_putIn 15 = .ok (.getfield 15, 3) := by decide +kernel
theorem dX3_putIn_18 : decode cX3_putIn 18 = .ok (.iload_n 1, 1) := by decide +kernel
theorem dX3_putIn_19 : decode cX3_putIn 19 = .ok (.aaload, 1) := by decide +kernel
theorem dX3_putIn_20 : decode cX3_putIn 20 = .ok (.astore_n 3, 1) := by decide +kernel
theorem dX3_putIn_21 : decode cX3_putIn 21 = .ok (.aload_n 3, 1) := by decide +kernel
theorem dX3_putIn_22 : decode cX3_putIn 22 = .ok (.ifnonnull 18, 3) := by decide +kernel
theorem dX3_putIn_25 : decode cX3_putIn 25 = .ok (.new 13, 3) := by decide +kernel
theorem dX3_putIn_28 : decode cX3_putIn 28 = .ok (.dup, 1) := by decide +kernel
theorem dX3_putIn_29 : decode cX3_putIn 29 = .ok (.invokespecial 21, 3) := by decide +kernel
theorem dX3_putIn_32 : decode cX3_putIn 32 = .ok (.astore_n 3, 1) := by decide +kernel
theorem dX3_putIn_33 : decode cX3_putIn 33 = .ok (.aload_n 0, 1) := by decide +kernel
theorem dX3_putIn_34 : decode cX3_putIn 34 = .ok (.getfield 15, 3) := by decide +kernel
theorem dX3_putIn_37 : decode cX3_putIn 37 = .ok (.iload_n 1, 1) := by decide +kernel
theorem dX3_putIn_38 : decode cX3_putIn 38 = .ok (.aload_n 3, 1) := by decide +kernel
theorem dX3_putIn_39 : decode cX3_putIn 39 = .ok (.aastore, 1) := by decide +kernel
theorem dX3_putIn_40 : decode cX3_putIn 40 = .ok (.aload_n 3, 1) := by decide +kernel
theorem dX3_putIn_41 : decode cX3_putIn 41 = .ok (.aload_n 2, 1) := by decide +kernel
theorem dX3_putIn_42 : decode cX3_putIn 42 = .ok (.invokevirtual 22, 3) := by decide +kernel
theorem dX3_putIn_45 : decode cX3_putIn 45 = .ok (.return_, 1) := by decide +kernel
theorem dX3_takeOut_0 : decode cX3_takeOut 0 = .ok (.iload_n 1, 1) := by decide +kernel
theorem dX3_takeOut_1 : decode cX3_takeOut 1 = .ok (.ifCond .lt 21, 3) := by decide +kernel
theorem dX3_takeOut_4 : decode cX3_takeOut 4 = .ok (.iload_n 1, 1) := by decide +kernel
theorem dX3_takeOut_5 : decode cX3_takeOut 5 = .ok (.aload_n 0, 1) := by decide +kernel
theorem dX3_takeOut_6 : decode cX3_takeOut 6 = .ok (.getfield 15, 3) := by decide +kernel
theorem dX3_takeOut_9 : decode cX3_takeOut 9 = .ok (.arraylength, 1) := by decide +kernel
theorem dX3_takeOut_10 : decode cX3_takeOut 10 = .ok (.if_icmp .ge 12, 3) := by decide +kernel
theorem dX3_takeOut_13 : decode cX3_takeOut 13 = .ok (.aload_n 0, 1) := by decide +kernel
theorem dX3_takeOut_14 : decode cX3_takeOut 14 = .ok (.getfield 15, 3) := by decide +kernel
theorem dX3_takeOut_17 : decode cX3_takeOut 17 = .ok (.iload_n 1, 1) := by decide +kernel
theorem dX3_takeOut_18 : decode cX3_takeOut 18 = .ok (.aaload, 1) := by decide +kernel
theorem dX3_takeOut_19 : decode cX3_takeOut 19 = .ok (.goto 4, 3) := by decide +kernel
theorem dX3_takeOut_22 : decode cX3_takeOut 22 = .ok (.aconst_null, 1) := by decide +kernel
theorem dX3_takeOut_23 : decode cX3_takeOut 23 = .ok (.astore_n 3, 1) := by decide +kernel
theorem dX3_takeOut_24 : decode cX3_takeOut 24 = .ok (.aload_n 3, 1) := by decide +kernel
theorem dX3_takeOut_25 : decode cX3_takeOut 25 = .ok (.ifnull 8, 3) := by decide +kernel
theorem dX3_takeOut_28 : decode cX3_takeOut 28 = .ok (.aload_n 2, 1) := by decide +kernel
theorem dX3_takeOut_29 : decode cX3_takeOut 29 = .ok (.aload_n 3, 1) := by decide +kernel
theorem dX3_takeOut_30 : decode cX3_takeOut 30 = .ok (.invokevirtual 22, 3) := by decide +kernel
theorem dX3_takeOut_33 : decode cX3_takeOut 33 = .ok (.return_, 1) := by decide +kernel
theorem dX4_init_0 : decode cX4_init 0 = .ok (.aload_n 0, 1) := by decide +kernel
theorem dX4_init_1 : decode cX4_init 1 = .ok (.invokespecial 3, 3) := by decide +kernel
theorem dX4_init_4 : decode cX4_init 4 = .ok (.aload_n 0, 1) := by decide +kernel
theorem dX4_init_5 : decode cX4_init 5 = .ok (.new 9, 3) := by decide +kernel
theorem dX4_init_8 : decode cX4_init 8 = .ok (.dup, 1) := by decide +kernel
theorem dX4_init_9 : decode cX4_init 9 = .ok (.sipush 600, 3) := by decide +kernel
theorem dX4_init_12 : decode cX4_init 12 = .ok (.invokespecial 11, 3) := by decide +kernel
theorem dX4_init_15 : decode cX4_init 15 = .ok (.putfield 14, 3) := by decide +kernel
theorem dX4_init_18 : decode cX4_init 18 = .ok (.aload_n 0, 1) := by decide +kernel
theorem dX4_init_19 : decode cX4_init 19 = .ok (.iconst 0, 1) := by decide +kernel
theorem dX4_init_20 : decode cX4_init 20 = .ok (.putfield 20, 3) := by decide +kernel
theorem dX4_init_23 : decode cX4_init 23 = .ok (.aload_n 0, 1) := by decide +kernel
theorem dX4_init_24 : decode cX4_init 24 = .ok (.iconst 0, 1) := by decide +kernel
theorem dX4_init_25 : decode cX4_init 25 = .ok (.putfield 24, 3) := by decide +kernel
theorem dX4_init_28 : decode cX4_init 28 = .ok (.aload_n 0, 1) := by decide +kernel
theorem dX4_init_29 : decode cX4_init 29 = .ok (.iconst (-1), 1) := by decide +kernel
theorem dX4_init_30 : decode cX4_init 30 = .ok (.putfield 27, 3) := by decide +kernel
theorem dX4_init_33 : decode cX4_init 33 = .ok (.aload_n 0, 1) := by decide +kernel
theorem dX4_init_34 : decode cX4_init 34 = .ok (.iconst 0, 1) := by decide +kernel
theorem dX4_init_35 : decode cX4_init 35 = .ok (.putfield 30, 3) := by decide +kernel
theorem dX4_init_38 : decode cX4_init 38 = .ok (.aload_n 0, 1) := by decide +kernel
theorem dX4_init_39 : decode cX4_init 39 = .ok (.iconst 0, 1) := by decide +kernel
theorem dX4_init_40 : decode cX4_init 40 = .ok (.putfield 33, 3) := by decide +kernel
theorem dX4_init_43 : decode cX4_init 43 = .ok (.aload_n 0, 1) := by decide +kernel
theorem dX4_init_44 : decode cX4_init 44 = .ok (.iconst 0, 1) := by decide +kernel
theorem dX4_init_45 : decode cX4_init 45 = .ok (.putfield 36, 3) := by decide +kernel
theorem dX4_init_48 : decode cX4_init 48 = .ok (.aload_n 0, 1) := by decide +kernel
theorem dX4_init_49 : decode cX4_init 49 = .ok (.iconst 0, 1) := by decide +kernel
theorem dX4_init_50 : decode cX4_init 50 = .ok (.putfield 39, 3) := by decide +kernel
theorem dX4_init_53 : decode cX4_init 53 = .ok (.aload_n 0, 1) := by decide +kernel
theorem dX4_init_54 : decode cX4_init 54 = .ok (.iconst 0, 1) := by decide +kernel
theorem dX4_init_55 : decode cX4_init 55 = .ok (.putfield 42, 3) := by decide +kernel
theorem dX4_init_58 : decode cX4_init 58 = .ok (.return_, 1) := by decide +kernel
theorem dX4_addBytes_0 : decode cX4_addBytes 0 = .ok (.bipush 24, 2) := by decide +kernel
theorem dX4_addBytes_2 : decode cX4_addBytes 2 = .ok (.istore_n 2, 1) := by decide +kernel
theorem dX4_addBytes_3 : decode cX4_addBytes 3 = .ok (.iload_n 2, 1) := by decide +kernel
theorem dX4_addBytes_4 : decode cX4_addBytes 4 = .ok (.ifCond .lt 43, 3) := by decide +kernel
theorem dX4_addBytes_7 : decode cX4_addBytes 7 = .ok (.iload_n 1, 1) := by decide +kernel
theorem dX4_addBytes_8 : decode cX4_addBytes 8 = .ok (.iload_n 2, 1) := by decide +kernel
theorem dX4_addBytes_9 : decode cX4_addBytes 9 = .ok (.iushr, 1) := by decide +kernel
theorem dX4_addBytes_10 : decode cX4_addBytes 10 = .ok (.sipush 255, 3) := by decide +kernel
theorem dX4_addBytes_13 : decode cX4_addBytes 13 = .ok (.iand, 1) := by decide +kernel
theorem dX4_addBytes_14 : decode cX4_addBytes 14 = .ok (.istore_n 3, 1) := by decide +kernel
theorem dX4_addBytes_15 : decode cX4_addBytes 15 = .ok (.iload_n 3, 1) := by decide +kernel
theorem dX4_addBytes_16 : decode cX4_addBytes 16 = .ok (.ifCond .eq 25, 3) := by decide +kernel
theorem dX4_addBytes_19 : decode cX4_addBytes 19 = .ok (.aload_n 0, 1) := by decide +kernel
theorem dX4_addBytes_20 : decode cX4_addBytes 20 = .ok (.getfield 14, 3) := by decide +kernel
theorem dX4_addBytes_23 : decode cX4_addBytes 23 = .ok (.aload_n 0, 1) := by decide +kernel
theorem dX4_addBytes_24 : decode cX4_addBytes 24 = .ok (.getfield 20, 3) := by decide +kernel
theorem dX4_addBytes_27 : decode cX4_addBytes 27 = .ok (.iload_n 3, 1) := by decide +kernel
theorem dX4_addBytes_28 : decode cX4_addBytes 28 = .ok (.invokevirtual 45, 3) := by decide +kernel
theorem dX4_addBytes_31 : decode cX4_addBytes 31 = .ok (.aload_n 0, 1) := by decide +kernel
theorem dX4_addBytes_32 : decode cX4_addBytes 32 = .ok (.dup, 1) := by decide +kernel
theorem dX4_addBytes_33 : decode cX4_addBytes 33 = .ok (.getfield 20, 3) := by decide +kernel
theorem dX4_addBytes_36 : decode cX4_addBytes 36 = .ok (.iconst 1, 1) := by decide +kernel
theorem dX4_addBytes_37 : decode cX4_addBytes 37 = .ok (.iadd, 1) := by decide +kernel
theorem dX4_addBytes_38 : decode cX4_addBytes 38 = .ok (.putfield 20, 3) := by decide +kernel
theorem dX4_addBytes_41 : decode cX4_addBytes 41 = .ok (.iinc 2 (-8), 3) := by decide +kernel
theorem dX4_addBytes_44 : decode cX4_addBytes 44 = .ok (.goto (-41), 3) := by decide +kernel
theorem dX4_addBytes_47 : decode cX4_addBytes 47 = .ok (.return_, 1) := by decide +kernel
theorem dX4_readPiece_0 : decode cX4_readPiece 0 = .ok (.aload_n 0, 1) := by decide +kernel
theorem dX4_readPiece_1 : decode cX4_readPiece 1 = .ok (.invokevirtual 49, 3) := by decide +kernel
theorem dX4_readPiece_4 : decode cX4_readPiece 4 = .ok (.aload_n 1, 1) := by decide +kernel
theorem dX4_readPiece_5 : decode cX4_readPiece 5 = .ok (.invokevirtual 52, 3) := by decide +kernel
theorem dX4_readPiece_8 : decode cX4_readPiece 8 = .ok (.aload_n 0, 1) := by decide +kernel
theorem dX4_readPiece_9 : decode cX4_readPiece 9 = .ok (.aload_n 1, 1) := by decide +kernel
theorem dX4_readPiece_10 : decode cX4_readPiece 10 = .ok (.invokevirtual 57, 3) := by decide +kernel
theorem dX4_readPiece_13 : decode cX4_readPiece 13 = .ok (.ifCond .eq 38, 3) := by decide +kernel
theorem dX4_readPiece_16 : decode cX4_readPiece 16 = .ok (.aload_n 0, 1) := by decide +kernel
theorem dX4_readPiece_17 : decode cX4_readPiece 17 = .ok (.aload_n 1, 1) := by decide +kernel
theorem dX4_readPiece_18 : decode cX4_readPiece 18 = .ok (.invokevirtual 61, 3) := by decide +kernel
theorem dX4_readPiece_21 : decode cX4_readPiece 21 = .ok (.ifCond .eq 30, 3) := by decide +kernel
theorem dX4_readPiece_24 : decode cX4_readPiece 24 = .ok (.aload_n 0, 1) := by decide +kernel
theorem dX4_readPiece_25 : decode cX4_readPiece 25 = .ok (.aload_n 1, 1) := by decide +kernel
theorem dX4_readPiece_26 : decode cX4_readPiece 26 = .ok (.invokevirtual 64, 3) := by decide +kernel
theorem dX4_readPiece_29 : decode cX4_readPiece 29 = .ok (.ifCond .eq 22, 3) := by decide +kernel
theorem dX4_readPiece_32 : decode cX4_readPiece 32 = .ok (.aload_n 0, 1) := by decide +kernel
theorem dX4_readPiece_33 : decode cX4_readPiece 33 = .ok (.aload_n 1, 1) := by decide +kernel
theorem dX4_readPiece_34 : decode cX4_readPiece 34 = .ok (.invokevirtual 67, 3) := by decide +kernel
theorem dX4_readPiece_37 : decode cX4_readPiece 37 = .ok (.ifCond .eq 14, 3) := by decide +kernel
theorem dX4_readPiece_40 : decode cX4_readPiece 40 = .ok (.aload_n 0, 1) := by decide +kernel
theorem dX4_readPiece_41 : decode cX4_readPiece 41 = .ok (.invokevirtual 70, 3) := by decide +kernel
theorem dX4_readPiece_44 : decode cX4_readPiece 44 = .ok (.ifCond .eq 7, 3) := by decide +kernel
theorem dX4_readPiece_47 : decode cX4_readPiece 47 = .ok (.iconst 1, 1) := by decide +kernel
theorem dX4_readPiece_48 : decode cX4_readPiece 48 = .ok (.goto 4, 3) := by decide +kernel
theorem dX4_readPiece_51 : decode cX4_readPiece 51 = .ok (.iconst 0, 1) := by decide +kernel
theorem dX4_readPiece_52 : decode cX4_readPiece 52 = .ok (.ireturn, 1) := by decide +kernel
theorem dX4_readFingering_0 : decode cX4_readFingering 0 = .ok (.aload_n 0, 1) := by decide +kernel
theorem dX4_readFingering_1 : decode cX4_readFingering 1 = .ok (.invokevirtual 49, 3) := by decide +kernel
theorem dX4_readFingering_4 : decode cX4_readFingering 4 = .ok (.iconst 0, 1) := by decide +kernel
theorem dX4_readFingering_5 : decode cX4_readFingering 5 = .ok (.istore_n 3, 1) := by decide +kernel
theorem dX4_readFingering_6 : decode cX4_readFingering 6 = .ok (.iload_n 3, 1) := by decide +kernel
theorem dX4_readFingering_7 : decode cX4_readFingering 7 = .ok (.aload_n 1, 1) := by decide +kernel
theorem dX4_readFingering_8 : decode cX4_readFingering 8 = .ok (.getfield 74, 3) := by decide +kernel
theorem dX4_readFingering_11 : decode cX4_readFingering 11 = .ok (.if_icmp .ge 71, 3) := by decide +kernel
theorem dX4_readFingering_14 : decode cX4_readFingering 14 = .ok (.iconst 0, 1) := by decide +kernel
theorem dX4_readFingering_15 : decode cX4_readFingering 15 = .ok (.istore 4, 2) := by decide +kernel
theorem dX4_readFingering_17 : decode cX4_readFingering 17 = .ok (.iload 4, 2) := by decide +kernel
theorem dX4_readFingering_19 : decode cX4_readFingering 19 = .ok (.aload_n 1, 1) := by decide +kernel
theorem dX4_readFingering_20 : decode cX4_readFingering 20 = .ok (.getfield 77, 3) := by decide +kernel
theorem dX4_readFingering_23 : decode cX4_readFingering 23 = .ok (.iload_n 3, 1) := by decide +kernel
theorem dX4_readFingering_24 : decode cX4_readFingering 24 = .ok (.invokevirtual 80, 3) := by decide +kernel
theorem dX4_readFingering_27 : decode cX4_readFingering 27 = .ok (.if_icmp .ge 49, 3) := by decide +kernel
theorem dX4_readFingering_30 : decode cX4_readFingering 30 = .ok (.aload_n 0, 1) := by decide +kernel
theorem dX4_readFingering_31 : decode cX4_readFingering 31 = .ok (.getfield 30, 3) := by decide +kernel
theorem dX4_readFingering_34 : decode cX4_readFingering 34 = .ok (.ifCond .ne 10, 3) := by decide +kernel
theorem dX4_readFingering_37 : decode cX4_readFingering 37 = .ok (.aload_n 0, 1) := by decide +kernel
theorem dX4_readFingering_38 : decode cX4_readFingering 38 = .ok (.bipush (-4), 2) := by decide +kernel
theorem dX4_readFingering_40 : decode cX4_readFingering 40 = .ok (.invokevirtual 84, 3) := by decide +kernel
theorem dX4_readFingering_43 : decode cX4_readFingering 43 = .ok (.ireturn, 1) := by decide +kernel
theorem dX4_readFingering_44 : decode cX4_readFingering 44 = .ok (.aload_n 0, 1) := by decide +kernel
theorem dX4_readFingering_45 : decode cX4_readFingering 45 = .ok (.iconst 1, 1) := by decide +kernel
theorem dX4_readFingering_46 : decode cX4_readFingering 46 = .ok (.iconst 5, 1) := by decide +kernel
theorem dX4_readFingering_47 : decode cX4_readFingering 47 = .ok (.iconst 1, 1) := by decide +kernel
theorem dX4_readFingering_48 : decode cX4_readFingering 48 = .ok (.invokevirtual 88, 3) := by decide +kernel
theorem dX4_readFingering_51 : decode cX4_readFingering 51 = .ok (.ifCond .ne 5, 3) := by decide +kernel
theorem dX4_readFingering_54 : decode cX4_readFingering 54 = .ok (.iconst 0, 1) := by decide +kernel
theorem dX4_readFingering_55 : decode cX4_readFingering 55 = .ok (.ireturn, 1) := by decide +kernel
theorem dX4_readFingering_56 : decode cX4_readFingering 56 = .ok (.aload_n 2, 1) := by decide +kernel
theorem dX4_readFingering_57 : decode cX4_readFingering 57 = .ok (.iload_n 3, 1) := by decide +kernel
theorem dX4_readFingering_58 : decode cX4_readFingering 58 = .ok (.iload 4, 2) := by decide +kernel
theorem dX4_readFingering_60 : decode cX4_readFingering 60 = .ok (.invokestatic 92, 3) := by decide +kernel
theorem dX4_readFingering_63 : decode cX4_readFingering 63 = .ok (.aload_n 0, 1) := by decide +kernel
theorem dX4_readFingering_64 : decode cX4_readFingering 64 = .ok (.getfield 42, 3) := by decide +kernel
theorem dX4_readFingering_67 : decode cX4_readFingering 67 = .ok (.invokevirtual 45, 3) := by decide +kernel
theorem dX4_readFingering_70 : decode cX4_readFingering 70 = .ok (.iinc 4 1, 3) := by decide +kernel
theorem dX4_readFingering_73 : decode cX4_readFingering 73 = .ok (.goto (-56), 3) := by decide +kernel
theorem dX4_readFingering_76 : decode cX4_readFingering 76 = .ok (.iinc 3 1, 3) := by decide +kernel
theorem dX4_readFingering_79 : decode cX4_readFingering 79 = .ok (.goto (-73), 3) := by decide +kernel
theorem dX4_readFingering_82 : decode cX4_readFingering 82 = .ok (.aload_n 0, 1) := by decide +kernel
theorem dX4_readFingering_83 : decode cX4_readFingering 83 = .ok (.getfield 30, 3) := by decide +kernel
theorem dX4_readFingering_86 : decode cX4_readFingering 86 = .ok (.iconst 2, 1) := by decide +kernel
theorem dX4_readFingering_87 : decode cX4_readFingering 87 = .ok (.if_icmp .ne 12, 3) := by decide +kernel
theorem dX4_readFingering_90 : decode cX4_readFingering 90 = .ok (.aload_n 0, 1) := by decide +kernel
theorem dX4_readFingering_91 : decode cX4_readFingering 91 = .ok (.bipush (-5), 2) := by decide +kernel
theorem dX4_readFingering_93 : decode cX4_readFingering 93 = .ok (.invokevirtual 84, 3) := by decide +kernel
theorem dX4_readFingering_96 : decode cX4_readFingering 96 = .ok (.goto 7, 3) := by decide +kernel
theorem dX4_readFingering_99 : decode cX4_readFingering 99 = .ok (.aload_n 0, 1) := by decide +kernel
theorem dX4_readFingering_100 : decode cX4_readFingering 100 = .ok (.invokevirtual 70, 3) := by decide +kernel
theorem dX4_readFingering_103 : decode cX4_readFingering 103 = .ok (.ireturn, 1) := by decide +kernel
theorem dX4_readHand_0 : decode cX4_readHand 0 = .ok (.aload_n 0, 1) := by decide +kernel
theorem dX4_readHand_1 : decode cX4_readHand 1 = .ok (.ldc 96, 2) := by decide +kernel
theorem dX4_readHand_3 : decode cX4_readHand 3 = .ok (.invokevirtual 98, 3) := by decide +kernel
theorem dX4_readHand_6 : decode cX4_readHand 6 = .ok (.ifCond .ne 5, 3) := by decide +kernel
theorem dX4_readHand_9 : decode cX4_readHand 9 = .ok (.iconst 0, 1) := by decide +kernel
theorem dX4_readHand_10 : decode cX4_readHand 10 = .ok (.ireturn, 1) := by decide +kernel
theorem dX4_readHand_11 : decode cX4_readHand 11 = .ok (.aload_n 1, 1) := by decide +kernel
theorem dX4_readHand_12 : decode cX4_readHand 12 = .ok (.aload_n 0, 1) := by decide +kernel
theorem dX4_readHand_13 : decode cX4_readHand 13 = .ok (.ldc 102, 2) := by decide +kernel
theorem dX4_readHand_15 : decode cX4_readHand 15 = .ok (.invokevirtual 104, 3) := by decide +kernel
theorem dX4_readHand_18 : decode cX4_readHand 18 = .ok (.putfield 107, 3) := by decide +kernel
theorem dX4_readHand_21 : decode cX4_readHand 21 = .ok (.aload_n 0, 1) := by decide +kernel
theorem dX4_readHand_22 : decode cX4_readHand 22 = .ok (.aload_n 1, 1) := by decide +kernel
theorem dX4_readHand_23 : decode cX4_readHand 23 = .ok (.getfield 107, 3) := by decide +kernel
theorem dX4_readHand_26 : decode cX4_readHand 26 = .ok (.ifCond .eq 8, 3) := by decide +kernel
theorem dX4_readHand_29 : decode cX4_readHand 29 = .ok (.ldc 102, 2) := by decide +kernel
theorem dX4_readHand_31 : decode cX4_readHand 31 = .ok (.goto 5, 3) := by decide +kernel
theorem dX4_readHand_34 : decode cX4_readHand 34 = .ok (.ldc 110, 2) := by decide +kernel
theorem dX4_readHand_36 : decode cX4_readHand 36 = .ok (.invokevirtual 98, 3) := by decide +kernel
theorem dX4_readHand_39 : decode cX4_readHand 39 = .ok (.ifCond .eq 14, 3) := by decide +kernel
theorem dX4_readHand_42 : decode cX4_readHand 42 = .ok (.aload_n 0, 1) := by decide +kernel
theorem dX4_readHand_43 : decode cX4_readHand 43 = .ok (.invokevirtual 112, 3) := by decide +kernel
theorem dX4_readHand_46 : decode cX4_readHand 46 = .ok (.ifCond .eq 7, 3) := by decide +kernel
theorem dX4_readHand_49 : decode cX4_readHand 49 = .ok (.iconst 1, 1) := by decide +kernel
theorem dX4_readHand_50 : decode cX4_readHand 50 = .ok (.goto 4, 3) := by decide +kernel
theorem dX4_readHand_53 : decode cX4_readHand 53 = .ok (.iconst 0, 1) := by decide +kernel
theorem dX4_readHand_54 : decode cX4_readHand 54 = .ok (.ireturn, 1) := by decide +kernel
theorem dX4_readWeights_0 : decode cX4_readWeights 0 = .ok (.iconst 0, 1) := by decide +kernel
theorem dX4_readWeights_1 : decode cX4_readWeights 1 = .ok (.istore_n 2, 1) := by decide +kernel
theorem dX4_readWeights_2 : decode cX4_readWeights 2 = .ok (.iload_n 2, 1) := by decide +kernel
theorem dX4_readWeights_3 : decode cX4_readWeights 3 = .ok (.sipush 600, 3) := by decide +kernel
theorem dX4_readWeights_6 : decode cX4_readWeights 6 = .ok (.if_icmp .ge 77, 3) := by decide +kernel
theorem dX4_readWeights_9 : decode cX4_readWeights 9 = .ok (.aload_n 0, 1) := by decide +kernel
theorem dX4_readWeights_10 : decode cX4_readWeights 10 = .ok (.ldc 115, 2) := by decide +kernel
theorem dX4_readWeights_12 : decode cX4_readWeights 12 = .ok (.invokevirtual 104, 3) := by decide +kernel
theorem dX4_readWeights_15 : decode cX4_readWeights 15 = .ok (.ifCond .eq 68, 3) := by decide +kernel
theorem dX4_readWeights_18 : decode cX4_readWeights 18 = .ok (.aload_n 0, 1) := by decide +kernel
theorem dX4_readWeights_19 : decode cX4_readWeights 19 = .ok (.invokevirtual 117, 3) := by decide +kernel
theorem dX4_readWeights_22 : decode cX4_readWeights 22 = .ok (.aload_n 0, 1) := by decide +kernel
theorem dX4_readWeights_23 : decode cX4_readWeights 23 = .ok (.invokevirtual 120, 3) := by decide +kernel
theorem dX4_readWeights_26 : decode cX4_readWeights 26 = .ok (.istore_n 3, 1) := by decide +kernel
theorem dX4_readWeights_27 : decode cX4_readWeights 27 = .ok (.iload_n 3, 1) := by decide +kernel
theorem dX4_readWeights_28 : decode cX4_readWeights 28 = .ok (.iconst (-1), 1) := by decide +kernel
theorem dX4_readWeights_29 : decode cX4_readWeights 29 = .ok (.if_icmp .ne 10, 3) := by decide +kernel
theorem dX4_readWeights_32 : decode cX4_readWeights 32 = .ok (.aload_n 0, 1) := by decide +kernel
theorem dX4_readWeights_33 : decode cX4_readWeights 33 = .ok (.bipush (-2), 2) := by decide +kernel
theorem dX4_readWeights_35 : decode cX4_readWeights 35 = .ok (.invokevirtual 84, 3) := by decide +kernel
theorem dX4_readWeights_38 : decode cX4_readWeights 38 = .ok (.ireturn, 1) := by decide +kernel
theorem dX4_readWeights_39 : decode cX4_readWeights 39 = .ok (.aload_n 0, 1) := by decide +kernel
theorem dX4_readWeights_40 : decode cX4_readWeights 40 = .ok (.invokevirtual 117, 3) := by decide +kernel
theorem dX4_readWeights_43 : decode cX4_readWeights 43 = .ok (.aload_n 0, 1) := by decide +kernel
theorem dX4_readWeights_44 : decode cX4_readWeights 44 = .ok (.iconst 0, 1) := by decide +kernel
theorem dX4_readWeights_45 : decode cX4_readWeights 45 = .ok (.bipush 99, 2) := by decide +kernel
theorem dX4_readWeights_47 : decode cX4_readWeights 47 = .ok (.iconst 0, 1) := by decide +kernel
theorem dX4_readWeights_48 : decode cX4_readWeights 48 = .ok (.invokevirtual 88, 3) := by decide +kernel
theorem dX4_readWeights_51 : decode cX4_readWeights 51 = .ok (.ifCond .ne 5, 3) := by decide +kernel
theorem dX4_readWeights_54 : decode cX4_readWeights 54 = .ok (.iconst 0, 1) := by decide +kernel
theorem dX4_readWeights_55 : decode cX4_readWeights 55 = .ok (.ireturn, 1) := by decide +kernel
theorem dX4_readWeights_56 : decode cX4_readWeights 56 = .ok (.aload_n 1, 1) := by decide +kernel
theorem dX4_readWeights_57 : decode cX4_readWeights 57 = .ok (.getfield 124, 3) := by decide +kernel
theorem dX4_readWeights_60 : decode cX4_readWeights 60 = .ok (.iload_n 3, 1) := by decide +kernel
theorem dX4_readWeights_61 : decode cX4_readWeights 61 = .ok (.aload_n 0, 1) := by decide +kernel
theorem dX4_readWeights_62 : decode cX4_readWeights 62 = .ok (.getfield 42, 3) := by decide +kernel
theorem dX4_readWeights_65 : decode cX4_readWeights 65 = .ok (.invokevirtual 45, 3) := by decide +kernel
theorem dX4_readWeights_68 : decode cX4_readWeights 68 = .ok (.aload_n 0, 1) := by decide +kernel
theorem dX4_readWeights_69 : decode cX4_readWeights 69 = .ok (.invokevirtual 112, 3) := by decide +kernel
theorem dX4_readWeights_72 : decode cX4_readWeights 72 = .ok (.ifCond .ne 5, 3) := by decide +kernel
theorem dX4_readWeights_75 : decode cX4_readWeights 75 = .ok (.iconst 0, 1) := by decide +kernel
theorem dX4_readWeights_76 : decode cX4_readWeights 76 = .ok (.ireturn, 1) := by decide +kernel
theorem dX4_readWeights_77 : decode cX4_readWeights 77 = .ok (.iinc 2 1, 3) := by decide +kernel
theorem dX4_readWeights_80 : decode cX4_readWeights 80 = .ok (.goto (-78), 3) := by decide +kernel
theorem dX4_readWeights_83 : decode cX4_readWeights 83 = .ok (.iconst 1, 1) := by decide +kernel
theorem dX4_readWeights_84 : decode cX4_readWeights 84 = .ok (.ireturn, 1) := by decide +kernel
theorem dX4_weightNamed_0 : decode cX4_weightNamed 0 = .ok (.aload_n 0, 1) := by decide +kernel
theorem dX4_weightNamed_1 : decode cX4_weightNamed 1 = .ok (.ldc 127, 2) := by decide +kernel
theorem dX4_weightNamed_3 : decode cX4_weightNamed 3 = .ok (.invokevirtual 104, 3) := by decide +kernel
theorem dX4_weightNamed_6 : decode cX4_weightNamed 6 = .ok (.ifCond .eq 5, 3) := by decide +kernel
theorem dX4_weightNamed_9 : decode cX4_weightNamed 9 = .ok (.iconst 0, 1) := by decide +kernel
theorem dX4_weightNamed_10 : decode cX4_weightNamed 10 = .ok (.ireturn, 1) := by decide +kernel
theorem dX4_weightNamed_11 : decode cX4_weightNamed 11 = .ok (.aload_n 0, 1) := by decide +kernel
theorem dX4_weightNamed_12 : decode cX4_weightNamed 12 = .ok (.ldc 129, 2) := by decide +kernel
theorem dX4_weightNamed_14 : decode cX4_weightNamed 14 = .ok (.invokevirtual 104, 3) := by decide +kernel
theorem dX4_weightNamed_17 : decode cX4_weightNamed 17 = .ok (.ifCond .eq 5, 3) := by decide +kernel
theorem dX4_weightNamed_20 : decode cX4_weightNamed 20 = .ok (.iconst 1, 1) := by decide +kernel
theorem dX4_weightNamed_21 : decode cX4_weightNamed 21 = .ok (.ireturn, 1) := by decide +kernel
theorem dX4_weightNamed_22 : decode cX4_weightNamed 22 = .ok (.aload_n 0, 1) := by decide +kernel
theorem dX4_weightNamed_23 : decode cX4_weightNamed 23 = .ok (.ldc 131, 2) := by decide +kernel
theorem dX4_weightNamed_25 : decode cX4_weightNamed 25 = .ok (.invokevirtual 104, 3) := by decide +kernel
theorem dX4_weightNamed_28 : decode cX4_weightNamed 28 = .ok (.ifCond .eq 5, 3) := by decide +kernel
theorem dX4_weightNamed_31 : decode cX4_weightNamed 31 = .ok (.iconst 2, 1) := by decide +kernel
theorem dX4_weightNamed_32 : decode cX4_weightNamed 32 = .ok (.ireturn, 1) := by decide +kernel
theorem dX4_weightNamed_33 : decode cX4_weightNamed 33 = .ok (.aload_n 0, 1) := by decide +kernel
theorem dX4_weightNamed_34 : decode cX4_weightNamed 34 = .ok (.ldc 133, 2) := by decide +kernel
theorem dX4_weightNamed_36 : decode cX4_weightNamed 36 = .ok (.invokevirtual 104, 3) := by decide +kernel
theorem dX4_weightNamed_39 : decode cX4_weightNamed 39 = .ok (.ifCond .eq 5, 3) := by decide +kernel
theorem dX4_weightNamed_42 : decode cX4_weightNamed 42 = .ok (.iconst 3, 1) := by decide +kernel
theorem dX4_weightNamed_43 : decode cX4_weightNamed 43 = .ok (.ireturn, 1) := by decide +kernel
theorem dX4_weightNamed_44 : decode cX4_weightNamed 44 = .ok (.aload_n 0, 1) := by decide +kernel
theorem dX4_weightNamed_45 : decode cX4_weightNamed 45 = .ok (.ldc 135, 2) := by decide +kernel
theorem dX4_weightNamed_47 : decode cX4_weightNamed 47 = .ok (.invokevirtual 104, 3) := by decide +kernel
theorem dX4_weightNamed_50 : decode cX4_weightNamed 50 = .ok (.ifCond .eq 5, 3) := by decide +kernel
theorem dX4_weightNamed_53 : decode cX4_weightNamed 53 = .ok (.iconst 4, 1) := by decide +kernel
theorem dX4_weightNamed_54 : decode cX4_weightNamed 54 = .ok (.ireturn, 1) := by decide +kernel
theorem dX4_weightNamed_55 : decode cX4_weightNamed 55 = .ok (.aload_n 0, 1) := by decide +kernel
theorem dX4_weightNamed_56 : decode cX4_weightNamed 56 = .ok (.ldc 137, 2) := by decide +kernel
theorem dX4_weightNamed_58 : decode cX4_weightNamed 58 = .ok (.invokevirtual 104, 3) := by decide +kernel
theorem dX4_weightNamed_61 : decode cX4_weightNamed 61 = .ok (.ifCond .eq 5, 3) := by decide +kernel
theorem dX4_weightNamed_64 : decode cX4_weightNamed 64 = .ok (.iconst 5, 1) := by decide +kernel
theorem dX4_weightNamed_65 : decode cX4_weightNamed 65 = .ok (.ireturn, 1) := by decide +kernel
theorem dX4_weightNamed_66 : decode cX4_weightNamed 66 = .ok (.aload_n 0, 1) := by decide +kernel
theorem dX4_weightNamed_67 : decode cX4_weightNamed 67 = .ok (.ldc 139, 2) := by decide +kernel
theorem dX4_weightNamed_69 : decode cX4_weightNamed 69 = .ok (.invokevirtual 104, 3) := by decide +kernel
theorem dX4_weightNamed_72 : decode cX4_weightNamed 72 = .ok (.ifCond .eq 6, 3) := by decide +kernel
theorem dX4_weightNamed_75 : decode cX4_weightNamed 75 = .ok (.bipush 6, 2) := by decide +kernel
theorem dX4_weightNamed_77 : decode cX4_weightNamed 77 = .ok (.ireturn, 1) := by decide +kernel
theorem dX4_weightNamed_78 : decode cX4_weightNamed 78 = .ok (.aload_n 0, 1) := by decide +kernel
theorem dX4_weightNamed_79 : decode cX4_weightNamed 79 = .ok (.ldc 141, 2) := by decide +kernel
theorem dX4_weightNamed_81 : decode cX4_weightNamed 81 = .ok (.invokevirtual 104, 3) := by decide +kernel
theorem dX4_weightNamed_84 : decode cX4_weightNamed 84 = .ok (.ifCond .eq 6, 3) := by decide +kernel
theorem dX4_weightNamed_87 : decode cX4_weightNamed 87 = .ok (.bipush 7, 2) := by decide +kernel
theorem dX4_weightNamed_89 : decode cX4_weightNamed 89 = .ok (.ireturn, 1) := by decide +kernel
theorem dX4_weightNamed_90 : decode cX4_weightNamed 90 = .ok (.aload_n 0, 1) := by decide +kernel
theorem dX4_weightNamed_91 : decode cX4_weightNamed 91 = .ok (.ldc 143, 2) := by decide +kernel
theorem dX4_weightNamed_93 : decode cX4_weightNamed 93 = .ok (.invokevirtual 104, 3) := by decide +kernel
theorem dX4_weightNamed_96 : decode cX4_weightNamed 96 = .ok (.ifCond .eq 6, 3) := by decide +kernel
theorem dX4_weightNamed_99 : decode cX4_weightNamed 99 = .ok (.bipush 8, 2) := by decide +kernel
theorem dX4_weightNamed_101 : decode cX4_weightNamed 101 = .ok (.ireturn, 1) := by decide +kernel
theorem dX4_weightNamed_102 : decode cX4_weightNamed 102 = .ok (.aload_n 0, 1) := by decide +kernel
theorem dX4_weightNamed_103 : decode cX4_weightNamed 103 = .ok (.ldc 145, 2) := by decide +kernel
theorem dX4_weightNamed_105 : decode cX4_weightNamed 105 = .ok (.invokevirtual 104, 3) := by decide +kernel
theorem dX4_weightNamed_108 : decode cX4_weightNamed 108 = .ok (.ifCond .eq 8, 3) := by decide +kernel
theorem dX4_weightNamed_111 : decode cX4_weightNamed 111 = .ok (.bipush 9, 2) := by decide +kernel
theorem dX4_weightNamed_113 : decode cX4_weightNamed 113 = .ok (.goto 4, 3) := by decide +kernel
theorem dX4_weightNamed_116 : decode cX4_weightNamed 116 = .ok (.iconst (-1), 1) := by decide +kernel
theorem dX4_weightNamed_117 : decode cX4_weightNamed 117 = .ok (.ireturn, 1) := by decide +kernel
theorem dX4_readSpans_0 : decode cX4_readSpans 0 = .ok (.iconst 0, 1) := by decide +kernel
theorem dX4_readSpans_1 : decode cX4_readSpans 1 = .ok (.istore_n 2, 1) := by decide +kernel
theorem dX4_readSpans_2 : decode cX4_readSpans 2 = .ok (.iload_n 2, 1) := by decide +kernel
theorem dX4_readSpans_3 : decode cX4_readSpans 3 = .ok (.sipush 600, 3) := by decide +kernel
theorem dX4_readSpans_6 : decode cX4_readSpans 6 = .ok (.if_icmp .ge 39, 3) := by decide +kernel
theorem dX4_readSpans_9 : decode cX4_readSpans 9 = .ok (.aload_n 0, 1) := by decide +kernel
theorem dX4_readSpans_10 : decode cX4_readSpans 10 = .ok (.ldc 147, 2) := by decide +kernel
theorem dX4_readSpans_12 : decode cX4_readSpans 12 = .ok (.invokevirtual 104, 3) := by decide +kernel
theorem dX4_readSpans_15 : decode cX4_readSpans 15 = .ok (.ifCond .eq 30, 3) := by decide +kernel
theorem dX4_readSpans_18 : decode cX4_readSpans 18 = .ok (.aload_n 0, 1) := by decide +kernel
theorem dX4_readSpans_19 : decode cX4_readSpans 19 = .ok (.invokevirtual 117, 3) := by decide +kernel
theorem dX4_readSpans_22 : decode cX4_readSpans 22 = .ok (.aload_n 0, 1) := by decide +kernel
theorem dX4_readSpans_23 : decode cX4_readSpans 23 = .ok (.aload_n 1, 1) := by decide +kernel
theorem dX4_readSpans_24 : decode cX4_readSpans 24 = .ok (.invokevirtual 149, 3) := by decide +kernel
theorem dX4_readSpans_27 : decode cX4_readSpans 27 = .ok (.ifCond .eq 10, 3) := by decide +kernel
theorem dX4_readSpans_30 : decode cX4_readSpans 30 = .ok (.aload_n 0, 1) := by decide +kernel
theorem dX4_readSpans_31 : decode cX4_readSpans 31 = .ok (.invokevirtual 112, 3) := by decide +kernel
theorem dX4_readSpans_34 : decode cX4_readSpans 34 = .ok (.ifCond .ne 5, 3) := by decide +kernel
theorem dX4_readSpans_37 : decode cX4_readSpans 37 = .ok (.iconst 0, 1) := by decide +kernel
theorem dX4_readSpans_38 : decode cX4_readSpans 38 = .ok (.ireturn, 1) := by decide +kernel
theorem dX4_readSpans_39 : decode cX4_readSpans 39 = .ok (.iinc 2 1, 3) := by decide +kernel
theorem dX4_readSpans_42 : decode cX4_readSpans 42 = .ok (.goto (-40), 3) := by decide +kernel
theorem dX4_readSpans_45 : decode cX4_readSpans 45 = .ok (.iconst 1, 1) := by decide +kernel
theorem dX4_readSpans_46 : decode cX4_readSpans 46 = .ok (.ireturn, 1) := by decide +kernel
theorem dX4_readSpan_0 : decode cX4_readSpan 0 = .ok (.aload_n 0, 1) := by decide +kernel
theorem dX4_readSpan_1 : decode cX4_readSpan 1 = .ok (.iconst 1, 1) := by decide +kernel
theorem dX4_readSpan_2 : decode cX4_readSpan 2 = .ok (.iconst 5, 1) := by decide +kernel
theorem dX4_readSpan_3 : decode cX4_readSpan 3 = .ok (.iconst 1, 1) := by decide +kernel
theorem dX4_readSpan_4 : decode cX4_readSpan 4 = .ok (.invokevirtual 88, 3) := by decide +kernel
theorem dX4_readSpan_7 : decode cX4_readSpan 7 = .ok (.ifCond .ne 5, 3) := by decide +kernel
theorem dX4_readSpan_10 : decode cX4_readSpan 10 = .ok (.iconst 0, 1) := by decide +kernel
theorem dX4_readSpan_11 : decode cX4_readSpan 11 = .ok (.ireturn, 1) := by decide +kernel
theorem dX4_readSpan_12 : decode cX4_readSpan 12 = .ok (.aload_n 0, 1) := by decide +kernel
theorem dX4_readSpan_13 : decode cX4_readSpan 13 = .ok (.getfield 42, 3) := by decide +kernel
theorem dX4_readSpan_16 : decode cX4_readSpan 16 = .ok (.istore_n 2, 1) := by decide +kernel
theorem dX4_readSpan_17 : decode cX4_readSpan 17 = .ok (.aload_n 0, 1) := by decide +kernel
theorem dX4_readSpan_18 : decode cX4_readSpan 18 = .ok (.iconst 1, 1) := by decide +kernel
theorem dX4_readSpan_19 : decode cX4_readSpan 19 = .ok (.iconst 5, 1) := by decide +kernel
theorem dX4_readSpan_20 : decode cX4_readSpan 20 = .ok (.iload_n 2, 1) := by decide +kernel
theorem dX4_readSpan_21 : decode cX4_readSpan 21 = .ok (.iconst 1, 1) := by decide +kernel
theorem dX4_readSpan_22 : decode cX4_readSpan 22 = .ok (.iadd, 1) := by decide +kernel
theorem dX4_readSpan_23 : decode cX4_readSpan 23 = .ok (.invokevirtual 88, 3) := by decide +kernel
theorem dX4_readSpan_26 : decode cX4_readSpan 26 = .ok (.ifCond .ne 5, 3) := by decide +kernel
theorem dX4_readSpan_29 : decode cX4_readSpan 29 = .ok (.iconst 0, 1) := by decide +kernel
theorem dX4_readSpan_30 : decode cX4_readSpan 30 = .ok (.ireturn, 1) := by decide +kernel
theorem dX4_readSpan_31 : decode cX4_readSpan 31 = .ok (.aload_n 0, 1) := by decide +kernel
theorem dX4_readSpan_32 : decode cX4_readSpan 32 = .ok (.getfield 42, 3) := by decide +kernel
theorem dX4_readSpan_35 : decode cX4_readSpan 35 = .ok (.istore_n 3, 1) := by decide +kernel
theorem dX4_readSpan_36 : decode cX4_readSpan 36 = .ok (.aload_n 0, 1) := by decide +kernel
theorem dX4_readSpan_37 : decode cX4_readSpan 37 = .ok (.iconst 1, 1) := by decide +kernel
theorem dX4_readSpan_38 : decode cX4_readSpan 38 = .ok (.bipush 24, 2) := by decide +kernel
theorem dX4_readSpan_40 : decode cX4_readSpan 40 = .ok (.iconst 1, 1) := by decide +kernel
theorem dX4_readSpan_41 : decode cX4_readSpan 41 = .ok (.invokevirtual 88, 3) := by decide +kernel
theorem dX4_readSpan_44 : decode cX4_readSpan 44 = .ok (.ifCond .ne 5, 3) := by decide +kernel
theorem dX4_readSpan_47 : decode cX4_readSpan 47 = .ok (.iconst 0, 1) := by decide +kernel
theorem dX4_readSpan_48 : decode cX4_readSpan 48 = .ok (.ireturn, 1) := by decide +kernel
theorem dX4_readSpan_49 : decode cX4_readSpan 49 = .ok (.aload_n 0, 1) := by decide +kernel
theorem dX4_readSpan_50 : decode cX4_readSpan 50 = .ok (.getfield 42, 3) := by decide +kernel
theorem dX4_readSpan_53 : decode cX4_readSpan 53 = .ok (.istore 4, 2) := by decide +kernel
theorem dX4_readSpan_55 : decode cX4_readSpan 55 = .ok (.aload_n 0, 1) := by decide +kernel
theorem dX4_readSpan_56 : decode cX4_readSpan 56 = .ok (.iconst 1, 1) := by decide +kernel
theorem dX4_readSpan_57 : decode cX4_readSpan 57 = .ok (.bipush 24, 2) := by decide +kernel
theorem dX4_readSpan_59 : decode cX4_readSpan 59 = .ok (.iload 4, 2) := by decide +kernel
theorem dX4_readSpan_61 : decode cX4_readSpan 61 = .ok (.invokevirtual 88, 3) := by decide +kernel
theorem dX4_readSpan_64 : decode cX4_readSpan 64 = .ok (.ifCond .ne 5, 3) := by decide +kernel
theorem dX4_readSpan_67 : decode cX4_readSpan 67 = .ok (.iconst 0, 1) := by decide +kernel
theorem dX4_readSpan_68 : decode cX4_readSpan 68 = .ok (.ireturn, 1) := by decide +kernel
theorem dX4_readSpan_69 : decode cX4_readSpan 69 = .ok (.aload_n 0, 1) := by decide +kernel
theorem dX4_readSpan_70 : decode cX4_readSpan 70 = .ok (.getfield 42, 3) := by decide +kernel
theorem dX4_readSpan_73 : decode cX4_readSpan 73 = .ok (.istore 5, 2) := by decide +kernel
theorem dX4_readSpan_75 : decode cX4_readSpan 75 = .ok (.aload_n 0, 1) := by decide +kernel
theorem dX4_readSpan_76 : decode cX4_readSpan 76 = .ok (.iconst 1, 1) := by decide +kernel
theorem dX4_readSpan_77 : decode cX4_readSpan 77 = .ok (.bipush 24, 2) := by decide +kernel
theorem dX4_readSpan_79 : decode cX4_readSpan 79 = .ok (.iload 5, 2) := by decide +kernel
theorem dX4_readSpan_81 : decode cX4_readSpan 81 = .ok (.invokevirtual 88, 3) := by decide +kernel
theorem dX4_readSpan_84 : decode cX4_readSpan 84 = .ok (.ifCond .ne 5, 3) := by decide +kernel
theorem dX4_readSpan_87 : decode cX4_readSpan 87 = .ok (.iconst 0, 1) := by decide +kernel
theorem dX4_readSpan_88 : decode cX4_readSpan 88 = .ok (.ireturn, 1) := by decide +kernel
theorem dX4_readSpan_89 : decode cX4_readSpan 89 = .ok (.aload_n 1, 1) := by decide +kernel
theorem dX4_readSpan_90 : decode cX4_readSpan 90 = .ok (.iload_n 2, 1) := by decide +kernel
theorem dX4_readSpan_91 : decode cX4_readSpan 91 = .ok (.iload_n 3, 1) := by decide +kernel
theorem dX4_readSpan_92 : decode cX4_readSpan 92 = .ok (.iload 4, 2) := by decide +kernel
theorem dX4_readSpan_94 : decode cX4_readSpan 94 = .ok (.iload 5, 2) := by decide +kernel
theorem dX4_readSpan_96 : decode cX4_readSpan 96 = .ok (.aload_n 0, 1) := by decide +kernel
theorem dX4_readSpan_97 : decode cX4_readSpan 97 = .ok (.getfield 42, 3) := by decide +kernel
theorem dX4_readSpan_100 : decode cX4_readSpan 100 = .ok (.invokevirtual 152, 3) := by decide +kernel
theorem dX4_readSpan_103 : decode cX4_readSpan 103 = .ok (.iconst 1, 1) := by decide +kernel
theorem dX4_readSpan_104 : decode cX4_readSpan 104 = .ok (.ireturn, 1) := by decide +kernel
theorem dX4_readEvents_0 : decode cX4_readEvents 0 = .ok (.iconst 0, 1) := by decide +kernel
theorem dX4_readEvents_1 : decode cX4_readEvents 1 = .ok (.istore_n 2, 1) := by decide +kernel
theorem dX4_readEvents_2 : decode cX4_readEvents 2 = .ok (.iload_n 2, 1) := by decide +kernel
theorem dX4_readEvents_3 : decode cX4_readEvents 3 = .ok (.bipush 40, 2) := by decide +kernel
theorem dX4_readEvents_5 : decode cX4_readEvents 5 = .ok (.if_icmp .gt 89, 3) := by decide +kernel
theorem dX4_readEvents_8 : decode cX4_readEvents 8 = .ok (.aload_n 0, 1) := by decide +kernel
theorem dX4_readEvents_9 : decode cX4_readEvents 9 = .ok (.ldc 156, 2) := by decide +kernel
theorem dX4_readEvents_11 : decode cX4_readEvents 11 = .ok (.invokevirtual 104, 3) := by decide +kernel
theorem dX4_readEvents_14 : decode cX4_readEvents 14 = .ok (.ifCond .eq 80, 3) := by decide +kernel
theorem dX4_readEvents_17 : decode cX4_readEvents 17 = .ok (.aload_n 1, 1) := by decide +kernel
theorem dX4_readEvents_18 : decode cX4_readEvents 18 = .ok (.getfield 74, 3) := by decide +kernel
theorem dX4_readEvents_21 : decode cX4_readEvents 21 = .ok (.bipush 40, 2) := by decide +kernel
theorem dX4_readEvents_23 : decode cX4_readEvents 23 = .ok (.if_icmp .lt 10, 3) := by decide +kernel
theorem dX4_readEvents_26 : decode cX4_readEvents 26 = .ok (.aload_n 0, 1) := by decide +kernel
theorem dX4_readEvents_27 : decode cX4_readEvents 27 = .ok (.bipush (-5), 2) := by decide +kernel
theorem dX4_readEvents_29 : decode cX4_readEvents 29 = .ok (.invokevirtual 84, 3) := by decide +kernel
theorem dX4_readEvents_32 : decode cX4_readEvents 32 = .ok (.ireturn, 1) := by decide +kernel
theorem dX4_readEvents_33 : decode cX4_readEvents 33 = .ok (.aload_n 0, 1) := by decide +kernel
theorem dX4_readEvents_34 : decode cX4_readEvents 34 = .ok (.invokevirtual 117, 3) := by decide +kernel
theorem dX4_readEvents_37 : decode cX4_readEvents 37 = .ok (.aload_n 1, 1) := by decide +kernel
theorem dX4_readEvents_38 : decode cX4_readEvents 38 = .ok (.aload_n 1, 1) := by decide +kernel
theorem dX4_readEvents_39 : decode cX4_readEvents 39 = .ok (.getfield 74, 3) := by decide +kernel
theorem dX4_readEvents_42 : decode cX4_readEvents 42 = .ok (.invokevirtual 158, 3) := by decide +kernel
theorem dX4_readEvents_45 : decode cX4_readEvents 45 = .ok (.aload_n 1, 1) := by decide +kernel
theorem dX4_readEvents_46 : decode cX4_readEvents 46 = .ok (.getfield 74, 3) := by decide +kernel
theorem dX4_readEvents_49 : decode cX4_readEvents 49 = .ok (.iconst 1, 1) := by decide +kernel
theorem dX4_readEvents_50 : decode cX4_readEvents 50 = .ok (.isub, 1) := by decide +kernel
theorem dX4_readEvents_51 : decode cX4_readEvents 51 = .ok (.istore_n 3, 1) := by decide +kernel
theorem dX4_readEvents_52 : decode cX4_readEvents 52 = .ok (.aload_n 0, 1) := by decide +kernel
theorem dX4_readEvents_53 : decode cX4_readEvents 53 = .ok (.aload_n 1, 1) := by decide +kernel
theorem dX4_readEvents_54 : decode cX4_readEvents 54 = .ok (.iload_n 3, 1) := by decide +kernel
theorem dX4_readEvents_55 : decode cX4_readEvents 55 = .ok (.invokevirtual 161, 3) := by decide +kernel
theorem dX4_readEvents_58 : decode cX4_readEvents 58 = .ok (.ifCond .eq 28, 3) := by decide +kernel
theorem dX4_readEvents_61 : decode cX4_readEvents 61 = .ok (.aload_n 0, 1) := by decide +kernel
theorem dX4_readEvents_62 : decode cX4_readEvents 62 = .ok (.aload_n 1, 1) := by decide +kernel
theorem dX4_readEvents_63 : decode cX4_readEvents 63 = .ok (.iload_n 3, 1) := by decide +kernel
theorem dX4_readEvents_64 : decode cX4_readEvents 64 = .ok (.invokevirtual 165, 3) := by decide +kernel
theorem dX4_readEvents_67 : decode cX4_readEvents 67 = .ok (.ifCond .eq 19, 3) := by decide +kernel
theorem dX4_readEvents_70 : decode cX4_readEvents 70 = .ok (.aload_n 0, 1) := by decide +kernel
theorem dX4_readEvents_71 : decode cX4_readEvents 71 = .ok (.aload_n 1, 1) := by decide +kernel
theorem dX4_readEvents_72 : decode cX4_readEvents 72 = .ok (.iload_n 3, 1) := by decide +kernel
theorem dX4_readEvents_73 : decode cX4_readEvents 73 = .ok (.invokevirtual 168, 3) := by decide +kernel
theorem dX4_readEvents_76 : decode cX4_readEvents 76 = .ok (.ifCond .eq 10, 3) := by decide +kernel
theorem dX4_readEvents_79 : decode cX4_readEvents 79 = .ok (.aload_n 0, 1) := by decide +kernel
theorem dX4_readEvents_80 : decode cX4_readEvents 80 = .ok (.invokevirtual 112, 3) := by decide +kernel
theorem dX4_readEvents_83 : decode cX4_readEvents 83 = .ok (.ifCond .ne 5, 3) := by decide +kernel
theorem dX4_readEvents_86 : decode cX4_readEvents 86 = .ok (.iconst 0, 1) := by decide +kernel
theorem dX4_readEvents_87 : decode cX4_readEvents 87 = .ok (.ireturn, 1) := by decide +kernel
theorem dX4_readEvents_88 : decode cX4_readEvents 88 = .ok (.iinc 2 1, 3) := by decide +kernel
theorem dX4_readEvents_91 : decode cX4_readEvents 91 = .ok (.goto (-89), 3) := by decide +kernel
theorem dX4_readEvents_94 : decode cX4_readEvents 94 = .ok (.iconst 1, 1) := by decide +kernel
theorem dX4_readEvents_95 : decode cX4_readEvents 95 = .ok (.ireturn, 1) := by decide +kernel
theorem dX4_readKeys_0 : decode cX4_readKeys 0 = .ok (.bipush 20, 2) := by decide +kernel
theorem dX4_readKeys_2 : decode cX4_readKeys 2 = .ok (.istore_n 3, 1) := by decide +kernel
theorem dX4_readKeys_3 : decode cX4_readKeys 3 = .ok (.iconst 0, 1) := by decide +kernel
theorem dX4_readKeys_4 : decode cX4_readKeys 4 = .ok (.istore 4, 2) := by decide +kernel
theorem dX4_readKeys_6 : decode cX4_readKeys 6 = .ok (.iload 4, 2) := by decide +kernel
theorem dX4_readKeys_8 : decode cX4_readKeys 8 = .ok (.ifCond .eq 11, 3) := by decide +kernel
theorem dX4_readKeys_11 : decode cX4_readKeys 11 = .ok (.aload_n 0, 1) := by decide +kernel
theorem dX4_readKeys_12 : decode cX4_readKeys 12 = .ok (.getfield 30, 3) := by decide +kernel
theorem dX4_readKeys_15 : decode cX4_readKeys 15 = .ok (.iconst 2, 1) := by decide +kernel
theorem dX4_readKeys_16 : decode cX4_readKeys 16 = .ok (.if_icmp .ne 54, 3) := by decide +kernel
theorem dX4_readKeys_19 : decode cX4_readKeys 19 = .ok (.iload 4, 2) := by decide +kernel
theorem dX4_readKeys_21 : decode cX4_readKeys 21 = .ok (.iconst 3, 1) := by decide +kernel
theorem dX4_readKeys_22 : decode cX4_readKeys 22 = .ok (.if_icmp .lt 10, 3) := by decide +kernel
theorem dX4_readKeys_25 : decode cX4_readKeys 25 = .ok (.aload_n 0, 1) := by decide +kernel
theorem dX4_readKeys_26 : decode cX4_readKeys 26 = .ok (.bipush (-5), 2) := by decide +kernel
theorem dX4_readKeys_28 : decode cX4_readKeys 28 = .ok (.invokevirtual 84, 3) := by decide +kernel
theorem dX4_readKeys_31 : decode cX4_readKeys 31 = .ok (.ireturn, 1) := by decide +kernel
theorem dX4_readKeys_32 : decode cX4_readKeys 32 = .ok (.aload_n 0, 1) := by decide +kernel
theorem dX4_readKeys_33 : decode cX4_readKeys 33 = .ok (.bipush 21, 2) := by decide +kernel
theorem dX4_readKeys_35 : decode cX4_readKeys 35 = .ok (.bipush 108, 2) := by decide +kernel
theorem dX4_readKeys_37 : decode cX4_readKeys 37 = .ok (.iload_n 3, 1) := by decide +kernel
theorem dX4_readKeys_38 : decode cX4_readKeys 38 = .ok (.iconst 1, 1) := by decide +kernel
theorem dX4_readKeys_39 : decode cX4_readKeys 39 = .ok (.iadd, 1) := by decide +kernel
theorem dX4_readKeys_40 : decode cX4_readKeys 40 = .ok (.invokevirtual 88, 3) := by decide +kernel
theorem dX4_readKeys_43 : decode cX4_readKeys 43 = .ok (.ifCond .ne 5, 3) := by decide +kernel
theorem dX4_readKeys_46 : decode cX4_readKeys 46 = .ok (.iconst 0, 1) := by decide +kernel
theorem dX4_readKeys_47 : decode cX4_readKeys 47 = .ok (.ireturn, 1) := by decide +kernel
theorem dX4_readKeys_48 : decode cX4_readKeys 48 = .ok (.aload_n 1, 1) := by decide +kernel
theorem dX4_readKeys_49 : decode cX4_readKeys 49 = .ok (.iload_n 2, 1) := by decide +kernel
theorem dX4_readKeys_50 : decode cX4_readKeys 50 = .ok (.iload 4, 2) := by decide +kernel
theorem dX4_readKeys_52 : decode cX4_readKeys 52 = .ok (.aload_n 0, 1) := by decide +kernel
theorem dX4_readKeys_53 : decode cX4_readKeys 53 = .ok (.getfield 42, 3) := by decide +kernel
theorem dX4_readKeys_56 : decode cX4_readKeys 56 = .ok (.invokevirtual 171, 3) := by decide +kernel
theorem dX4_readKeys_59 : decode cX4_readKeys 59 = .ok (.aload_n 0, 1) := by decide +kernel
theorem dX4_readKeys_60 : decode cX4_readKeys 60 = .ok (.getfield 42, 3) := by decide +kernel
theorem dX4_readKeys_63 : decode cX4_readKeys 63 = .ok (.istore_n 3, 1) := by decide +kernel
theorem dX4_readKeys_64 : decode cX4_readKeys 64 = .ok (.iinc 4 1, 3) := by decide +kernel
theorem dX4_readKeys_67 : decode cX4_readKeys 67 = .ok (.goto (-61), 3) := by decide +kernel
theorem dX4_readKeys_70 : decode cX4_readKeys 70 = .ok (.iconst 1, 1) := by decide +kernel
theorem dX4_readKeys_71 : decode cX4_readKeys 71 = .ok (.ireturn, 1) := by decide +kernel
theorem dX4_readRest_0 : decode cX4_readRest 0 = .ok (.aload_n 0, 1) := by decide +kernel
theorem dX4_readRest_1 : decode cX4_readRest 1 = .ok (.ldc 175, 2) := by decide +kernel
theorem dX4_readRest_3 : decode cX4_readRest 3 = .ok (.invokevirtual 104, 3) := by decide +kernel
theorem dX4_readRest_6 : decode cX4_readRest 6 = .ok (.ifCond .ne 5, 3) := by decide +kernel
theorem dX4_readRest_9 : decode cX4_readRest 9 = .ok (.iconst 1, 1) := by decide +kernel
theorem dX4_readRest_10 : decode cX4_readRest 10 = .ok (.ireturn, 1) := by decide +kernel
theorem dX4_readRest_11 : decode cX4_readRest 11 = .ok (.aload_n 0, 1) := by decide +kernel
theorem dX4_readRest_12 : decode cX4_readRest 12 = .ok (.invokevirtual 117, 3) := by decide +kernel
theorem dX4_readRest_15 : decode cX4_readRest 15 = .ok (.aload_n 0, 1) := by decide +kernel
theorem dX4_readRest_16 : decode cX4_readRest 16 = .ok (.iconst 0, 1) := by decide +kernel
theorem dX4_readRest_17 : decode cX4_readRest 17 = .ok (.bipush 9, 2) := by decide +kernel
theorem dX4_readRest_19 : decode cX4_readRest 19 = .ok (.iconst 0, 1) := by decide +kernel
theorem dX4_readRest_20 : decode cX4_readRest 20 = .ok (.invokevirtual 88, 3) := by decide +kernel
theorem dX4_readRest_23 : decode cX4_readRest 23 = .ok (.ifCond .ne 5, 3) := by decide +kernel
theorem dX4_readRest_26 : decode cX4_readRest 26 = .ok (.iconst 0, 1) := by decide +kernel
theorem dX4_readRest_27 : decode cX4_readRest 27 = .ok (.ireturn, 1) := by decide +kernel
theorem dX4_readRest_28 : decode cX4_readRest 28 = .ok (.aload_n 1, 1) := by decide +kernel
theorem dX4_readRest_29 : decode cX4_readRest 29 = .ok (.getfield 177, 3) := by decide +kernel
theorem dX4_readRest_32 : decode cX4_readRest 32 = .ok (.iload_n 2, 1) := by decide +kernel
theorem dX4_readRest_33 : decode cX4_readRest 33 = .ok (.aload_n 0, 1) := by decide +kernel
theorem dX4_readRest_34 : decode cX4_readRest 34 = .ok (.getfield 42, 3) := by decide +kernel
theorem dX4_readRest_37 : decode cX4_readRest 37 = .ok (.invokevirtual 45, 3) := by decide +kernel
theorem dX4_readRest_40 : decode cX4_readRest 40 = .ok (.iconst 1, 1) := by decide +kernel
theorem dX4_readRest_41 : decode cX4_readRest 41 = .ok (.ireturn, 1) := by decide +kernel
theorem dX4_readFingers_0 : decode cX4_readFingers 0 = .ok (.aload_n 0, 1) := by decide +kernel
theorem dX4_readFingers_1 : decode cX4_readFingers 1 = .ok (.ldc 180, 2) := by decide +kernel
theorem dX4_readFingers_3 : decode cX4_readFingers 3 = .ok (.invokevirtual 104, 3) := by decide +kernel
theorem dX4_readFingers_6 : decode cX4_readFingers 6 = .ok (.ifCond .ne 5, 3) := by decide +kernel
theorem dX4_readFingers_9 : decode cX4_readFingers 9 = .ok (.iconst 1, 1) := by decide +kernel
theorem dX4_readFingers_10 : decode cX4_readFingers 10 = .ok (.ireturn, 1) := by decide +kernel
theorem dX4_readFingers_11 : decode cX4_readFingers 11 = .ok (.aload_n 0, 1) := by decide +kernel
theorem dX4_readFingers_12 : decode cX4_readFingers 12 = .ok (.invokevirtual 117, 3) := by decide +kernel
theorem dX4_readFingers_15 : decode cX4_readFingers 15 = .ok (.iconst 0, 1) := by decide +kernel
theorem dX4_readFingers_16 : decode cX4_readFingers 16 = .ok (.istore_n 3, 1) := by decide +kernel
theorem dX4_readFingers_17 : decode cX4_readFingers 17 = .ok (.iload_n 3, 1) := by decide +kernel
theorem dX4_readFingers_18 : decode cX4_readFingers 18 = .ok (.aload_n 1, 1) := by decide +kernel
theorem dX4_readFingers_19 : decode cX4_readFingers 19 = .ok (.getfield 77, 3) := by decide +kernel
theorem dX4_readFingers_22 : decode cX4_readFingers 22 = .ok (.iload_n 2, 1) := by decide +kernel
theorem dX4_readFingers_23 : decode cX4_readFingers 23 = .ok (.invokevirtual 80, 3) := by decide +kernel
theorem dX4_readFingers_26 : decode cX4_readFingers 26 = .ok (.if_icmp .ge 52, 3) := by decide +kernel
theorem dX4_readFingers_29 : decode cX4_readFingers 29 = .ok (.aload_n 0, 1) := by decide +kernel
theorem dX4_readFingers_30 : decode cX4_readFingers 30 = .ok (.iconst 0, 1) := by decide +kernel
theorem dX4_readFingers_31 : decode cX4_readFingers 31 = .ok (.iconst 5, 1) := by decide +kernel
theorem dX4_readFingers_32 : decode cX4_readFingers 32 = .ok (.iconst 0, 1) := by decide +kernel
theorem dX4_readFingers_33 : decode cX4_readFingers 33 = .ok (.invokevirtual 88, 3) := by decide +kernel
theorem dX4_readFingers_36 : decode cX4_readFingers 36 = .ok (.ifCond .ne 5, 3) := by decide +kernel
theorem dX4_readFingers_39 : decode cX4_readFingers 39 = .ok (.iconst 0, 1) := by decide +kernel
theorem dX4_readFingers_40 : decode cX4_readFingers 40 = .ok (.ireturn, 1) := by decide +kernel
theorem dX4_readFingers_41 : decode cX4_readFingers 41 = .ok (.aload_n 1, 1) := by decide +kernel
theorem dX4_readFingers_42 : decode cX4_readFingers 42 = .ok (.getfield 182, 3) := by decide +kernel
theorem dX4_readFingers_45 : decode cX4_readFingers 45 = .ok (.iload_n 2, 1) := by decide +kernel
theorem dX4_readFingers_46 : decode cX4_readFingers 46 = .ok (.iload_n 3, 1) := by decide +kernel
theorem dX4_readFingers_47 : decode cX4_readFingers 47 = .ok (.invokestatic 92, 3) := by decide +kernel
theorem dX4_readFingers_50 : decode cX4_readFingers 50 = .ok (.aload_n 0, 1) := by decide +kernel
theorem dX4_readFingers_51 : decode cX4_readFingers 51 = .ok (.getfield 42, 3) := by decide +kernel
theorem dX4_readFingers_54 : decode cX4_readFingers 54 = .ok (.ifCond .ne 8, 3) := by decide +kernel
theorem dX4_readFingers_57 : decode cX4_readFingers 57 = .ok (.bipush 31, 2) := by decide +kernel
theorem dX4_readFingers_59 : decode cX4_readFingers 59 = .ok (.goto 10, 3) := by decide +kernel
theorem dX4_readFingers_62 : decode cX4_readFingers 62 = .ok (.aload_n 0, 1) := by decide +kernel
theorem dX4_readFingers_63 : decode cX4_readFingers 63 = .ok (.getfield 42, 3) := by decide +kernel
theorem dX4_readFingers_66 : decode cX4_readFingers 66 = .ok (.invokestatic 185, 3) := by decide +kernel
theorem dX4_readFingers_69 : decode cX4_readFingers 69 = .ok (.invokevirtual 45, 3) := by decide +kernel
theorem dX4_readFingers_72 : decode cX4_readFingers 72 = .ok (.iinc 3 1, 3) := by decide +kernel
theorem dX4_readFingers_75 : decode cX4_readFingers 75 = .ok (.goto (-58), 3) := by decide +kernel
theorem dX4_readFingers_78 : decode cX4_readFingers 78 = .ok (.aload_n 0, 1) := by decide +kernel
theorem dX4_readFingers_79 : decode cX4_readFingers 79 = .ok (.getfield 30, 3) := by decide +kernel
theorem dX4_readFingers_82 : decode cX4_readFingers 82 = .ok (.iconst 2, 1) := by decide +kernel
theorem dX4_readFingers_83 : decode cX4_readFingers 83 = .ok (.if_icmp .ne 12, 3) := by decide +kernel
theorem dX4_readFingers_86 : decode cX4_readFingers 86 = .ok (.aload_n 0, 1) := by decide +kernel
theorem dX4_readFingers_87 : decode cX4_readFingers 87 = .ok (.bipush (-5), 2) := by decide +kernel
theorem dX4_readFingers_89 : decode cX4_readFingers 89 = .ok (.invokevirtual 84, 3) := by decide +kernel
theorem dX4_readFingers_92 : decode cX4_readFingers 92 = .ok (.ifCond .eq 7, 3) := by decide +kernel
theorem dX4_readFingers_95 : decode cX4_readFingers 95 = .ok (.iconst 1, 1) := by decide +kernel
theorem dX4_readFingers_96 : decode cX4_readFingers 96 = .ok (.goto 4, 3) := by decide +kernel
theorem dX4_readFingers_99 : decode cX4_readFingers 99 = .ok (.iconst 0, 1) := by decide +kernel
theorem dX4_readFingers_100 : decode cX4_readFingers 100 = .ok (.ireturn, 1) := by decide +kernel
theorem dX4_beginReading_0 : decode cX4_beginReading 0 = .ok (.aload_n 0, 1) := by decide +kernel
theorem dX4_beginReading_1 : decode cX4_beginReading 1 = .ok (.iconst (-1), 1) := by decide +kernel
theorem dX4_beginReading_2 : decode cX4_beginReading 2 = .ok (.putfield 27, 3) := by decide +kernel
theorem dX4_beginReading_5 : decode cX4_beginReading 5 = .ok (.aload_n 0, 1) := by decide +kernel
theorem dX4_beginReading_6 : decode cX4_beginReading 6 = .ok (.iconst 0, 1) := by decide +kernel
theorem dX4_beginReading_7 : decode cX4_beginReading 7 = .ok (.putfield 36, 3) := by decide +kernel
theorem dX4_beginReading_10 : decode cX4_beginReading 10 = .ok (.aload_n 0, 1) := by decide +kernel
theorem dX4_beginReading_11 : decode cX4_beginReading 11 = .ok (.invokevirtual 117, 3) := by decide +kernel
theorem dX4_beginReading_14 : decode cX4_beginReading 14 = .ok (.return_, 1) := by decide +kernel
theorem dX4_fail_0 : decode cX4_fail 0 = .ok (.aload_n 0, 1) := by decide +kernel
theorem dX4_fail_1 : decode cX4_fail 1 = .ok (.iload_n 1, 1) := by decide +kernel
theorem dX4_fail_2 : decode cX4_fail 2 = .ok (.putfield 24, 3) := by decide +kernel
theorem dX4_fail_5 : decode cX4_fail 5 = .ok (.aload_n 0, 1) := by decide +kernel
theorem dX4_fail_6 : decode cX4_fail 6 = .ok (.aload_n 0, 1) := by decide +kernel
theorem dX4_fail_7 : decode cX4_fail 7 = .ok (.getfield 33, 3) := by decide +kernel
theorem dX4_fail_10 : decode cX4_fail 10 = .ok (.putfield 27, 3) := by decide +kernel
theorem dX4_fail_13 : decode cX4_fail 13 = .ok (.iconst 0, 1) := by decide +kernel
theorem dX4_fail_14 : decode cX4_fail 14 = .ok (.ireturn, 1) := by decide +kernel
theorem dX4_takeWord_0 : decode cX4_takeWord 0 = .ok (.aload_n 0, 1) := by decide +kernel
theorem dX4_takeWord_1 : decode cX4_takeWord 1 = .ok (.aload_n 1, 1) := by decide +kernel
theorem dX4_takeWord_2 : decode cX4_takeWord 2 = .ok (.invokevirtual 104, 3) := by decide +kernel
theorem dX4_takeWord_5 : decode cX4_takeWord 5 = .ok (.ifCond .ne 10, 3) := by decide +kernel
theorem dX4_takeWord_8 : decode cX4_takeWord 8 = .ok (.aload_n 0, 1) := by decide +kernel
theorem dX4_takeWord_9 : decode cX4_takeWord 9 = .ok (.bipush (-2), 2) := by decide +kernel
theorem dX4_takeWord_11 : decode cX4_takeWord 11 = .ok (.invokevirtual 84, 3) := by decide +kernel
theorem dX4_takeWord_14 : decode cX4_takeWord 14 = .ok (.ireturn, 1) := by decide +kernel
theorem dX4_takeWord_15 : decode cX4_takeWord 15 = .ok (.aload_n 0, 1) := by decide +kernel
theorem dX4_takeWord_16 : decode cX4_takeWord 16 = .ok (.invokevirtual 117, 3) := by decide +kernel
theorem dX4_takeWord_19 : decode cX4_takeWord 19 = .ok (.iconst 1, 1) := by decide +kernel
theorem dX4_takeWord_20 : decode cX4_takeWord 20 = .ok (.ireturn, 1) := by decide +kernel
theorem dX4_takeSemicolon_0 : decode cX4_takeSemicolon 0 = .ok (.aload_n 0, 1) := by decide +kernel
theorem dX4_takeSemicolon_1 : decode cX4_takeSemicolon 1 = .ok (.getfield 30, 3) := by decide +kernel
theorem dX4_takeSemicolon_4 : decode cX4_takeSemicolon 4 = .ok (.iconst 3, 1) := by decide +kernel
theorem dX4_takeSemicolon_5 : decode cX4_takeSemicolon 5 = .ok (.if_icmp .eq 10, 3) := by decide +kernel
theorem dX4_takeSemicolon_8 : decode cX4_takeSemicolon 8 = .ok (.aload_n 0, 1) := by decide +kernel
theorem dX4_takeSemicolon_9 : decode cX4_takeSemicolon 9 = .ok (.bipush (-2), 2) := by decide +kernel
theorem dX4_takeSemicolon_11 : decode cX4_takeSemicolon 11 = .ok (.invokevirtual 84, 3) := by decide +kernel
theorem dX4_takeSemicolon_14 : decode cX4_takeSemicolon 14 = .ok (.ireturn, 1) := by decide +kernel
theorem dX4_takeSemicolon_15 : decode cX4_takeSemicolon 15 = .ok (.aload_n 0, 1) := by decide +kernel
theorem dX4_takeSemicolon_16 : decode cX4_takeSemicolon 16 = .ok (.invokevirtual 117, 3) := by decide +kernel
theorem dX4_takeSemicolon_19 : decode cX4_takeSemicolon 19 = .ok (.iconst 1, 1) := by decide +kernel
theorem dX4_takeSemicolon_20 : decode cX4_takeSemicolon 20 = .ok (.ireturn, 1) := by decide +kernel
theorem dX4_takeEnd_0 : decode cX4_takeEnd 0 = .ok (.aload_n 0, 1) := by decide +kernel
theorem dX4_takeEnd_1 : decode cX4_takeEnd 1 = .ok (.getfield 30, 3) := by decide +kernel
theorem dX4_takeEnd_4 : decode cX4_takeEnd 4 = .ok (.ifCond .eq 12, 3) := by decide +kernel
theorem dX4_takeEnd_7 : decode cX4_takeEnd 7 = .ok (.aload_n 0, 1) := by decide +kernel
theorem dX4_takeEnd_8 : decode cX4_takeEnd 8 = .ok (.bipush (-2), 2) := by decide +kernel
theorem dX4_takeEnd_10 : decode cX4_takeEnd 10 = .ok (.invokevirtual 84, 3) := by decide +kernel
theorem dX4_takeEnd_13 : decode cX4_takeEnd 13 = .ok (.ifCond .eq 7, 3) := by decide +kernel
theorem dX4_takeEnd_16 : decode cX4_takeEnd 16 = .ok (.iconst 1, 1) := by decide +kernel
theorem dX4_takeEnd_17 : decode cX4_takeEnd 17 = .ok (.goto 4, 3) := by decide +kernel
theorem dX4_takeEnd_20 : decode cX4_takeEnd 20 = .ok (.iconst 0, 1) := by decide +kernel
theorem dX4_takeEnd_21 : decode cX4_takeEnd 21 = .ok (.ireturn, 1) := by decide +kernel
theorem dX4_takeNumber_0 : decode cX4_takeNumber 0 = .ok (.aload_n 0, 1) := by decide +kernel
theorem dX4_takeNumber_1 : decode cX4_takeNumber 1 = .ok (.getfield 30, 3) := by decide +kernel
theorem dX4_takeNumber_4 : decode cX4_takeNumber 4 = .ok (.iconst 2, 1) := by decide +kernel
theorem dX4_takeNumber_5 : decode cX4_takeNumber 5 = .ok (.if_icmp .eq 10, 3) := by decide +kernel
theorem dX4_takeNumber_8 : decode cX4_takeNumber 8 = .ok (.aload_n 0, 1) := by decide +kernel
theorem dX4_takeNumber_9 : decode cX4_takeNumber 9 = .ok (.bipush (-2), 2) := by decide +kernel
theorem dX4_takeNumber_11 : decode cX4_takeNumber 11 = .ok (.invokevirtual 84, 3) := by decide +kernel
theorem dX4_takeNumber_14 : decode cX4_takeNumber 14 = .ok (.ireturn, 1) := by decide +kernel
theorem dX4_takeNumber_15 : decode cX4_takeNumber 15 = .ok (.aload_n 0, 1) := by decide +kernel
theorem dX4_takeNumber_16 : decode cX4_takeNumber 16 = .ok (.getfield 39, 3) := by decide +kernel
theorem dX4_takeNumber_19 : decode cX4_takeNumber 19 = .ok (.iload_n 1, 1) := by decide +kernel
theorem dX4_takeNumber_20 : decode cX4_takeNumber 20 = .ok (.iload_n 2, 1) := by decide +kernel
theorem dX4_takeNumber_21 : decode cX4_takeNumber 21 = .ok (.invokestatic 188, 3) := by decide +kernel
theorem dX4_takeNumber_24 : decode cX4_takeNumber 24 = .ok (.ifCond .ne 10, 3) := by decide +kernel
theorem dX4_takeNumber_27 : decode cX4_takeNumber 27 = .ok (.aload_n 0, 1) := by decide +kernel
theorem dX4_takeNumber_28 : decode cX4_takeNumber 28 = .ok (.bipush (-3), 2) := by decide +kernel
theorem dX4_takeNumber_30 : decode cX4_takeNumber 30 = .ok (.invokevirtual 84, 3) := by decide +kernel
theorem dX4_takeNumber_33 : decode cX4_takeNumber 33 = .ok (.ireturn, 1) := by decide +kernel
theorem dX4_takeNumber_34 : decode cX4_takeNumber 34 = .ok (.aload_n 0, 1) := by decide +kernel
theorem dX4_takeNumber_35 : decode cX4_takeNumber 35 = .ok (.getfield 39, 3) := by decide +kernel
theorem dX4_takeNumber_38 : decode cX4_takeNumber 38 = .ok (.iload_n 3, 1) := by decide +kernel
theorem dX4_takeNumber_39 : decode cX4_takeNumber 39 = .ok (.if_icmp .ge 10, 3) := by decide +kernel
theorem dX4_takeNumber_42 : decode cX4_takeNumber 42 = .ok (.aload_n 0, 1) := by decide +kernel
theorem dX4_takeNumber_43 : decode cX4_takeNumber 43 = .ok (.bipush (-4), 2) := by decide +kernel
theorem dX4_takeNumber_45 : decode cX4_takeNumber 45 = .ok (.invokevirtual 84, 3) := by decide +kernel
theorem dX4_takeNumber_48 : decode cX4_takeNumber 48 = .ok (.ireturn, 1) := by decide +kernel
theorem dX4_takeNumber_49 : decode cX4_takeNumber 49 = .ok (.aload_n 0, 1) := by decide +kernel
theorem dX4_takeNumber_50 : decode cX4_takeNumber 50 = .ok (.aload_n 0, 1) := by decide +kernel
theorem dX4_takeNumber_51 : decode cX4_takeNumber 51 = .ok (.getfield 39, 3) := by decide +kernel
theorem dX4_takeNumber_54 : decode cX4_takeNumber 54 = .ok (.putfield 42, 3) := by decide +kernel
theorem dX4_takeNumber_57 : decode cX4_takeNumber 57 = .ok (.aload_n 0, 1) := by decide +kernel
theorem dX4_takeNumber_58 : decode cX4_takeNumber 58 = .ok (.invokevirtual 117, 3) := by decide +kernel
theorem dX4_takeNumber_61 : decode cX4_takeNumber 61 = .ok (.iconst 1, 1) := by decide +kernel
theorem dX4_takeNumber_62 : decode cX4_takeNumber 62 = .ok (.ireturn, 1) := by decide +kernel
theorem dX4_isWord_0 : decode cX4_isWord 0 = .ok (.aload_n 0, 1) := by decide +kernel
theorem dX4_isWord_1 : decode cX4_isWord 1 = .ok (.getfield 30, 3) := by decide +kernel
theorem dX4_isWord_4 : decode cX4_isWord 4 = .ok (.iconst 1, 1) := by decide +kernel
theorem dX4_isWord_5 : decode cX4_isWord 5 = .ok (.if_icmp .ne 19, 3) := by decide +kernel
theorem dX4_isWord_8 : decode cX4_isWord 8 = .ok (.aload_n 0, 1) := by decide +kernel
theorem dX4_isWord_9 : decode cX4_isWord 9 = .ok (.getfield 36, 3) := by decide +kernel
theorem dX4_isWord_12 : decode cX4_isWord 12 = .ok (.aload_n 0, 1) := by decide +kernel
theorem dX4_isWord_13 : decode cX4_isWord 13 = .ok (.getfield 33, 3) := by decide +kernel
theorem dX4_isWord_16 : decode cX4_isWord 16 = .ok (.isub, 1) := by decide +kernel
theorem dX4_isWord_17 : decode cX4_isWord 17 = .ok (.aload_n 1, 1) := by decide +kernel
theorem dX4_isWord_18 : decode cX4_isWord 18 = .ok (.invokevirtual 191, 3) := by decide +kernel
theorem dX4_isWord_21 : decode cX4_isWord 21 = .ok (.if_icmp .eq 5, 3) := by decide +kernel
theorem dX4_isWord_24 : decode cX4_isWord 24 = .ok (.iconst 0, 1) := by decide +kernel
theorem dX4_isWord_25 : decode cX4_isWord 25 = .ok (.ireturn, 1) := by decide +kernel
theorem dX4_isWord_26 : decode cX4_isWord 26 = .ok (.iconst 0, 1) := by decide +kernel
theorem dX4_isWord_27 : decode cX4_isWord 27 = .ok (.istore_n 2, 1) := by decide +kernel
theorem dX4_isWord_28 : decode cX4_isWord 28 = .ok (.iload_n 2, 1) := by decide +kernel
theorem dX4_isWord_29 : decode cX4_isWord 29 = .ok (.aload_n 1, 1) := by decide +kernel
theorem dX4_isWord_30 : decode cX4_isWord 30 = .ok (.invokevirtual 191, 3) := by decide +kernel
theorem dX4_isWord_33 : decode cX4_isWord 33 = .ok (.if_icmp .ge 32, 3) := by decide +kernel
theorem dX4_isWord_36 : decode cX4_isWord 36 = .ok (.aload_n 0, 1) := by decide +kernel
theorem dX4_isWord_37 : decode cX4_isWord 37 = .ok (.getfield 14, 3) := by decide +kernel
theorem dX4_isWord_40 : decode cX4_isWord 40 = .ok (.aload_n 0, 1) := by decide +kernel
theorem dX4_isWord_41 : decode cX4_isWord 41 = .ok (.getfield 33, 3) := by decide +kernel
theorem dX4_isWord_44 : decode cX4_isWord 44 = .ok (.iload_n 2, 1) := by decide +kernel
theorem dX4_isWord_45 : decode cX4_isWord 45 = .ok (.iadd, 1) := by decide +kernel
theorem dX4_isWord_46 : decode cX4_isWord 46 = .ok (.invokevirtual 80, 3) := by decide +kernel
theorem dX4_isWord_49 : decode cX4_isWord 49 = .ok (.aload_n 1, 1) := by decide +kernel
theorem dX4_isWord_50 : decode cX4_isWord 50 = .ok (.iload_n 2, 1) := by decide +kernel
theorem dX4_isWord_51 : decode cX4_isWord 51 = .ok (.invokevirtual 195, 3) := by decide +kernel
theorem dX4_isWord_54 : decode cX4_isWord 54 = .ok (.if_icmp .eq 5, 3) := by decide +kernel
theorem dX4_isWord_57 : decode cX4_isWord 57 = .ok (.iconst 0, 1) := by decide +kernel
theorem dX4_isWord_58 : decode cX4_isWord 58 = .ok (.ireturn, 1) := by decide +kernel
theorem dX4_isWord_59 : decode cX4_isWord 59 = .ok (.iinc 2 1, 3) := by decide +kernel
theorem dX4_isWord_62 : decode cX4_isWord 62 = .ok (.goto (-34), 3) := by decide +kernel
theorem dX4_isWord_65 : decode cX4_isWord 65 = .ok (.iconst 1, 1) := by decide +kernel
theorem dX4_isWord_66 : decode cX4_isWord 66 = .ok (.ireturn, 1) := by decide +kernel
theorem dX4_scan_0 : decode cX4_scan 0 = .ok (.aload_n 0, 1) := by decide +kernel
theorem dX4_scan_1 : decode cX4_scan 1 = .ok (.aload_n 0, 1) := by decide +kernel
theorem dX4_scan_2 : decode cX4_scan 2 = .ok (.getfield 36, 3) := by decide +kernel
theorem dX4_scan_5 : decode cX4_scan 5 = .ok (.putfield 33, 3) := by decide +kernel
theorem dX4_scan_8 : decode cX4_scan 8 = .ok (.aload_n 0, 1) := by decide +kernel
theorem dX4_scan_9 : decode cX4_scan 9 = .ok (.getfield 33, 3) := by decide +kernel
theorem dX4_scan_12 : decode cX4_scan 12 = .ok (.aload_n 0, 1) := by decide +kernel
theorem dX4_scan_13 : decode cX4_scan 13 = .ok (.getfield 20, 3) := by decide +kernel
theorem dX4_scan_16 : decode cX4_scan 16 = .ok (.if_icmp .ge 32, 3) := by decide +kernel
theorem dX4_scan_19 : decode cX4_scan 19 = .ok (.aload_n 0, 1) := by decide +kernel
theorem dX4_scan_20 : decode cX4_scan 20 = .ok (.getfield 14, 3) := by decide +kernel
theorem dX4_scan_23 : decode cX4_scan 23 = .ok (.aload_n 0, 1) := by decide +kernel
theorem dX4_scan_24 : decode cX4_scan 24 = .ok (.getfield 33, 3) := by decide +kernel
theorem dX4_scan_27 : decode cX4_scan 27 = .ok (.invokevirtual 80, 3) := by decide +kernel
theorem dX4_scan_30 : decode cX4_scan 30 = .ok (.bipush 32, 2) := by decide +kernel
theorem dX4_scan_32 : decode cX4_scan 32 = .ok (.if_icmp .ne 16, 3) := by decide +kernel
theorem dX4_scan_35 : decode cX4_scan 35 = .ok (.aload_n 0, 1) := by decide +kernel
theorem dX4_scan_36 : decode cX4_scan 36 = .ok (.dup, 1) := by decide +kernel
theorem dX4_scan_37 : decode cX4_scan 37 = .ok (.getfield 33, 3) := by decide +kernel
theorem dX4_scan_40 : decode cX4_scan 40 = .ok (.iconst 1, 1) := by decide +kernel
theorem dX4_scan_41 : decode cX4_scan 41 = .ok (.iadd, 1) := by decide +kernel
theorem dX4_scan_42 : decode cX4_scan 42 = .ok (.putfield 33, 3) := by decide +kernel
theorem dX4_scan_45 : decode cX4_scan 45 = .ok (.goto (-37), 3) := by decide +kernel
theorem dX4_scan_48 : decode cX4_scan 48 = .ok (.aload_n 0, 1) := by decide +kernel
theorem dX4_scan_49 : decode cX4_scan 49 = .ok (.aload_n 0, 1) := by decide +kernel
theorem dX4_scan_50 : decode cX4_scan 50 = .ok (.getfield 33, 3) := by decide +kernel
theorem dX4_scan_53 : decode cX4_scan 53 = .ok (.putfield 36, 3) := by decide +kernel
theorem dX4_scan_56 : decode cX4_scan 56 = .ok (.aload_n 0, 1) := by decide +kernel
theorem dX4_scan_57 : decode cX4_scan 57 = .ok (.getfield 33, 3) := by decide +kernel
theorem dX4_scan_60 : decode cX4_scan 60 = .ok (.aload_n 0, 1) := by decide +kernel
theorem dX4_scan_61 : decode cX4_scan 61 = .ok (.getfield 20, 3) := by decide +kernel
theorem dX4_scan_64 : decode cX4_scan 64 = .ok (.if_icmp .lt 11, 3) := by decide +kernel
theorem dX4_scan_67 : decode cX4_scan 67 = .ok (.aload_n 0, 1) := by decide +kernel
theorem dX4_scan_68 : decode cX4_scan 68 = .ok (.iconst 0, 1) := by decide +kernel
theorem dX4_scan_69 : decode cX4_scan 69 = .ok (.putfield 30, 3) := by decide +kernel
theorem dX4_scan_72 : decode cX4_scan 72 = .ok (.goto 176, 3) := by decide +kernel
theorem dX4_scan_75 : decode cX4_scan 75 = .ok (.aload_n 0, 1) := by decide +kernel
theorem dX4_scan_76 : decode cX4_scan 76 = .ok (.aload_n 0, 1) := by decide +kernel
theorem dX4_scan_77 : decode cX4_scan 77 = .ok (.getfield 33, 3) := by decide +kernel
theorem dX4_scan_80 : decode cX4_scan 80 = .ok (.invokevirtual 199, 3) := by decide +kernel
theorem dX4_scan_83 : decode cX4_scan 83 = .ok (.ifCond .eq 43, 3) := by decide +kernel
theorem dX4_scan_86 : decode cX4_scan 86 = .ok (.aload_n 0, 1) := by decide +kernel
theorem dX4_scan_87 : decode cX4_scan 87 = .ok (.iconst 1, 1) := by decide +kernel
theorem dX4_scan_88 : decode cX4_scan 88 = .ok (.putfield 30, 3) := by decide +kernel
theorem dX4_scan_91 : decode cX4_scan 91 = .ok (.aload_n 0, 1) := by decide +kernel
theorem dX4_scan_92 : decode cX4_scan 92 = .ok (.getfield 36, 3) := by decide +kernel
theorem dX4_scan_95 : decode cX4_scan 95 = .ok (.aload_n 0, 1) := by decide +kernel
theorem dX4_scan_96 : decode cX4_scan 96 = .ok (.getfield 20, 3) := by decide +kernel
theorem dX4_scan_99 : decode cX4_scan 99 = .ok (.if_icmp .ge 149, 3) := by decide +kernel
theorem dX4_scan_102 : decode cX4_scan 102 = .ok (.aload_n 0, 1) := by decide +kernel
theorem dX4_scan_103 : decode cX4_scan 103 = .ok (.aload_n 0, 1) := by decide +kernel
theorem dX4_scan_104 : decode cX4_scan 104 = .ok (.getfield 36, 3) := by decide +kernel
theorem dX4_scan_107 : decode cX4_scan 107 = .ok (.invokevirtual 199, 3) := by decide +kernel
theorem dX4_scan_110 : decode cX4_scan 110 = .ok (.ifCond .eq 138, 3) := by decide +kernel
theorem dX4_scan_113 : decode cX4_scan 113 = .ok (.aload_n 0, 1) := by decide +kernel
theorem dX4_scan_114 : decode cX4_scan 114 = .ok (.dup, 1) := by decide +kernel
theorem dX4_scan_115 : decode cX4_scan 115 = .ok (.getfield 36, 3) := by decide +kernel
theorem dX4_scan_118 : decode cX4_scan 118 = .ok (.iconst 1, 1) := by decide +kernel
theorem dX4_scan_119 : decode cX4_scan 119 = .ok (.iadd, 1) := by decide +kernel
theorem dX4_scan_120 : decode cX4_scan 120 = .ok (.putfield 36, 3) := by decide +kernel
theorem dX4_scan_123 : decode cX4_scan 123 = .ok (.goto (-32), 3) := by decide +kernel
theorem dX4_scan_126 : decode cX4_scan 126 = .ok (.aload_n 0, 1) := by decide +kernel
theorem dX4_scan_127 : decode cX4_scan 127 = .ok (.aload_n 0, 1) := by decide +kernel
theorem dX4_scan_128 : decode cX4_scan 128 = .ok (.getfield 33, 3) := by decide +kernel
theorem dX4_scan_131 : decode cX4_scan 131 = .ok (.invokevirtual 202, 3) := by decide +kernel
theorem dX4_scan_134 : decode cX4_scan 134 = .ok (.ifCond .eq 79, 3) := by decide +kernel
theorem dX4_scan_137 : decode cX4_scan 137 = .ok (.aload_n 0, 1) := by decide +kernel
theorem dX4_scan_138 : decode cX4_scan 138 = .ok (.iconst 2, 1) := by decide +kernel
theorem dX4_scan_139 : decode cX4_scan 139 = .ok (.putfield 30, 3) := by decide +kernel
theorem dX4_scan_142 : decode cX4_scan 142 = .ok (.aload_n 0, 1) := by decide +kernel
theorem dX4_scan_143 : decode cX4_scan 143 = .ok (.iconst 0, 1) := by decide +kernel
theorem dX4_scan_144 : decode cX4_scan 144 = .ok (.putfield 39, 3) := by decide +kernel
theorem dX4_scan_147 : decode cX4_scan 147 = .ok (.aload_n 0, 1) := by decide +kernel
theorem dX4_scan_148 : decode cX4_scan 148 = .ok (.getfield 36, 3) := by decide +kernel
theorem dX4_scan_151 : decode cX4_scan 151 = .ok (.aload_n 0, 1) := by decide +kernel
theorem dX4_scan_152 : decode cX4_scan 152 = .ok (.getfield 20, 3) := by decide +kernel
theorem dX4_scan_155 : decode cX4_scan 155 = .ok (.if_icmp .ge 93, 3) := by decide +kernel
theorem dX4_scan_158 : decode cX4_scan 158 = .ok (.aload_n 0, 1) := by decide +kernel
theorem dX4_scan_159 : decode cX4_scan 159 = .ok (.aload_n 0, 1) := by decide +kernel
theorem dX4_scan_160 : decode cX4_scan 160 = .ok (.getfield 36, 3) := by decide +kernel
theorem dX4_scan_163 : decode cX4_scan 163 = .ok (.invokevirtual 202, 3) := by decide +kernel
theorem dX4_scan_166 : decode cX4_scan 166 = .ok (.ifCond .eq 82, 3) := by decide +kernel
theorem dX4_scan_169 : decode cX4_scan 169 = .ok (.aload_n 0, 1) := by decide +kernel
theorem dX4_scan_170 : decode cX4_scan 170 = .ok (.ldc 205, 2) := by decide +kernel
theorem dX4_scan_172 : decode cX4_scan 172 = .ok (.aload_n 0, 1) := by decide +kernel
theorem dX4_scan_173 : decode cX4_scan 173 = .ok (.getfield 39, 3) := by decide +kernel
theorem dX4_scan_176 : decode cX4_scan 176 = .ok (.bipush 10, 2) := by decide +kernel
theorem dX4_scan_178 : decode cX4_scan 178 = .ok (.imul, 1) := by decide +kernel
theorem dX4_scan_179 : decode cX4_scan 179 = .ok (.aload_n 0, 1) := by decide +kernel
theorem dX4_scan_180 : decode cX4_scan 180 = .ok (.getfield 14, 3) := by decide +kernel
theorem dX4_scan_183 : decode cX4_scan 183 = .ok (.aload_n 0, 1) := by decide +kernel
theorem dX4_scan_184 : decode cX4_scan 184 = .ok (.getfield 36, 3) := by decide +kernel
theorem dX4_scan_187 : decode cX4_scan 187 = .ok (.invokevirtual 80, 3) := by decide +kernel
theorem dX4_scan_190 : decode cX4_scan 190 = .ok (.iadd, 1) := by decide +kernel
theorem dX4_scan_191 : decode cX4_scan 191 = .ok (.bipush 48, 2) := by decide +kernel
theorem dX4_scan_193 : decode cX4_scan 193 = .ok (.isub, 1) := by decide +kernel
theorem dX4_scan_194 : decode cX4_scan 194 = .ok (.invokestatic 206, 3) := by decide +kernel
theorem dX4_scan_197 : decode cX4_scan 197 = .ok (.putfield 39, 3) := by decide +kernel
theorem dX4_scan_200 : decode cX4_scan 200 = .ok (.aload_n 0, 1) := by decide +kernel
theorem dX4_scan_201 : decode cX4_scan 201 = .ok (.dup, 1) := by decide +kernel
theorem dX4_scan_202 : decode cX4_scan 202 = .ok (.getfield 36, 3) := by decide +kernel
theorem dX4_scan_205 : decode cX4_scan 205 = .ok (.iconst 1, 1) := by decide +kernel
theorem dX4_scan_206 : decode cX4_scan 206 = .ok (.iadd, 1) := by decide +kernel
theorem dX4_scan_207 : decode cX4_scan 207 = .ok (.putfield 36, 3) := by decide +kernel
theorem dX4_scan_210 : decode cX4_scan 210 = .ok (.goto (-63), 3) := by decide +kernel
theorem dX4_scan_213 : decode cX4_scan 213 = .ok (.aload_n 0, 1) := by decide +kernel
theorem dX4_scan_214 : decode cX4_scan 214 = .ok (.aload_n 0, 1) := by decide +kernel
theorem dX4_scan_215 : decode cX4_scan 215 = .ok (.getfield 14, 3) := by decide +kernel
theorem dX4_scan_218 : decode cX4_scan 218 = .ok (.aload_n 0, 1) := by decide +kernel
theorem dX4_scan_219 : decode cX4_scan 219 = .ok (.getfield 33, 3) := by decide +kernel
theorem dX4_scan_222 : decode cX4_scan 222 = .ok (.invokevirtual 80, 3) := by decide +kernel
theorem dX4_scan_225 : decode cX4_scan 225 = .ok (.bipush 59, 2) := by decide +kernel
theorem dX4_scan_227 : decode cX4_scan 227 = .ok (.if_icmp .ne 7, 3) := by decide +kernel
theorem dX4_scan_230 : decode cX4_scan 230 = .ok (.iconst 3, 1) := by decide +kernel
theorem dX4_scan_231 : decode cX4_scan 231 = .ok (.goto 4, 3) := by decide +kernel
theorem dX4_scan_234 : decode cX4_scan 234 = .ok (.iconst 4, 1) := by decide +kernel
theorem dX4_scan_235 : decode cX4_scan 235 = .ok (.putfield 30, 3) := by decide +kernel
theorem dX4_scan_238 : decode cX4_scan 238 = .ok (.aload_n 0, 1) := by decide +kernel
theorem dX4_scan_239 : decode cX4_scan 239 = .ok (.aload_n 0, 1) := by decide +kernel
theorem dX4_scan_240 : decode cX4_scan 240 = .ok (.getfield 33, 3) := by decide +kernel
theorem dX4_scan_243 : decode cX4_scan 243 = .ok (.iconst 1, 1) := by decide +kernel
theorem dX4_scan_244 : decode cX4_scan 244 = .ok (.iadd, 1) := by decide +kernel
theorem dX4_scan_245 : decode cX4_scan 245 = .ok (.putfield 36, 3) := by decide +kernel
theorem dX4_scan_248 : decode cX4_scan 248 = .ok (.return_, 1) := by decide +kernel
theorem dX4_isLetter_0 : decode cX4_isLetter 0 = .ok (.aload_n 0, 1) := by decide +kernel
theorem dX4_isLetter_1 : decode cX4_isLetter 1 = .ok (.getfield 14, 3) := by decide +kernel
theorem dX4_isLetter_4 : decode cX4_isLetter 4 = .ok (.iload_n 1, 1) := by decide +kernel
theorem dX4_isLetter_5 : decode cX4_isLetter 5 = .ok (.invokevirtual 80, 3) := by decide +kernel
theorem dX4_isLetter_8 : decode cX4_isLetter 8 = .ok (.bipush 97, 2) := by decide +kernel
theorem dX4_isLetter_10 : decode cX4_isLetter 10 = .ok (.bipush 122, 2) := by decide +kernel
theorem dX4_isLetter_12 : decode cX4_isLetter 12 = .ok (.invokestatic 188, 3) := by decide +kernel
theorem dX4_isLetter_15 : decode cX4_isLetter 15 = .ok (.ireturn, 1) := by decide +kernel
theorem dX4_isDigit_0 : decode cX4_isDigit 0 = .ok (.aload_n 0, 1) := by decide +kernel
theorem dX4_isDigit_1 : decode cX4_isDigit 1 = .ok (.getfield 14, 3) := by decide +kernel
theorem dX4_isDigit_4 : decode cX4_isDigit 4 = .ok (.iload_n 1, 1) := by decide +kernel
theorem dX4_isDigit_5 : decode cX4_isDigit 5 = .ok (.invokevirtual 80, 3) := by decide +kernel
theorem dX4_isDigit_8 : decode cX4_isDigit 8 = .ok (.bipush 48, 2) := by decide +kernel
theorem dX4_isDigit_10 : decode cX4_isDigit 10 = .ok (.bipush 57, 2) := by decide +kernel
theorem dX4_isDigit_12 : decode cX4_isDigit 12 = .ok (.invokestatic 188, 3) := by decide +kernel
theorem dX4_isDigit_15 : decode cX4_isDigit 15 = .ok (.ireturn, 1) := by decide +kernel
theorem dX5_init_0 : decode cX5_init 0 = .ok (.aload_n 0, 1) := by decide +kernel
theorem dX5_init_1 : decode cX5_init 1 = .ok (.invokespecial 1, 3) := by decide +kernel
theorem dX5_init_4 : decode cX5_init 4 = .ok (.aload_n 0, 1) := by decide +kernel
theorem dX5_init_5 : decode cX5_init 5 = .ok (.new 7, 3) := by decide +kernel
theorem dX5_init_8 : decode cX5_init 8 = .ok (.dup, 1) := by decide +kernel
theorem dX5_init_9 : decode cX5_init 9 = .ok (.invokespecial 9, 3) := by decide +kernel
theorem dX5_init_12 : decode cX5_init 12 = .ok (.putfield 10, 3) := by decide +kernel
theorem dX5_init_15 : decode cX5_init 15 = .ok (.aload_n 0, 1) := by decide +kernel
theorem dX5_init_16 : decode cX5_init 16 = .ok (.new 7, 3) := by decide +kernel
theorem dX5_init_19 : decode cX5_init 19 = .ok (.dup, 1) := by decide +kernel
theorem dX5_init_20 : decode cX5_init 20 = .ok (.invokespecial 9, 3) := by decide +kernel
theorem dX5_init_23 : decode cX5_init 23 = .ok (.putfield 16, 3) := by decide +kernel
theorem dX5_init_26 : decode cX5_init 26 = .ok (.aload_n 0, 1) := by decide +kernel
theorem dX5_init_27 : decode cX5_init 27 = .ok (.new 19, 3) := by decide +kernel
theorem dX5_init_30 : decode cX5_init 30 = .ok (.dup, 1) := by decide +kernel
theorem dX5_init_31 : decode cX5_init 31 = .ok (.invokespecial 21, 3) := by decide +kernel
theorem dX5_init_34 : decode cX5_init 34 = .ok (.putfield 22, 3) := by decide +kernel
theorem dX5_init_37 : decode cX5_init 37 = .ok (.aload_n 0, 1) := by decide +kernel
theorem dX5_init_38 : decode cX5_init 38 = .ok (.new 19, 3) := by decide +kernel
theorem dX5_init_41 : decode cX5_init 41 = .ok (.dup, 1) := by decide +kernel
theorem dX5_init_42 : decode cX5_init 42 = .ok (.invokespecial 21, 3) := by decide +kernel
theorem dX5_init_45 : decode cX5_init 45 = .ok (.putfield 26, 3) := by decide +kernel
theorem dX5_init_48 : decode cX5_init 48 = .ok (.aload_n 0, 1) := by decide +kernel
theorem dX5_init_49 : decode cX5_init 49 = .ok (.new 29, 3) := by decide +kernel
theorem dX5_init_52 : decode cX5_init 52 = .ok (.dup, 1) := by decide +kernel
theorem dX5_init_53 : decode cX5_init 53 = .ok (.invokespecial 31, 3) := by decide +kernel
theorem dX5_init_56 : decode cX5_init 56 = .ok (.putfield 32, 3) := by decide +kernel
theorem dX5_init_59 : decode cX5_init 59 = .ok (.aload_n 0, 1) := by decide +kernel
theorem dX5_init_60 : decode cX5_init 60 = .ok (.new 36, 3) := by decide +kernel
theorem dX5_init_63 : decode cX5_init 63 = .ok (.dup, 1) := by decide +kernel
theorem dX5_init_64 : decode cX5_init 64 = .ok (.bipush 120, 2) := by decide +kernel
theorem dX5_init_66 : decode cX5_init 66 = .ok (.invokespecial 38, 3) := by decide +kernel
theorem dX5_init_69 : decode cX5_init 69 = .ok (.putfield 41, 3) := by decide +kernel
theorem dX5_init_72 : decode cX5_init 72 = .ok (.aload_n 0, 1) := by decide +kernel
theorem dX5_init_73 : decode cX5_init 73 = .ok (.new 36, 3) := by decide +kernel
theorem dX5_init_76 : decode cX5_init 76 = .ok (.dup, 1) := by decide +kernel
theorem dX5_init_77 : decode cX5_init 77 = .ok (.sipush 200, 3) := by decide +kernel
theorem dX5_init_80 : decode cX5_init 80 = .ok (.invokespecial 38, 3) := by decide +kernel
theorem dX5_init_83 : decode cX5_init 83 = .ok (.putfield 45, 3) := by decide +kernel
theorem dX5_init_86 : decode cX5_init 86 = .ok (.aload_n 0, 1) := by decide +kernel
theorem dX5_init_87 : decode cX5_init 87 = .ok (.iconst 0, 1) := by decide +kernel
theorem dX5_init_88 : decode cX5_init 88 = .ok (.putfield 48, 3) := by decide +kernel
theorem dX5_init_91 : decode cX5_init 91 = .ok (.aload_n 0, 1) := by decide +kernel
theorem dX5_init_92 : decode cX5_init 92 = .ok (.new 52, 3) := by decide +kernel
theorem dX5_init_95 : decode cX5_init 95 = .ok (.dup, 1) := by decide +kernel
theorem dX5_init_96 : decode cX5_init 96 = .ok (.bipush 8, 2) := by decide +kernel
theorem dX5_init_98 : decode cX5_init 98 = .ok (.invokespecial 54, 3) := by decide +kernel
theorem dX5_init_101 : decode cX5_init 101 = .ok (.putfield 55, 3) := by decide +kernel
theorem dX5_init_104 : decode cX5_init 104 = .ok (.aload_n 0, 1) := by decide +kernel
theorem dX5_init_105 : decode cX5_init 105 = .ok (.iconst 0, 1) := by decide +kernel
theorem dX5_init_106 : decode cX5_init 106 = .ok (.putfield 59, 3) := by decide +kernel
theorem dX5_init_109 : decode cX5_init 109 = .ok (.aload_n 0, 1) := by decide +kernel
theorem dX5_init_110 : decode cX5_init 110 = .ok (.iconst 0, 1) := by decide +kernel
theorem dX5_init_111 : decode cX5_init 111 = .ok (.putfield 62, 3) := by decide +kernel
theorem dX5_init_114 : decode cX5_init 114 = .ok (.aload_n 0, 1) := by decide +kernel
theorem dX5_init_115 : decode cX5_init 115 = .ok (.new 52, 3) := by decide +kernel
theorem dX5_init_118 : decode cX5_init 118 = .ok (.dup, 1) := by decide +kernel
theorem dX5_init_119 : decode cX5_init 119 = .ok (.iconst 2, 1) := by decide +kernel
theorem dX5_init_120 : decode cX5_init 120 = .ok (.invokespecial 54, 3) := by decide +kernel
theorem dX5_init_123 : decode cX5_init 123 = .ok (.putfield 65, 3) := by decide +kernel
theorem dX5_init_126 : decode cX5_init 126 = .ok (.return_, 1) := by decide +kernel
theorem dX5_append_0 : decode cX5_append 0 = .ok (.iload_n 1, 1) := by decide +kernel
theorem dX5_append_1 : decode cX5_append 1 = .ok (.invokestatic 68, 3) := by decide +kernel
theorem dX5_append_4 : decode cX5_append 4 = .ok (.iload_n 2, 1) := by decide +kernel
theorem dX5_append_5 : decode cX5_append 5 = .ok (.invokestatic 68, 3) := by decide +kernel
theorem dX5_append_8 : decode cX5_append 8 = .ok (.iadd, 1) := by decide +kernel
theorem dX5_append_9 : decode cX5_append 9 = .ok (.iload_n 3, 1) := by decide +kernel
theorem dX5_append_10 : decode cX5_append 10 = .ok (.invokestatic 68, 3) := by decide +kernel
theorem dX5_append_13 : decode cX5_append 13 = .ok (.iadd, 1) := by decide +kernel
theorem dX5_append_14 : decode cX5_append 14 = .ok (.iload 4, 2) := by decide +kernel
theorem dX5_append_16 : decode cX5_append 16 = .ok (.invokestatic 68, 3) := by decide +kernel
theorem dX5_append_19 : decode cX5_append 19 = .ok (.iadd, 1) := by decide +kernel
theorem dX5_append_20 : decode cX5_append 20 = .ok (.iload 5, 2) := by decide +kernel
theorem dX5_append_22 : decode cX5_append 22 = .ok (.invokestatic 68, 3) := by decide +kernel
theorem dX5_append_25 : decode cX5_append 25 = .ok (.iadd, 1) := by decide +kernel
theorem dX5_append_26 : decode cX5_append 26 = .ok (.istore 6, 2) := by decide +kernel
theorem dX5_append_28 : decode cX5_append 28 = .ok (.aload_n 0, 1) := by decide +kernel
theorem dX5_append_29 : decode cX5_append 29 = .ok (.getfield 32, 3) := by decide +kernel
theorem dX5_append_32 : decode cX5_append 32 = .ok (.getfield 72, 3) := by decide +kernel
theorem dX5_append_35 : decode cX5_append 35 = .ok (.iload 6, 2) := by decide +kernel
theorem dX5_append_37 : decode cX5_append 37 = .ok (.iadd, 1) := by decide +kernel
theorem dX5_append_38 : decode cX5_append 38 = .ok (.sipush 600, 3) := by decide +kernel
theorem dX5_append_41 : decode cX5_append 41 = .ok (.if_icmp .le 11, 3) := by decide +kernel
theorem dX5_append_44 : decode cX5_append 44 = .ok (.new 75, 3) := by decide +kernel
theorem dX5_append_47 : decode cX5_append 47 = .ok (.dup, 1) := by decide +kernel
theorem dX5_append_48 : decode cX5_append 48 = .ok (.invokespecial 77, 3) := by decide +kernel
theorem dX5_append_51 : decode cX5_append 51 = .ok (.athrow, 1) := by decide +kernel
theorem dX5_append_52 : decode cX5_append 52 = .ok (.aload_n 0, 1) := by decide +kernel
theorem dX5_append_53 : decode cX5_append 53 = .ok (.getfield 32, 3) := by decide +kernel
theorem dX5_append_56 : decode cX5_append 56 = .ok (.iload_n 1, 1) := by decide +kernel
theorem dX5_append_57 : decode cX5_append 57 = .ok (.invokevirtual 78, 3) := by decide +kernel
theorem dX5_append_60 : decode cX5_append 60 = .ok (.aload_n 0, 1) := by decide +kernel
theorem dX5_append_61 : decode cX5_append 61 = .ok (.getfield 32, 3) := by decide +kernel
theorem dX5_append_64 : decode cX5_append 64 = .ok (.iload_n 2, 1) := by decide +kernel
theorem dX5_append_65 : decode cX5_append 65 = .ok (.invokevirtual 78, 3) := by decide +kernel
theorem dX5_append_68 : decode cX5_append 68 = .ok (.aload_n 0, 1) := by decide +kernel
theorem dX5_append_69 : decode cX5_append 69 = .ok (.getfield 32, 3) := by decide +kernel
theorem dX5_append_72 : decode cX5_append 72 = .ok (.iload_n 3, 1) := by decide +kernel
theorem dX5_append_73 : decode cX5_append 73 = .ok (.invokevirtual 78, 3) := by decide +kernel
theorem dX5_append_76 : decode cX5_append 76 = .ok (.aload_n 0, 1) := by decide +kernel
theorem dX5_append_77 : decode cX5_append 77 = .ok (.getfield 32, 3) := by decide +kernel
theorem dX5_append_80 : decode cX5_append 80 = .ok (.iload 4, 2) := by decide +kernel
theorem dX5_append_82 : decode cX5_append 82 = .ok (.invokevirtual 78, 3) := by decide +kernel
theorem dX5_append_85 : decode cX5_append 85 = .ok (.aload_n 0, 1) := by decide +kernel
theorem dX5_append_86 : decode cX5_append 86 = .ok (.getfield 32, 3) := by decide +kernel
theorem dX5_append_89 : decode cX5_append 89 = .ok (.iload 5, 2) := by decide +kernel
theorem dX5_append_91 : decode cX5_append 91 = .ok (.invokevirtual 78, 3) := by decide +kernel
theorem dX5_append_94 : decode cX5_append 94 = .ok (.aload_n 0, 1) := by decide +kernel
theorem dX5_append_95 : decode cX5_append 95 = .ok (.getfield 32, 3) := by decide +kernel
theorem dX5_append_98 : decode cX5_append 98 = .ok (.getfield 72, 3) := by decide +kernel
theorem dX5_append_101 : decode cX5_append 101 = .ok (.ireturn, 1) := by decide +kernel
theorem dX5_load_0 : decode cX5_load 0 = .ok (.aload_n 0, 1) := by decide +kernel
theorem dX5_load_1 : decode cX5_load 1 = .ok (.getfield 32, 3) := by decide +kernel
theorem dX5_load_4 : decode cX5_load 4 = .ok (.aload_n 0, 1) := by decide +kernel
theorem dX5_load_5 : decode cX5_load 5 = .ok (.getfield 16, 3) := by decide +kernel
theorem dX5_load_8 : decode cX5_load 8 = .ok (.invokevirtual 81, 3) := by decide +kernel
theorem dX5_load_11 : decode cX5_load 11 = .ok (.istore_n 1, 1) := by decide +kernel
theorem dX5_load_12 : decode cX5_load 12 = .ok (.aload_n 0, 1) := by decide +kernel
theorem dX5_load_13 : decode cX5_load 13 = .ok (.getfield 32, 3) := by decide +kernel
theorem dX5_load_16 : decode cX5_load 16 = .ok (.iconst 0, 1) := by decide +kernel
theorem dX5_load_17 : decode cX5_load 17 = .ok (.putfield 72, 3) := by decide +kernel
theorem dX5_load_20 : decode cX5_load 20 = .ok (.iload_n 1, 1) := by decide +kernel
theorem dX5_load_21 : decode cX5_load 21 = .ok (.ifCond .ne 11, 3) := by decide +kernel
theorem dX5_load_24 : decode cX5_load 24 = .ok (.aload_n 0, 1) := by decide +kernel
theorem dX5_load_25 : decode cX5_load 25 = .ok (.getfield 32, 3) := by decide +kernel
theorem dX5_load_28 : decode cX5_load 28 = .ok (.getfield 85, 3) := by decide +kernel
theorem dX5_load_31 : decode cX5_load 31 = .ok (.ireturn, 1) := by decide +kernel
theorem dX5_load_32 : decode cX5_load 32 = .ok (.aload_n 0, 1) := by decide +kernel
theorem dX5_load_33 : decode cX5_load 33 = .ok (.invokevirtual 88, 3) := by decide +kernel
theorem dX5_load_36 : decode cX5_load 36 = .ok (.aload_n 0, 1) := by decide +kernel
theorem dX5_load_37 : decode cX5_load 37 = .ok (.getfield 10, 3) := by decide +kernel
theorem dX5_load_40 : decode cX5_load 40 = .ok (.aload_n 0, 1) := by decide +kernel
theorem dX5_load_41 : decode cX5_load 41 = .ok (.getfield 16, 3) := by decide +kernel
theorem dX5_load_44 : decode cX5_load 44 = .ok (.invokevirtual 91, 3) := by decide +kernel
theorem dX5_load_47 : decode cX5_load 47 = .ok (.aload_n 0, 1) := by decide +kernel
theorem dX5_load_48 : decode cX5_load 48 = .ok (.getfield 10, 3) := by decide +kernel
theorem dX5_load_51 : decode cX5_load 51 = .ok (.getfield 95, 3) := by decide +kernel
theorem dX5_load_54 : decode cX5_load 54 = .ok (.ireturn, 1) := by decide +kernel
theorem dX5_errorPosition_0 : decode cX5_errorPosition 0 = .ok (.aload_n 0, 1) := by decide +kernel
theorem dX5_errorPosition_1 : decode cX5_errorPosition 1 = .ok (.getfield 32, 3) := by decide +kernel
theorem dX5_errorPosition_4 : decode cX5_errorPosition 4 = .ok (.getfield 98, 3) := by decide +kernel
theorem dX5_errorPosition_7 : decode cX5_errorPosition 7 = .ok (.ireturn, 1) := by decide +kernel
theorem dX5_count_0 : decode cX5_count 0 = .ok (.iload_n 1, 1) := by decide +kernel
theorem dX5_count_1 : decode cX5_count 1 = .ok (.tableswitch 107 0 6 #[43, 51, 59, 75, 83, 91, 99], 43) := by decide +kernel
theorem dX5_count_44 : decode cX5_count 44 = .ok (.aload_n 0, 1) := by decide +kernel
theorem dX5_count_45 : decode cX5_count 45 = .ok (.getfield 10, 3) := by decide +kernel
theorem dX5_count_48 : decode cX5_count 48 = .ok (.getfield 95, 3) := by decide +kernel
theorem dX5_count_51 : decode cX5_count 51 = .ok (.ireturn, 1) := by decide +kernel
theorem dX5_count_52 : decode cX5_count 52 = .ok (.aload_n 0, 1) := by decide +kernel
theorem dX5_count_53 : decode cX5_count 53 = .ok (.getfield 10, 3) := by decide +kernel
theorem dX5_count_56 : decode cX5_count 56 = .ok (.invokevirtual 101, 3) := by decide +kernel
theorem dX5_count_59 : decode cX5_count 59 = .ok (.ireturn, 1) := by decide +kernel
theorem dX5_count_60 : decode cX5_count 60 = .ok (.aload_n 0, 1) := by decide +kernel
theorem dX5_count_61 : decode cX5_count 61 = .ok (.getfield 10, 3) := by decide +kernel
theorem dX5_count_64 : decode cX5_count 64 = .ok (.getfield 105, 3) := by decide +kernel
theorem dX5_count_67 : decode cX5_count 67 = .ok (.ifCond .eq 7, 3) := by decide +kernel
theorem dX5_count_70 : decode cX5_count 70 = .ok (.iconst 1, 1) := by decide +kernel
theorem dX5_count_71 : decode cX5_count 71 = .ok (.goto 4, 3) := by decide +kernel
theorem dX5_count_74 : decode cX5_count 74 = .ok (.iconst 0, 1) := by decide +kernel
theorem dX5_count_75 : decode cX5_count 75 = .ok (.ireturn, 1) := by decide +kernel
theorem dX5_count_76 : decode cX5_count 76 = .ok (.aload_n 0, 1) := by decide +kernel
theorem dX5_count_77 : decode cX5_count 77 = .ok (.getfield 10, 3) := by decide +kernel
theorem dX5_count_80 : decode cX5_count 80 = .ok (.invokevirtual 109, 3) := by decide +kernel
theorem dX5_count_83 : decode cX5_count 83 = .ok (.ireturn, 1) := by decide +kernel
theorem dX5_count_84 : decode cX5_count 84 = .ok (.aload_n 0, 1) := by decide +kernel
theorem dX5_count_85 : decode cX5_count 85 = .ok (.getfield 10, 3) := by decide +kernel
theorem dX5_count_88 : decode cX5_count 88 = .ok (.invokevirtual 112, 3) := by decide +kernel
theorem dX5_count_91 : decode cX5_count 91 = .ok (.ireturn, 1) := by decide +kernel
theorem dX5_count_92 : decode cX5_count 92 = .ok (.aload_n 0, 1) := by decide +kernel
theorem dX5_count_93 : decode cX5_count 93 = .ok (.getfield 10, 3) := by decide +kernel
theorem dX5_count_96 : decode cX5_count 96 = .ok (.invokevirtual 115, 3) := by decide +kernel
theorem dX5_count_99 : decode cX5_count 99 = .ok (.ireturn, 1) := by decide +kernel
theorem dX5_count_100 : decode cX5_count 100 = .ok (.aload_n 0, 1) := by decide +kernel
theorem dX5_count_101 : decode cX5_count 101 = .ok (.getfield 10, 3) := by decide +kernel
theorem dX5_count_104 : decode cX5_count 104 = .ok (.invokevirtual 118, 3) := by decide +kernel
theorem dX5_count_107 : decode cX5_count 107 = .ok (.ireturn, 1) := by decide +kernel
theorem dX5_count_108 : decode cX5_count 108 = .ok (.new 121, 3) := by decide +kernel
theorem dX5_count_111 : decode cX5_count 111 = .ok (.dup, 1) := by decide +kernel
theorem dX5_count_112 : decode cX5_count 112 = .ok (.invokespecial 123, 3) := by decide +kernel
theorem dX5_count_115 : decode cX5_count 115 = .ok (.athrow, 1) := by decide +kernel
theorem dX5_event_0 : decode cX5_event 0 = .ok (.aload_n 0, 1) := by decide +kernel
theorem dX5_event_1 : decode cX5_event 1 = .ok (.iload_n 1, 1) := by decide +kernel
theorem dX5_event_2 : decode cX5_event 2 = .ok (.invokevirtual 124, 3) := by decide +kernel
theorem dX5_event_5 : decode cX5_event 5 = .ok (.iload_n 2, 1) := by decide +kernel
theorem dX5_event_6 : decode cX5_event 6 = .ok (.tableswitch 73 0 2 #[26, 38, 50], 26) := by decide +kernel
theorem dX5_event_32 : decode cX5_event 32 = .ok (.aload_n 0, 1) := by decide +kernel
theorem dX5_event_33 : decode cX5_event 33 = .ok (.getfield 10, 3) := by decide +kernel
theorem dX5_event_36 : decode cX5_event 36 = .ok (.getfield 127, 3) := by decide +kernel
theorem dX5_event_39 : decode cX5_event 39 = .ok (.iload_n 1, 1) := by decide +kernel
theorem dX5_event_40 : decode cX5_event 40 = .ok (.invokevirtual 130, 3) := by decide +kernel
theorem dX5_event_43 : decode cX5_event 43 = .ok (.ireturn, 1) := by decide +kernel
theorem dX5_event_44 : decode cX5_event 44 = .ok (.aload_n 0, 1) := by decide +kernel
theorem dX5_event_45 : decode cX5_event 45 = .ok (.getfield 10, 3) := by decide +kernel
theorem dX5_event_48 : decode cX5_event 48 = .ok (.getfield 133, 3) := by decide +kernel
theorem dX5_event_51 : decode cX5_event 51 = .ok (.iload_n 1, 1) := by decide +kernel
theorem dX5_event_52 : decode cX5_event 52 = .ok (.invokevirtual 130, 3) := by decide +kernel
theorem dX5_event_55 : decode cX5_event 55 = .ok (.ireturn, 1) := by decide +kernel
theorem dX5_event_56 : decode cX5_event 56 = .ok (.aload_n 0, 1) := by decide +kernel
theorem dX5_event_57 : decode cX5_event 57 = .ok (.getfield 22, 3) := by decide +kernel
theorem dX5_event_60 : decode cX5_event 60 = .ok (.aload_n 0, 1) := by decide +kernel
theorem dX5_event_61 : decode cX5_event 61 = .ok (.getfield 10, 3) := by decide +kernel
theorem dX5_event_64 : decode cX5_event 64 = .ok (.invokevirtual 136, 3) := by decide +kernel
theorem dX5_event_67 : decode cX5_event 67 = .ok (.aload_n 0, 1) := by decide +kernel
theorem dX5_event_68 : decode cX5_event 68 = .ok (.getfield 22, 3) := by decide +kernel
theorem dX5_event_71 : decode cX5_event 71 = .ok (.getfield 139, 3) := by decide +kernel
theorem dX5_event_74 : decode cX5_event 74 = .ok (.iload_n 1, 1) := by decide +kernel
theorem dX5_event_75 : decode cX5_event 75 = .ok (.invokevirtual 130, 3) := by decide +kernel
theorem dX5_event_78 : decode cX5_event 78 = .ok (.ireturn, 1) := by decide +kernel
theorem dX5_event_79 : decode cX5_event 79 = .ok (.new 121, 3) := by decide +kernel
theorem dX5_event_82 : decode cX5_event 82 = .ok (.dup, 1) := by decide +kernel
theorem dX5_event_83 : decode cX5_event 83 = .ok (.invokespecial 123, 3) := by decide +kernel
theorem dX5_event_86 : decode cX5_event 86 = .ok (.athrow, 1) := by decide +kernel
theorem dX5_note_0 : decode cX5_note 0 = .ok (.aload_n 0, 1) := by decide +kernel
theorem dX5_note_1 : decode cX5_note 1 = .ok (.iload_n 1, 1) := by decide +kernel
theorem dX5_note_2 : decode cX5_note 2 = .ok (.iload_n 2, 1) := by decide +kernel
theorem dX5_note_3 : decode cX5_note 3 = .ok (.invokevirtual 142, 3) := by decide +kernel
theorem dX5_note_6 : decode cX5_note 6 = .ok (.iload_n 3, 1) := by decide +kernel
theorem dX5_note_7 : decode cX5_note 7 = .ok (.lookupswitch 51 #[(0, 25), (1, 35)], 25) := by decide +kernel
theorem dX5_note_32 : decode cX5_note 32 = .ok (.aload_n 0, 1) := by decide +kernel
theorem dX5_note_33 : decode cX5_note 33 = .ok (.getfield 10, 3) := by decide +kernel
theorem dX5_note_36 : decode cX5_note 36 = .ok (.iload_n 1, 1) := by decide +kernel
theorem dX5_note_37 : decode cX5_note 37 = .ok (.iload_n 2, 1) := by decide +kernel
theorem dX5_note_38 : decode cX5_note 38 = .ok (.invokevirtual 146, 3) := by decide +kernel
theorem dX5_note_41 : decode cX5_note 41 = .ok (.ireturn, 1) := by decide +kernel
theorem dX5_note_42 : decode cX5_note 42 = .ok (.aload_n 0, 1) := by decide +kernel
theorem dX5_note_43 : decode cX5_note 43 = .ok (.getfield 10, 3) := by decide +kernel
theorem dX5_note_46 : decode cX5_note 46 = .ok (.getfield 150, 3) := by decide +kernel
theorem dX5_note_49 : decode cX5_note 49 = .ok (.iload_n 1, 1) := by decide +kernel
theorem dX5_note_50 : decode cX5_note 50 = .ok (.iload_n 2, 1) := by decide +kernel
theorem dX5_note_51 : decode cX5_note 51 = .ok (.invokestatic 153, 3) := by decide +kernel
theorem dX5_note_54 : decode cX5_note 54 = .ok (.invokevirtual 130, 3) := by decide +kernel
theorem dX5_note_57 : decode cX5_note 57 = .ok (.ireturn, 1) := by decide +kernel
theorem dX5_note_58 : decode cX5_note 58 = .ok (.new 121, 3) := by decide +kernel
theorem dX5_note_61 : decode cX5_note 61 = .ok (.dup, 1) := by decide +kernel
theorem dX5_note_62 : decode cX5_note 62 = .ok (.invokespecial 123, 3) := by decide +kernel
theorem dX5_note_65 : decode cX5_note 65 = .ok (.athrow, 1) := by decide +kernel
theorem dX5_weight_0 : decode cX5_weight 0 = .ok (.aload_n 0, 1) := by decide +kernel
theorem dX5_weight_1 : decode cX5_weight 1 = .ok (.iload_n 1, 1) := by decide +kernel
theorem dX5_weight_2 : decode cX5_weight 2 = .ok (.invokevirtual 156, 3) := by decide +kernel
theorem dX5_weight_5 : decode cX5_weight 5 = .ok (.aload_n 0, 1) := by decide +kernel
theorem dX5_weight_6 : decode cX5_weight 6 = .ok (.getfield 10, 3) := by decide +kernel
theorem dX5_weight_9 : decode cX5_weight 9 = .ok (.getfield 159, 3) := by decide +kernel
theorem dX5_weight_12 : decode cX5_weight 12 = .ok (.iload_n 1, 1) := by decide +kernel
theorem dX5_weight_13 : decode cX5_weight 13 = .ok (.invokevirtual 130, 3) := by decide +kernel
theorem dX5_weight_16 : decode cX5_weight 16 = .ok (.ireturn, 1) := by decide +kernel
theorem dX5_span_0 : decode cX5_span 0 = .ok (.aload_n 0, 1) := by decide +kernel
theorem dX5_span_1 : decode cX5_span 1 = .ok (.iload_n 1, 1) := by decide +kernel
theorem dX5_span_2 : decode cX5_span 2 = .ok (.invokevirtual 162, 3) := by decide +kernel
theorem dX5_span_5 : decode cX5_span 5 = .ok (.aload_n 0, 1) := by decide +kernel
theorem dX5_span_6 : decode cX5_span 6 = .ok (.iload_n 2, 1) := by decide +kernel
theorem dX5_span_7 : decode cX5_span 7 = .ok (.invokevirtual 162, 3) := by decide +kernel
theorem dX5_span_10 : decode cX5_span 10 = .ok (.iload_n 1, 1) := by decide +kernel
theorem dX5_span_11 : decode cX5_span 11 = .ok (.iload_n 2, 1) := by decide +kernel
theorem dX5_span_12 : decode cX5_span 12 = .ok (.if_icmp .ne 11, 3) := by decide +kernel
theorem dX5_span_15 : decode cX5_span 15 = .ok (.new 121, 3) := by decide +kernel
theorem dX5_span_18 : decode cX5_span 18 = .ok (.dup, 1) := by decide +kernel
theorem dX5_span_19 : decode cX5_span 19 = .ok (.invokespecial 123, 3) := by decide +kernel
theorem dX5_span_22 : decode cX5_span 22 = .ok (.athrow, 1) := by decide +kernel
theorem dX5_span_23 : decode cX5_span 23 = .ok (.iload_n 3, 1) := by decide +kernel
theorem dX5_span_24 : decode cX5_span 24 = .ok (.tableswitch 76 0 2 #[28, 44, 60], 28) := by decide +kernel
theorem dX5_span_52 : decode cX5_span 52 = .ok (.aload_n 0, 1) := by decide +kernel
theorem dX5_span_53 : decode cX5_span 53 = .ok (.getfield 10, 3) := by decide +kernel
theorem dX5_span_56 : decode cX5_span 56 = .ok (.getfield 165, 3) := by decide +kernel
theorem dX5_span_59 : decode cX5_span 59 = .ok (.iload_n 1, 1) := by decide +kernel
theorem dX5_span_60 : decode cX5_span 60 = .ok (.iload_n 2, 1) := by decide +kernel
theorem dX5_span_61 : decode cX5_span 61 = .ok (.invokestatic 168, 3) := by decide +kernel
theorem dX5_span_64 : decode cX5_span 64 = .ok (.invokevirtual 130, 3) := by decide +kernel
theorem dX5_span_67 : decode cX5_span 67 = .ok (.ireturn, 1) := by decide +kernel
theorem dX5_span_68 : decode cX5_span 68 = .ok (.aload_n 0, 1) := by decide +kernel
theorem dX5_span_69 : decode cX5_span 69 = .ok (.getfield 10, 3) := by decide +kernel
theorem dX5_span_72 : decode cX5_span 72 = .ok (.getfield 171, 3) := by decide +kernel
theorem dX5_span_75 : decode cX5_span 75 = .ok (.iload_n 1, 1) := by decide +kernel
theorem dX5_span_76 : decode cX5_span 76 = .ok (.iload_n 2, 1) := by decide +kernel
theorem dX5_span_77 : decode cX5_span 77 = .ok (.invokestatic 168, 3) := by decide +kernel
theorem dX5_span_80 : decode cX5_span 80 = .ok (.invokevirtual 130, 3) := by decide +kernel
theorem dX5_span_83 : decode cX5_span 83 = .ok (.ireturn, 1) := by decide +kernel
theorem dX5_span_84 : decode cX5_span 84 = .ok (.aload_n 0, 1) := by decide +kernel
theorem dX5_span_85 : decode cX5_span 85 = .ok (.getfield 10, 3) := by decide +kernel
theorem dX5_span_88 : decode cX5_span 88 = .ok (.getfield 174, 3) := by decide +kernel
theorem dX5_span_91 : decode cX5_span 91 = .ok (.iload_n 1, 1) := by decide +kernel
theorem dX5_span_92 : decode cX5_span 92 = .ok (.iload_n 2, 1) := by decide +kernel
theorem dX5_span_93 : decode cX5_span 93 = .ok (.invokestatic 168, 3) := by decide +kernel
theorem dX5_span_96 : decode cX5_span 96 = .ok (.invokevirtual 130, 3) := by decide +kernel
theorem dX5_span_99 : decode cX5_span 99 = .ok (.ireturn, 1) := by decide +kernel
theorem dX5_span_100 : decode cX5_span 100 = .ok (.new 121, 3) := by decide +kernel
theorem dX5_span_103 : decode cX5_span 103 = .ok (.dup, 1) := by decide +kernel
theorem dX5_span_104 : decode cX5_span 104 = .ok (.invokespecial 123, 3) := by decide +kernel
theorem dX5_span_107 : decode cX5_span 107 = .ok (.athrow, 1) := by decide +kernel
theorem dX5_link_0 : decode cX5_link 0 = .ok (.aload_n 0, 1) := by decide +kernel
theorem dX5_link_1 : decode cX5_link 1 = .ok (.iload_n 1, 1) := by decide +kernel
theorem dX5_link_2 : decode cX5_link 2 = .ok (.invokevirtual 162, 3) := by decide +kernel
theorem dX5_link_5 : decode cX5_link 5 = .ok (.aload_n 0, 1) := by decide +kernel
theorem dX5_link_6 : decode cX5_link 6 = .ok (.iload_n 3, 1) := by decide +kernel
theorem dX5_link_7 : decode cX5_link 7 = .ok (.invokevirtual 162, 3) := by decide +kernel
theorem dX5_link_10 : decode cX5_link 10 = .ok (.iload_n 2, 1) := by decide +kernel
theorem dX5_link_11 : decode cX5_link 11 = .ok (.bipush 21, 2) := by decide +kernel
theorem dX5_link_13 : decode cX5_link 13 = .ok (.bipush 108, 2) := by decide +kernel
theorem dX5_link_15 : decode cX5_link 15 = .ok (.invokestatic 177, 3) := by decide +kernel
theorem dX5_link_18 : decode cX5_link 18 = .ok (.ifCond .eq 15, 3) := by decide +kernel
theorem dX5_link_21 : decode cX5_link 21 = .ok (.iload 4, 2) := by decide +kernel
theorem dX5_link_23 : decode cX5_link 23 = .ok (.bipush 21, 2) := by decide +kernel
theorem dX5_link_25 : decode cX5_link 25 = .ok (.bipush 108, 2) := by decide +kernel
theorem dX5_link_27 : decode cX5_link 27 = .ok (.invokestatic 177, 3) := by decide +kernel
theorem dX5_link_30 : decode cX5_link 30 = .ok (.ifCond .ne 11, 3) := by decide +kernel
theorem dX5_link_33 : decode cX5_link 33 = .ok (.new 121, 3) := by decide +kernel
theorem dX5_link_36 : decode cX5_link 36 = .ok (.dup, 1) := by decide +kernel
theorem dX5_link_37 : decode cX5_link 37 = .ok (.invokespecial 123, 3) := by decide +kernel
theorem dX5_link_40 : decode cX5_link 40 = .ok (.athrow, 1) := by decide +kernel
theorem dX5_link_41 : decode cX5_link 41 = .ok (.aload_n 0, 1) := by decide +kernel
theorem dX5_link_42 : decode cX5_link 42 = .ok (.getfield 10, 3) := by decide +kernel
theorem dX5_link_45 : decode cX5_link 45 = .ok (.iload_n 1, 1) := by decide +kernel
theorem dX5_link_46 : decode cX5_link 46 = .ok (.iload_n 2, 1) := by decide +kernel
theorem dX5_link_47 : decode cX5_link 47 = .ok (.iload_n 3, 1) := by decide +kernel
theorem dX5_link_48 : decode cX5_link 48 = .ok (.iload 4, 2) := by decide +kernel
theorem dX5_link_50 : decode cX5_link 50 = .ok (.invokevirtual 181, 3) := by decide +kernel
theorem dX5_link_53 : decode cX5_link 53 = .ok (.ireturn, 1) := by decide +kernel
theorem dX5_best_0 : decode cX5_best 0 = .ok (.aload_n 0, 1) := by decide +kernel
theorem dX5_best_1 : decode cX5_best 1 = .ok (.getfield 22, 3) := by decide +kernel
theorem dX5_best_4 : decode cX5_best 4 = .ok (.aload_n 0, 1) := by decide +kernel
theorem dX5_best_5 : decode cX5_best 5 = .ok (.getfield 10, 3) := by decide +kernel
theorem dX5_best_8 : decode cX5_best 8 = .ok (.invokevirtual 136, 3) := by decide +kernel
theorem dX5_best_11 : decode cX5_best 11 = .ok (.aload_n 0, 1) := by decide +kernel
theorem dX5_best_12 : decode cX5_best 12 = .ok (.getfield 22, 3) := by decide +kernel
theorem dX5_best_15 : decode cX5_best 15 = .ok (.getfield 185, 3) := by decide +kernel
theorem dX5_best_18 : decode cX5_best 18 = .ok (.ireturn, 1) := by decide +kernel
theorem dX5_finger_0 : decode cX5_finger 0 = .ok (.aload_n 0, 1) := by decide +kernel
theorem dX5_finger_1 : decode cX5_finger 1 = .ok (.iload_n 1, 1) := by decide +kernel
theorem dX5_finger_2 : decode cX5_finger 2 = .ok (.iload_n 2, 1) := by decide +kernel
theorem dX5_finger_3 : decode cX5_finger 3 = .ok (.invokevirtual 142, 3) := by decide +kernel
theorem dX5_finger_6 : decode cX5_finger 6 = .ok (.aload_n 0, 1) := by decide +kernel
theorem dX5_finger_7 : decode cX5_finger 7 = .ok (.invokevirtual 188, 3) := by decide +kernel
theorem dX5_finger_10 : decode cX5_finger 10 = .ok (.aload_n 0, 1) := by decide +kernel
theorem dX5_finger_11 : decode cX5_finger 11 = .ok (.getfield 22, 3) := by decide +kernel
theorem dX5_finger_14 : decode cX5_finger 14 = .ok (.iload_n 1, 1) := by decide +kernel
theorem dX5_finger_15 : decode cX5_finger 15 = .ok (.iload_n 2, 1) := by decide +kernel
theorem dX5_finger_16 : decode cX5_finger 16 = .ok (.invokevirtual 191, 3) := by decide +kernel
theorem dX5_finger_19 : decode cX5_finger 19 = .ok (.ireturn, 1) := by decide +kernel
theorem dX5_part_0 : decode cX5_part 0 = .ok (.aload_n 0, 1) := by decide +kernel
theorem dX5_part_1 : decode cX5_part 1 = .ok (.iload_n 1, 1) := by decide +kernel
theorem dX5_part_2 : decode cX5_part 2 = .ok (.invokevirtual 124, 3) := by decide +kernel
theorem dX5_part_5 : decode cX5_part 5 = .ok (.iload_n 2, 1) := by decide +kernel
theorem dX5_part_6 : decode cX5_part 6 = .ok (.iconst 0, 1) := by decide +kernel
theorem dX5_part_7 : decode cX5_part 7 = .ok (.iconst 2, 1) := by decide +kernel
theorem dX5_part_8 : decode cX5_part 8 = .ok (.invokestatic 177, 3) := by decide +kernel
theorem dX5_part_11 : decode cX5_part 11 = .ok (.ifCond .ne 11, 3) := by decide +kernel
theorem dX5_part_14 : decode cX5_part 14 = .ok (.new 121, 3) := by decide +kernel
theorem dX5_part_17 : decode cX5_part 17 = .ok (.dup, 1) := by decide +kernel
theorem dX5_part_18 : decode cX5_part 18 = .ok (.invokespecial 123, 3) := by decide +kernel
theorem dX5_part_21 : decode cX5_part 21 = .ok (.athrow, 1) := by decide +kernel
theorem dX5_part_22 : decode cX5_part 22 = .ok (.aload_n 0, 1) := by decide +kernel
theorem dX5_part_23 : decode cX5_part 23 = .ok (.invokevirtual 188, 3) := by decide +kernel
theorem dX5_part_26 : decode cX5_part 26 = .ok (.iload_n 2, 1) := by decide +kernel
theorem dX5_part_27 : decode cX5_part 27 = .ok (.ifCond .ne 12, 3) := by decide +kernel
theorem dX5_part_30 : decode cX5_part 30 = .ok (.aload_n 0, 1) := by decide +kernel
theorem dX5_part_31 : decode cX5_part 31 = .ok (.getfield 22, 3) := by decide +kernel
theorem dX5_part_34 : decode cX5_part 34 = .ok (.iload_n 1, 1) := by decide +kernel
theorem dX5_part_35 : decode cX5_part 35 = .ok (.invokevirtual 194, 3) := by decide +kernel
theorem dX5_part_38 : decode cX5_part 38 = .ok (.ireturn, 1) := by decide +kernel
theorem dX5_part_39 : decode cX5_part 39 = .ok (.iload_n 1, 1) := by decide +kernel
theorem dX5_part_40 : decode cX5_part 40 = .ok (.ifCond .ne 5, 3) := by decide +kernel
theorem dX5_part_43 : decode cX5_part 43 = .ok (.iconst 0, 1) := by decide +kernel
theorem dX5_part_44 : decode cX5_part 44 = .ok (.ireturn, 1) := by decide +kernel
theorem dX5_part_45 : decode cX5_part 45 = .ok (.iload_n 2, 1) := by decide +kernel
theorem dX5_part_46 : decode cX5_part 46 = .ok (.iconst 1, 1) := by decide +kernel
theorem dX5_part_47 : decode cX5_part 47 = .ok (.if_icmp .ne 16, 3) := by decide +kernel
theorem dX5_part_50 : decode cX5_part 50 = .ok (.aload_n 0, 1) := by decide +kernel
theorem dX5_part_51 : decode cX5_part 51 = .ok (.getfield 22, 3) := by decide +kernel
theorem dX5_part_54 : decode cX5_part 54 = .ok (.iload_n 1, 1) := by decide +kernel
theorem dX5_part_55 : decode cX5_part 55 = .ok (.iconst 1, 1) := by decide +kernel
theorem dX5_part_56 : decode cX5_part 56 = .ok (.isub, 1) := by decide +kernel
theorem dX5_part_57 : decode cX5_part 57 = .ok (.invokevirtual 197, 3) := by decide +kernel
theorem dX5_part_60 : decode cX5_part 60 = .ok (.goto 17, 3) := by decide +kernel
theorem dX5_part_63 : decode cX5_part 63 = .ok (.aload_n 0, 1) := by decide +kernel
theorem dX5_part_64 : decode cX5_part 64 = .ok (.getfield 22, 3) := by decide +kernel
theorem dX5_part_67 : decode cX5_part 67 = .ok (.aload_n 0, 1) := by decide +kernel
theorem dX5_part_68 : decode cX5_part 68 = .ok (.getfield 10, 3) := by decide +kernel
theorem dX5_part_71 : decode cX5_part 71 = .ok (.iload_n 1, 1) := by decide +kernel
theorem dX5_part_72 : decode cX5_part 72 = .ok (.iconst 1, 1) := by decide +kernel
theorem dX5_part_73 : decode cX5_part 73 = .ok (.isub, 1) := by decide +kernel
theorem dX5_part_74 : decode cX5_part 74 = .ok (.invokevirtual 200, 3) := by decide +kernel
theorem dX5_part_77 : decode cX5_part 77 = .ok (.ireturn, 1) := by decide +kernel
theorem dX5_many_0 : decode cX5_many 0 = .ok (.aload_n 0, 1) := by decide +kernel
theorem dX5_many_1 : decode cX5_many 1 = .ok (.getfield 22, 3) := by decide +kernel
theorem dX5_many_4 : decode cX5_many 4 = .ok (.aload_n 0, 1) := by decide +kernel
theorem dX5_many_5 : decode cX5_many 5 = .ok (.getfield 10, 3) := by decide +kernel
theorem dX5_many_8 : decode cX5_many 8 = .ok (.invokevirtual 136, 3) := by decide +kernel
theorem dX5_many_11 : decode cX5_many 11 = .ok (.aload_n 0, 1) := by decide +kernel
theorem dX5_many_12 : decode cX5_many 12 = .ok (.getfield 22, 3) := by decide +kernel
theorem dX5_many_15 : decode cX5_many 15 = .ok (.iload_n 1, 1) := by decide +kernel
theorem dX5_many_16 : decode cX5_many 16 = .ok (.invokevirtual 204, 3) := by decide +kernel
theorem dX5_many_19 : decode cX5_many 19 = .ok (.lreturn, 1) := by decide +kernel
theorem dX5_costWith_0 : decode cX5_costWith 0 = .ok (.aload_n 0, 1) := by decide +kernel
theorem dX5_costWith_1 : decode cX5_costWith 1 = .ok (.iload_n 1, 1) := by decide +kernel
theorem dX5_costWith_2 : decode cX5_costWith 2 = .ok (.iload_n 2, 1) := by decide +kernel
theorem dX5_costWith_3 : decode cX5_costWith 3 = .ok (.invokevirtual 142, 3) := by decide +kernel
theorem dX5_costWith_6 : decode cX5_costWith 6 = .ok (.aload_n 0, 1) := by decide +kernel
theorem dX5_costWith_7 : decode cX5_costWith 7 = .ok (.iload_n 3, 1) := by decide +kernel
theorem dX5_costWith_8 : decode cX5_costWith 8 = .ok (.invokevirtual 162, 3) := by decide +kernel
theorem dX5_costWith_11 : decode cX5_costWith 11 = .ok (.aload_n 0, 1) := by decide +kernel
theorem dX5_costWith_12 : decode cX5_costWith 12 = .ok (.getfield 22, 3) := by decide +kernel
theorem dX5_costWith_15 : decode cX5_costWith 15 = .ok (.aload_n 0, 1) := by decide +kernel
theorem dX5_costWith_16 : decode cX5_costWith 16 = .ok (.getfield 10, 3) := by decide +kernel
theorem dX5_costWith_19 : decode cX5_costWith 19 = .ok (.invokevirtual 136, 3) := by decide +kernel
theorem dX5_costWith_22 : decode cX5_costWith 22 = .ok (.aload_n 0, 1) := by decide +kernel
theorem dX5_costWith_23 : decode cX5_costWith 23 = .ok (.getfield 22, 3) := by decide +kernel
theorem dX5_costWith_26 : decode cX5_costWith 26 = .ok (.iload_n 1, 1) := by decide +kernel
theorem dX5_costWith_27 : decode cX5_costWith 27 = .ok (.iload_n 2, 1) := by decide +kernel
theorem dX5_costWith_28 : decode cX5_costWith 28 = .ok (.iload_n 3, 1) := by decide +kernel
theorem dX5_costWith_29 : decode cX5_costWith 29 = .ok (.invokevirtual 208, 3) := by decide +kernel
theorem dX5_costWith_32 : decode cX5_costWith 32 = .ok (.ireturn, 1) := by decide +kernel
theorem dX5_reaches_0 : decode cX5_reaches 0 = .ok (.aload_n 0, 1) := by decide +kernel
theorem dX5_reaches_1 : decode cX5_reaches 1 = .ok (.getfield 22, 3) := by decide +kernel
theorem dX5_reaches_4 : decode cX5_reaches 4 = .ok (.aload_n 0, 1) := by decide +kernel
theorem dX5_reaches_5 : decode cX5_reaches 5 = .ok (.getfield 10, 3) := by decide +kernel
theorem dX5_reaches_8 : decode cX5_reaches 8 = .ok (.invokevirtual 136, 3) := by decide +kernel
theorem dX5_reaches_11 : decode cX5_reaches 11 = .ok (.aload_n 0, 1) := by decide +kernel
theorem dX5_reaches_12 : decode cX5_reaches 12 = .ok (.getfield 22, 3) := by decide +kernel
theorem dX5_reaches_15 : decode cX5_reaches 15 = .ok (.invokevirtual 212, 3) := by decide +kernel
theorem dX5_reaches_18 : decode cX5_reaches 18 = .ok (.ireturn, 1) := by decide +kernel
theorem dX5_uses_0 : decode cX5_uses 0 = .ok (.aload_n 0, 1) := by decide +kernel
theorem dX5_uses_1 : decode cX5_uses 1 = .ok (.iload_n 1, 1) := by decide +kernel
theorem dX5_uses_2 : decode cX5_uses 2 = .ok (.invokevirtual 162, 3) := by decide +kernel
theorem dX5_uses_5 : decode cX5_uses 5 = .ok (.aload_n 0, 1) := by decide +kernel
theorem dX5_uses_6 : decode cX5_uses 6 = .ok (.invokevirtual 188, 3) := by decide +kernel
theorem dX5_uses_9 : decode cX5_uses 9 = .ok (.iconst 0, 1) := by decide +kernel
theorem dX5_uses_10 : decode cX5_uses 10 = .ok (.istore_n 2, 1) := by decide +kernel
theorem dX5_uses_11 : decode cX5_uses 11 = .ok (.iconst 0, 1) := by decide +kernel
theorem dX5_uses_12 : decode cX5_uses 12 = .ok (.istore_n 3, 1) := by decide +kernel
theorem dX5_uses_13 : decode cX5_uses 13 = .ok (.iload_n 3, 1) := by decide +kernel
theorem dX5_uses_14 : decode cX5_uses 14 = .ok (.aload_n 0, 1) := by decide +kernel
theorem dX5_uses_15 : decode cX5_uses 15 = .ok (.getfield 10, 3) := by decide +kernel
theorem dX5_uses_18 : decode cX5_uses 18 = .ok (.getfield 95, 3) := by decide +kernel
theorem dX5_uses_21 : decode cX5_uses 21 = .ok (.if_icmp .ge 56, 3) := by decide +kernel
theorem dX5_uses_24 : decode cX5_uses 24 = .ok (.iconst 0, 1) := by decide +kernel
theorem dX5_uses_25 : decode cX5_uses 25 = .ok (.istore 4, 2) := by decide +kernel
theorem dX5_uses_27 : decode cX5_uses 27 = .ok (.iload 4, 2) := by decide +kernel
theorem dX5_uses_29 : decode cX5_uses 29 = .ok (.aload_n 0, 1) := by decide +kernel
theorem dX5_uses_30 : decode cX5_uses 30 = .ok (.getfield 10, 3) := by decide +kernel
theorem dX5_uses_33 : decode cX5_uses 33 = .ok (.getfield 127, 3) := by decide +kernel
theorem dX5_uses_36 : decode cX5_uses 36 = .ok (.iload_n 3, 1) := by decide +kernel
theorem dX5_uses_37 : decode cX5_uses 37 = .ok (.invokevirtual 130, 3) := by decide +kernel
theorem dX5_uses_40 : decode cX5_uses 40 = .ok (.if_icmp .ge 31, 3) := by decide +kernel
theorem dX5_uses_43 : decode cX5_uses 43 = .ok (.iload_n 2, 1) := by decide +kernel
theorem dX5_uses_44 : decode cX5_uses 44 = .ok (.aload_n 0, 1) := by decide +kernel
theorem dX5_uses_45 : decode cX5_uses 45 = .ok (.getfield 22, 3) := by decide +kernel
theorem dX5_uses_48 : decode cX5_uses 48 = .ok (.iload_n 3, 1) := by decide +kernel
theorem dX5_uses_49 : decode cX5_uses 49 = .ok (.iload 4, 2) := by decide +kernel
theorem dX5_uses_51 : decode cX5_uses 51 = .ok (.invokevirtual 191, 3) := by decide +kernel
theorem dX5_uses_54 : decode cX5_uses 54 = .ok (.iload_n 1, 1) := by decide +kernel
theorem dX5_uses_55 : decode cX5_uses 55 = .ok (.if_icmp .ne 7, 3) := by decide +kernel
theorem dX5_uses_58 : decode cX5_uses 58 = .ok (.iconst 1, 1) := by decide +kernel
theorem dX5_uses_59 : decode cX5_uses 59 = .ok (.goto 4, 3) := by decide +kernel
theorem dX5_uses_62 : decode cX5_uses 62 = .ok (.iconst 0, 1) := by decide +kernel
theorem dX5_uses_63 : decode cX5_uses 63 = .ok (.iadd, 1) := by decide +kernel
theorem dX5_uses_64 : decode cX5_uses 64 = .ok (.istore_n 2, 1) := by decide +kernel
theorem dX5_uses_65 : decode cX5_uses 65 = .ok (.iinc 4 1, 3) := by decide +kernel
theorem dX5_uses_68 : decode cX5_uses 68 = .ok (.goto (-41), 3) := by decide +kernel
theorem dX5_uses_71 : decode cX5_uses 71 = .ok (.iinc 3 1, 3) := by decide +kernel
theorem dX5_uses_74 : decode cX5_uses 74 = .ok (.goto (-61), 3) := by decide +kernel
theorem dX5_uses_77 : decode cX5_uses 77 = .ok (.iload_n 2, 1) := by decide +kernel
theorem dX5_uses_78 : decode cX5_uses 78 = .ok (.ireturn, 1) := by decide +kernel
theorem dX5_sure_0 : decode cX5_sure 0 = .ok (.aload_n 0, 1) := by decide +kernel
theorem dX5_sure_1 : decode cX5_sure 1 = .ok (.invokevirtual 188, 3) := by decide +kernel
theorem dX5_sure_4 : decode cX5_sure 4 = .ok (.iconst 0, 1) := by decide +kernel
theorem dX5_sure_5 : decode cX5_sure 5 = .ok (.istore_n 1, 1) := by decide +kernel
theorem dX5_sure_6 : decode cX5_sure 6 = .ok (.iconst 0, 1) := by decide +kernel
theorem dX5_sure_7 : decode cX5_sure 7 = .ok (.istore_n 2, 1) := by decide +kernel
theorem dX5_sure_8 : decode cX5_sure 8 = .ok (.iload_n 2, 1) := by decide +kernel
theorem dX5_sure_9 : decode cX5_sure 9 = .ok (.aload_n 0, 1) := by decide +kernel
theorem dX5_sure_10 : decode cX5_sure 10 = .ok (.getfield 10, 3) := by decide +kernel
theorem dX5_sure_13 : decode cX5_sure 13 = .ok (.getfield 95, 3) := by decide +kernel
theorem dX5_sure_16 : decode cX5_sure 16 = .ok (.if_icmp .ge 56, 3) := by decide +kernel
theorem dX5_sure_19 : decode cX5_sure 19 = .ok (.iconst 0, 1) := by decide +kernel
theorem dX5_sure_20 : decode cX5_sure 20 = .ok (.istore_n 3, 1) := by decide +kernel
theorem dX5_sure_21 : decode cX5_sure 21 = .ok (.iload_n 3, 1) := by decide +kernel
theorem dX5_sure_22 : decode cX5_sure 22 = .ok (.aload_n 0, 1) := by decide +kernel
theorem dX5_sure_23 : decode cX5_sure 23 = .ok (.getfield 10, 3) := by decide +kernel
theorem dX5_sure_26 : decode cX5_sure 26 = .ok (.getfield 127, 3) := by decide +kernel
theorem dX5_sure_29 : decode cX5_sure 29 = .ok (.iload_n 2, 1) := by decide +kernel
theorem dX5_sure_30 : decode cX5_sure 30 = .ok (.invokevirtual 130, 3) := by decide +kernel
theorem dX5_sure_33 : decode cX5_sure 33 = .ok (.if_icmp .ge 33, 3) := by decide +kernel
theorem dX5_sure_36 : decode cX5_sure 36 = .ok (.iload_n 1, 1) := by decide +kernel
theorem dX5_sure_37 : decode cX5_sure 37 = .ok (.aload_n 0, 1) := by decide +kernel
theorem dX5_sure_38 : decode cX5_sure 38 = .ok (.getfield 22, 3) := by decide +kernel
theorem dX5_sure_41 : decode cX5_sure 41 = .ok (.iload_n 2, 1) := by decide +kernel
theorem dX5_sure_42 : decode cX5_sure 42 = .ok (.iload_n 3, 1) := by decide +kernel
theorem dX5_sure_43 : decode cX5_sure 43 = .ok (.invokevirtual 215, 3) := by decide +kernel
theorem dX5_sure_46 : decode cX5_sure 46 = .ok (.invokestatic 218, 3) := by decide +kernel
theorem dX5_sure_49 : decode cX5_sure 49 = .ok (.iconst 1, 1) := by decide +kernel
theorem dX5_sure_50 : decode cX5_sure 50 = .ok (.if_icmp .ne 7, 3) := by decide +kernel
theorem dX5_sure_53 : decode cX5_sure 53 = .ok (.iconst 1, 1) := by decide +kernel
theorem dX5_sure_54 : decode cX5_sure 54 = .ok (.goto 4, 3) := by decide +kernel
theorem dX5_sure_57 : decode cX5_sure 57 = .ok (.iconst 0, 1) := by decide +kernel
theorem dX5_sure_58 : decode cX5_sure 58 = .ok (.iadd, 1) := by decide +kernel
theorem dX5_sure_59 : decode cX5_sure 59 = .ok (.istore_n 1, 1) := by decide +kernel
theorem dX5_sure_60 : decode cX5_sure 60 = .ok (.iinc 3 1, 3) := by decide +kernel
theorem dX5_sure_63 : decode cX5_sure 63 = .ok (.goto (-42), 3) := by decide +kernel
theorem dX5_sure_66 : decode cX5_sure 66 = .ok (.iinc 2 1, 3) := by decide +kernel
theorem dX5_sure_69 : decode cX5_sure 69 = .ok (.goto (-61), 3) := by decide +kernel
theorem dX5_sure_72 : decode cX5_sure 72 = .ok (.iload_n 1, 1) := by decide +kernel
theorem dX5_sure_73 : decode cX5_sure 73 = .ok (.ireturn, 1) := by decide +kernel
theorem dX5_mean_0 : decode cX5_mean 0 = .ok (.aload_n 0, 1) := by decide +kernel
theorem dX5_mean_1 : decode cX5_mean 1 = .ok (.invokevirtual 188, 3) := by decide +kernel
theorem dX5_mean_4 : decode cX5_mean 4 = .ok (.aload_n 0, 1) := by decide +kernel
theorem dX5_mean_5 : decode cX5_mean 5 = .ok (.getfield 10, 3) := by decide +kernel
theorem dX5_mean_8 : decode cX5_mean 8 = .ok (.invokevirtual 101, 3) := by decide +kernel
theorem dX5_mean_11 : decode cX5_mean 11 = .ok (.istore_n 1, 1) := by decide +kernel
theorem dX5_mean_12 : decode cX5_mean 12 = .ok (.iload_n 1, 1) := by decide +kernel
theorem dX5_mean_13 : decode cX5_mean 13 = .ok (.ifCond .ne 7, 3) := by decide +kernel
theorem dX5_mean_16 : decode cX5_mean 16 = .ok (.dconst 0, 1) := by decide +kernel
theorem dX5_mean_17 : decode cX5_mean 17 = .ok (.goto 14, 3) := by decide +kernel
theorem dX5_mean_20 : decode cX5_mean 20 = .ok (.aload_n 0, 1) := by decide +kernel
theorem dX5_mean_21 : decode cX5_mean 21 = .ok (.getfield 22, 3) := by decide +kernel
theorem dX5_mean_24 : decode cX5_mean 24 = .ok (.getfield 185, 3) := by decide +kernel
theorem dX5_mean_27 : decode cX5_mean 27 = .ok (.i2d, 1) := by decide +kernel
theorem dX5_mean_28 : decode cX5_mean 28 = .ok (.iload_n 1, 1) := by decide +kernel
theorem dX5_mean_29 : decode cX5_mean 29 = .ok (.i2d, 1) := by decide +kernel
theorem dX5_mean_30 : decode cX5_mean 30 = .ok (.ddiv, 1) := by decide +kernel
theorem dX5_mean_31 : decode cX5_mean 31 = .ok (.dreturn, 1) := by decide +kernel
theorem dX5_costOfTold_0 : decode cX5_costOfTold 0 = .ok (.aload_n 0, 1) := by decide +kernel
theorem dX5_costOfTold_1 : decode cX5_costOfTold 1 = .ok (.getfield 32, 3) := by decide +kernel
theorem dX5_costOfTold_4 : decode cX5_costOfTold 4 = .ok (.aload_n 0, 1) := by decide +kernel
theorem dX5_costOfTold_5 : decode cX5_costOfTold 5 = .ok (.getfield 10, 3) := by decide +kernel
theorem dX5_costOfTold_8 : decode cX5_costOfTold 8 = .ok (.aload_n 0, 1) := by decide +kernel
theorem dX5_costOfTold_9 : decode cX5_costOfTold 9 = .ok (.getfield 41, 3) := by decide +kernel
theorem dX5_costOfTold_12 : decode cX5_costOfTold 12 = .ok (.invokevirtual 223, 3) := by decide +kernel
theorem dX5_costOfTold_15 : decode cX5_costOfTold 15 = .ok (.istore_n 1, 1) := by decide +kernel
theorem dX5_costOfTold_16 : decode cX5_costOfTold 16 = .ok (.aload_n 0, 1) := by decide +kernel
theorem dX5_costOfTold_17 : decode cX5_costOfTold 17 = .ok (.getfield 32, 3) := by decide +kernel
theorem dX5_costOfTold_20 : decode cX5_costOfTold 20 = .ok (.iconst 0, 1) := by decide +kernel
theorem dX5_costOfTold_21 : decode cX5_costOfTold 21 = .ok (.putfield 72, 3) := by decide +kernel
theorem dX5_costOfTold_24 : decode cX5_costOfTold 24 = .ok (.iload_n 1, 1) := by decide +kernel
theorem dX5_costOfTold_25 : decode cX5_costOfTold 25 = .ok (.ifCond .ne 11, 3) := by decide +kernel
theorem dX5_costOfTold_28 : decode cX5_costOfTold 28 = .ok (.aload_n 0, 1) := by decide +kernel
theorem dX5_costOfTold_29 : decode cX5_costOfTold 29 = .ok (.getfield 32, 3) := by decide +kernel
theorem dX5_costOfTold_32 : decode cX5_costOfTold 32 = .ok (.getfield 85, 3) := by decide +kernel
theorem dX5_costOfTold_35 : decode cX5_costOfTold 35 = .ok (.ireturn, 1) := by decide +kernel
theorem dX5_costOfTold_36 : decode cX5_costOfTold 36 = .ok (.iconst 0, 1) := by decide +kernel
theorem dX5_costOfTold_37 : decode cX5_costOfTold 37 = .ok (.istore_n 2, 1) := by decide +kernel
theorem dX5_costOfTold_38 : decode cX5_costOfTold 38 = .ok (.iconst 0, 1) := by decide +kernel
theorem dX5_costOfTold_39 : decode cX5_costOfTold 39 = .ok (.istore_n 3, 1) := by decide +kernel
theorem dX5_costOfTold_40 : decode cX5_costOfTold 40 = .ok (.iload_n 3, 1) := by decide +kernel
theorem dX5_costOfTold_41 : decode cX5_costOfTold 41 = .ok (.aload_n 0, 1) := by decide +kernel
theorem dX5_costOfTold_42 : decode cX5_costOfTold 42 = .ok (.getfield 10, 3) := by decide +kernel
theorem dX5_costOfTold_45 : decode cX5_costOfTold 45 = .ok (.getfield 95, 3) := by decide +kernel
theorem dX5_costOfTold_48 : decode cX5_costOfTold 48 = .ok (.if_icmp .ge 38, 3) := by decide +kernel
theorem dX5_costOfTold_51 : decode cX5_costOfTold 51 = .ok (.aload_n 0, 1) := by decide +kernel
theorem dX5_costOfTold_52 : decode cX5_costOfTold 52 = .ok (.iload_n 3, 1) := by decide +kernel
theorem dX5_costOfTold_53 : decode cX5_costOfTold 53 = .ok (.invokevirtual 227, 3) := by decide +kernel
theorem dX5_costOfTold_56 : decode cX5_costOfTold 56 = .ok (.aload_n 0, 1) := by decide +kernel
theorem dX5_costOfTold_57 : decode cX5_costOfTold 57 = .ok (.iload_n 3, 1) := by decide +kernel
theorem dX5_costOfTold_58 : decode cX5_costOfTold 58 = .ok (.invokevirtual 230, 3) := by decide +kernel
theorem dX5_costOfTold_61 : decode cX5_costOfTold 61 = .ok (.invokestatic 233, 3) := by decide +kernel
theorem dX5_costOfTold_64 : decode cX5_costOfTold 64 = .ok (.istore 4, 2) := by decide +kernel
theorem dX5_costOfTold_66 : decode cX5_costOfTold 66 = .ok (.iload 4, 2) := by decide +kernel
theorem dX5_costOfTold_68 : decode cX5_costOfTold 68 = .ok (.iconst (-1), 1) := by decide +kernel
theorem dX5_costOfTold_69 : decode cX5_costOfTold 69 = .ok (.if_icmp .ne 6, 3) := by decide +kernel
theorem dX5_costOfTold_72 : decode cX5_costOfTold 72 = .ok (.bipush (-10), 2) := by decide +kernel
theorem dX5_costOfTold_74 : decode cX5_costOfTold 74 = .ok (.ireturn, 1) := by decide +kernel
theorem dX5_costOfTold_75 : decode cX5_costOfTold 75 = .ok (.iload_n 2, 1) := by decide +kernel
theorem dX5_costOfTold_76 : decode cX5_costOfTold 76 = .ok (.iload 4, 2) := by decide +kernel
theorem dX5_costOfTold_78 : decode cX5_costOfTold 78 = .ok (.iadd, 1) := by decide +kernel
theorem dX5_costOfTold_79 : decode cX5_costOfTold 79 = .ok (.istore_n 2, 1) := by decide +kernel
theorem dX5_costOfTold_80 : decode cX5_costOfTold 80 = .ok (.iinc 3 1, 3) := by decide +kernel
theorem dX5_costOfTold_83 : decode cX5_costOfTold 83 = .ok (.goto (-43), 3) := by decide +kernel
theorem dX5_costOfTold_86 : decode cX5_costOfTold 86 = .ok (.iload_n 2, 1) := by decide +kernel
theorem dX5_costOfTold_87 : decode cX5_costOfTold 87 = .ok (.ireturn, 1) := by decide +kernel
theorem dX5_faultOfTold_0 : decode cX5_faultOfTold 0 = .ok (.aload_n 0, 1) := by decide +kernel
theorem dX5_faultOfTold_1 : decode cX5_faultOfTold 1 = .ok (.getfield 32, 3) := by decide +kernel
theorem dX5_faultOfTold_4 : decode cX5_faultOfTold 4 = .ok (.aload_n 0, 1) := by decide +kernel
theorem dX5_faultOfTold_5 : decode cX5_faultOfTold 5 = .ok (.getfield 10, 3) := by decide +kernel
theorem dX5_faultOfTold_8 : decode cX5_faultOfTold 8 = .ok (.aload_n 0, 1) := by decide +kernel
theorem dX5_faultOfTold_9 : decode cX5_faultOfTold 9 = .ok (.getfield 41, 3) := by decide +kernel
theorem dX5_faultOfTold_12 : decode cX5_faultOfTold 12 = .ok (.invokevirtual 223, 3) := by decide +kernel
theorem dX5_faultOfTold_15 : decode cX5_faultOfTold 15 = .ok (.istore_n 1, 1) := by decide +kernel
theorem dX5_faultOfTold_16 : decode cX5_faultOfTold 16 = .ok (.aload_n 0, 1) := by decide +kernel
theorem dX5_faultOfTold_17 : decode cX5_faultOfTold 17 = .ok (.getfield 32, 3) := by decide +kernel
theorem dX5_faultOfTold_20 : decode cX5_faultOfTold 20 = .ok (.iconst 0, 1) := by decide +kernel
theorem dX5_faultOfTold_21 : decode cX5_faultOfTold 21 = .ok (.putfield 72, 3) := by decide +kernel
theorem dX5_faultOfTold_24 : decode cX5_faultOfTold 24 = .ok (.iload_n 1, 1) := by decide +kernel
theorem dX5_faultOfTold_25 : decode cX5_faultOfTold 25 = .ok (.ifCond .ne 11, 3) := by decide +kernel
theorem dX5_faultOfTold_28 : decode cX5_faultOfTold 28 = .ok (.aload_n 0, 1) := by decide +kernel
theorem dX5_faultOfTold_29 : decode cX5_faultOfTold 29 = .ok (.getfield 32, 3) := by decide +kernel
theorem dX5_faultOfTold_32 : decode cX5_faultOfTold 32 = .ok (.getfield 85, 3) := by decide +kernel
theorem dX5_faultOfTold_35 : decode cX5_faultOfTold 35 = .ok (.ireturn, 1) := by decide +kernel
theorem dX5_faultOfTold_36 : decode cX5_faultOfTold 36 = .ok (.iconst 0, 1) := by decide +kernel
theorem dX5_faultOfTold_37 : decode cX5_faultOfTold 37 = .ok (.istore_n 2, 1) := by decide +kernel
theorem dX5_faultOfTold_38 : decode cX5_faultOfTold 38 = .ok (.iload_n 2, 1) := by decide +kernel
theorem dX5_faultOfTold_39 : decode cX5_faultOfTold 39 = .ok (.aload_n 0, 1) := by decide +kernel
theorem dX5_faultOfTold_40 : decode cX5_faultOfTold 40 = .ok (.getfield 10, 3) := by decide +kernel
theorem dX5_faultOfTold_43 : decode cX5_faultOfTold 43 = .ok (.getfield 95, 3) := by decide +kernel
theorem dX5_faultOfTold_46 : decode cX5_faultOfTold 46 = .ok (.if_icmp .ge 41, 3) := by decide +kernel
theorem dX5_faultOfTold_49 : decode cX5_faultOfTold 49 = .ok (.aload_n 0, 1) := by decide +kernel
theorem dX5_faultOfTold_50 : decode cX5_faultOfTold 50 = .ok (.iload_n 2, 1) := by decide +kernel
theorem dX5_faultOfTold_51 : decode cX5_faultOfTold 51 = .ok (.invokevirtual 227, 3) := by decide +kernel
theorem dX5_faultOfTold_54 : decode cX5_faultOfTold 54 = .ok (.iconst (-1), 1) := by decide +kernel
theorem dX5_faultOfTold_55 : decode cX5_faultOfTold 55 = .ok (.if_icmp .ne 10, 3) := by decide +kernel
theorem dX5_faultOfTold_58 : decode cX5_faultOfTold 58 = .ok (.bipush 10, 2) := by decide +kernel
theorem dX5_faultOfTold_60 : decode cX5_faultOfTold 60 = .ok (.iload_n 2, 1) := by decide +kernel
theorem dX5_faultOfTold_61 : decode cX5_faultOfTold 61 = .ok (.imul, 1) := by decide +kernel
theorem dX5_faultOfTold_62 : decode cX5_faultOfTold 62 = .ok (.iconst 1, 1) := by decide +kernel
theorem dX5_faultOfTold_63 : decode cX5_faultOfTold 63 = .ok (.iadd, 1) := by decide +kernel
theorem dX5_faultOfTold_64 : decode cX5_faultOfTold 64 = .ok (.ireturn, 1) := by decide +kernel
theorem dX5_faultOfTold_65 : decode cX5_faultOfTold 65 = .ok (.aload_n 0, 1) := by decide +kernel
theorem dX5_faultOfTold_66 : decode cX5_faultOfTold 66 = .ok (.iload_n 2, 1) := by decide +kernel
theorem dX5_faultOfTold_67 : decode cX5_faultOfTold 67 = .ok (.invokevirtual 230, 3) := by decide +kernel
theorem dX5_faultOfTold_70 : decode cX5_faultOfTold 70 = .ok (.iconst (-1), 1) := by decide +kernel
theorem dX5_faultOfTold_71 : decode cX5_faultOfTold 71 = .ok (.if_icmp .ne 10, 3) := by decide +kernel
theorem dX5_faultOfTold_74 : decode cX5_faultOfTold 74 = .ok (.bipush 10, 2) := by decide +kernel
theorem dX5_faultOfTold_76 : decode cX5_faultOfTold 76 = .ok (.iload_n 2, 1) := by decide +kernel
theorem dX5_faultOfTold_77 : decode cX5_faultOfTold 77 = .ok (.imul, 1) := by decide +kernel
theorem dX5_faultOfTold_78 : decode cX5_faultOfTold 78 = .ok (.iconst 2, 1) := by decide +kernel
theorem dX5_faultOfTold_79 : decode cX5_faultOfTold 79 = .ok (.iadd, 1) := by decide +kernel
theorem dX5_faultOfTold_80 : decode cX5_faultOfTold 80 = .ok (.ireturn, 1) := by decide +kernel
theorem dX5_faultOfTold_81 : decode cX5_faultOfTold 81 = .ok (.iinc 2 1, 3) := by decide +kernel
theorem dX5_faultOfTold_84 : decode cX5_faultOfTold 84 = .ok (.goto (-46), 3) := by decide +kernel
theorem dX5_faultOfTold_87 : decode cX5_faultOfTold 87 = .ok (.bipush (-10), 2) := by decide +kernel
theorem dX5_faultOfTold_89 : decode cX5_faultOfTold 89 = .ok (.ireturn, 1) := by decide +kernel
theorem dX5_otherHand_0 : decode cX5_otherHand 0 = .ok (.aload_n 0, 1) := by decide +kernel
theorem dX5_otherHand_1 : decode cX5_otherHand 1 = .ok (.getfield 16, 3) := by decide +kernel
theorem dX5_otherHand_4 : decode cX5_otherHand 4 = .ok (.aload_n 0, 1) := by decide +kernel
theorem dX5_otherHand_5 : decode cX5_otherHand 5 = .ok (.getfield 10, 3) := by decide +kernel
theorem dX5_otherHand_8 : decode cX5_otherHand 8 = .ok (.invokevirtual 91, 3) := by decide +kernel
theorem dX5_otherHand_11 : decode cX5_otherHand 11 = .ok (.aload_n 0, 1) := by decide +kernel
theorem dX5_otherHand_12 : decode cX5_otherHand 12 = .ok (.getfield 16, 3) := by decide +kernel
theorem dX5_otherHand_15 : decode cX5_otherHand 15 = .ok (.aload_n 0, 1) := by decide +kernel
theorem dX5_otherHand_16 : decode cX5_otherHand 16 = .ok (.getfield 10, 3) := by decide +kernel
theorem dX5_otherHand_19 : decode cX5_otherHand 19 = .ok (.getfield 105, 3) := by decide +kernel
theorem dX5_otherHand_22 : decode cX5_otherHand 22 = .ok (.ifCond .ne 7, 3) := by decide +kernel
theorem dX5_otherHand_25 : decode cX5_otherHand 25 = .ok (.iconst 1, 1) := by decide +kernel
theorem dX5_otherHand_26 : decode cX5_otherHand 26 = .ok (.goto 4, 3) := by decide +kernel
theorem dX5_otherHand_29 : decode cX5_otherHand 29 = .ok (.iconst 0, 1) := by decide +kernel
theorem dX5_otherHand_30 : decode cX5_otherHand 30 = .ok (.putfield 105, 3) := by decide +kernel
theorem dX5_otherHand_33 : decode cX5_otherHand 33 = .ok (.aload_n 0, 1) := by decide +kernel
theorem dX5_otherHand_34 : decode cX5_otherHand 34 = .ok (.getfield 26, 3) := by decide +kernel
theorem dX5_otherHand_37 : decode cX5_otherHand 37 = .ok (.invokevirtual 236, 3) := by decide +kernel
theorem dX5_otherHand_40 : decode cX5_otherHand 40 = .ok (.aload_n 0, 1) := by decide +kernel
theorem dX5_otherHand_41 : decode cX5_otherHand 41 = .ok (.getfield 26, 3) := by decide +kernel
theorem dX5_otherHand_44 : decode cX5_otherHand 44 = .ok (.aload_n 0, 1) := by decide +kernel
theorem dX5_otherHand_45 : decode cX5_otherHand 45 = .ok (.getfield 16, 3) := by decide +kernel
theorem dX5_otherHand_48 : decode cX5_otherHand 48 = .ok (.invokevirtual 136, 3) := by decide +kernel
theorem dX5_otherHand_51 : decode cX5_otherHand 51 = .ok (.aload_n 0, 1) := by decide +kernel
theorem dX5_otherHand_52 : decode cX5_otherHand 52 = .ok (.getfield 26, 3) := by decide +kernel
theorem dX5_otherHand_55 : decode cX5_otherHand 55 = .ok (.getfield 185, 3) := by decide +kernel
theorem dX5_otherHand_58 : decode cX5_otherHand 58 = .ok (.ireturn, 1) := by decide +kernel
theorem dX5_transposed_0 : decode cX5_transposed 0 = .ok (.aload_n 0, 1) := by decide +kernel
theorem dX5_transposed_1 : decode cX5_transposed 1 = .ok (.iload_n 1, 1) := by decide +kernel
theorem dX5_transposed_2 : decode cX5_transposed 2 = .ok (.invokevirtual 239, 3) := by decide +kernel
theorem dX5_transposed_5 : decode cX5_transposed 5 = .ok (.aload_n 0, 1) := by decide +kernel
theorem dX5_transposed_6 : decode cX5_transposed 6 = .ok (.getfield 22, 3) := by decide +kernel
theorem dX5_transposed_9 : decode cX5_transposed 9 = .ok (.aload_n 0, 1) := by decide +kernel
theorem dX5_transposed_10 : decode cX5_transposed 10 = .ok (.getfield 10, 3) := by decide +kernel
theorem dX5_transposed_13 : decode cX5_transposed 13 = .ok (.invokevirtual 136, 3) := by decide +kernel
theorem dX5_transposed_16 : decode cX5_transposed 16 = .ok (.aload_n 0, 1) := by decide +kernel
theorem dX5_transposed_17 : decode cX5_transposed 17 = .ok (.getfield 22, 3) := by decide +kernel
theorem dX5_transposed_20 : decode cX5_transposed 20 = .ok (.aload_n 0, 1) := by decide +kernel
theorem dX5_transposed_21 : decode cX5_transposed 21 = .ok (.getfield 10, 3) := by decide +kernel
theorem dX5_transposed_24 : decode cX5_transposed 24 = .ok (.iload_n 1, 1) := by decide +kernel
theorem dX5_transposed_25 : decode cX5_transposed 25 = .ok (.invokevirtual 242, 3) := by decide +kernel
theorem dX5_transposed_28 : decode cX5_transposed 28 = .ok (.ireturn, 1) := by decide +kernel
theorem dX5_easiest_0 : decode cX5_easiest 0 = .ok (.iload_n 1, 1) := by decide +kernel
theorem dX5_easiest_1 : decode cX5_easiest 1 = .ok (.iconst 0, 1) := by decide +kernel
theorem dX5_easiest_2 : decode cX5_easiest 2 = .ok (.bipush 24, 2) := by decide +kernel
theorem dX5_easiest_4 : decode cX5_easiest 4 = .ok (.invokestatic 177, 3) := by decide +kernel
theorem dX5_easiest_7 : decode cX5_easiest 7 = .ok (.ifCond .ne 11, 3) := by decide +kernel
theorem dX5_easiest_10 : decode cX5_easiest 10 = .ok (.new 121, 3) := by decide +kernel
theorem dX5_easiest_13 : decode cX5_easiest 13 = .ok (.dup, 1) := by decide +kernel
theorem dX5_easiest_14 : decode cX5_easiest 14 = .ok (.invokespecial 123, 3) := by decide +kernel
theorem dX5_easiest_17 : decode cX5_easiest 17 = .ok (.athrow, 1) := by decide +kernel
theorem dX5_easiest_18 : decode cX5_easiest 18 = .ok (.aload_n 0, 1) := by decide +kernel
theorem dX5_easiest_19 : decode cX5_easiest 19 = .ok (.invokevirtual 188, 3) := by decide +kernel
theorem dX5_easiest_22 : decode cX5_easiest 22 = .ok (.iconst 0, 1) := by decide +kernel
theorem dX5_easiest_23 : decode cX5_easiest 23 = .ok (.istore_n 2, 1) := by decide +kernel
theorem dX5_easiest_24 : decode cX5_easiest 24 = .ok (.aload_n 0, 1) := by decide +kernel
theorem dX5_easiest_25 : decode cX5_easiest 25 = .ok (.getfield 22, 3) := by decide +kernel
theorem dX5_easiest_28 : decode cX5_easiest 28 = .ok (.getfield 185, 3) := by decide +kernel
theorem dX5_easiest_31 : decode cX5_easiest 31 = .ok (.istore_n 3, 1) := by decide +kernel
theorem dX5_easiest_32 : decode cX5_easiest 32 = .ok (.iconst 1, 1) := by decide +kernel
theorem dX5_easiest_33 : decode cX5_easiest 33 = .ok (.istore 4, 2) := by decide +kernel
theorem dX5_easiest_35 : decode cX5_easiest 35 = .ok (.iload 4, 2) := by decide +kernel
theorem dX5_easiest_37 : decode cX5_easiest 37 = .ok (.iload_n 1, 1) := by decide +kernel
theorem dX5_easiest_38 : decode cX5_easiest 38 = .ok (.if_icmp .gt 79, 3) := by decide +kernel
theorem dX5_easiest_41 : decode cX5_easiest 41 = .ok (.iload 4, 2) := by decide +kernel
theorem dX5_easiest_43 : decode cX5_easiest 43 = .ok (.ineg, 1) := by decide +kernel
theorem dX5_easiest_44 : decode cX5_easiest 44 = .ok (.istore 5, 2) := by decide +kernel
theorem dX5_easiest_46 : decode cX5_easiest 46 = .ok (.iload 5, 2) := by decide +kernel
theorem dX5_easiest_48 : decode cX5_easiest 48 = .ok (.iload 4, 2) := by decide +kernel
theorem dX5_easiest_50 : decode cX5_easiest 50 = .ok (.if_icmp .gt 61, 3) := by decide +kernel
theorem dX5_easiest_53 : decode cX5_easiest 53 = .ok (.aload_n 0, 1) := by decide +kernel
theorem dX5_easiest_54 : decode cX5_easiest 54 = .ok (.getfield 10, 3) := by decide +kernel
theorem dX5_easiest_57 : decode cX5_easiest 57 = .ok (.iload 5, 2) := by decide +kernel
theorem dX5_easiest_59 : decode cX5_easiest 59 = .ok (.invokevirtual 245, 3) := by decide +kernel
theorem dX5_easiest_62 : decode cX5_easiest 62 = .ok (.ifCond .eq 37, 3) := by decide +kernel
theorem dX5_easiest_65 : decode cX5_easiest 65 = .ok (.aload_n 0, 1) := by decide +kernel
theorem dX5_easiest_66 : decode cX5_easiest 66 = .ok (.getfield 22, 3) := by decide +kernel
theorem dX5_easiest_69 : decode cX5_easiest 69 = .ok (.aload_n 0, 1) := by decide +kernel
theorem dX5_easiest_70 : decode cX5_easiest 70 = .ok (.getfield 10, 3) := by decide +kernel
theorem dX5_easiest_73 : decode cX5_easiest 73 = .ok (.iload 5, 2) := by decide +kernel
theorem dX5_easiest_75 : decode cX5_easiest 75 = .ok (.invokevirtual 242, 3) := by decide +kernel
theorem dX5_easiest_78 : decode cX5_easiest 78 = .ok (.iload_n 3, 1) := by decide +kernel
theorem dX5_easiest_79 : decode cX5_easiest 79 = .ok (.if_icmp .ge 20, 3) := by decide +kernel
theorem dX5_easiest_82 : decode cX5_easiest 82 = .ok (.iload 5, 2) := by decide +kernel
theorem dX5_easiest_84 : decode cX5_easiest 84 = .ok (.istore_n 2, 1) := by decide +kernel
theorem dX5_easiest_85 : decode cX5_easiest 85 = .ok (.aload_n 0, 1) := by decide +kernel
theorem dX5_easiest_86 : decode cX5_easiest 86 = .ok (.getfield 22, 3) := by decide +kernel
theorem dX5_easiest_89 : decode cX5_easiest 89 = .ok (.aload_n 0, 1) := by decide +kernel
theorem dX5_easiest_90 : decode cX5_easiest 90 = .ok (.getfield 10, 3) := by decide +kernel
theorem dX5_easiest_93 : decode cX5_easiest 93 = .ok (.iload 5, 2) := by decide +kernel
theorem dX5_easiest_95 : decode cX5_easiest 95 = .ok (.invokevirtual 242, 3) := by decide +kernel
theorem dX5_easiest_98 : decode cX5_easiest 98 = .ok (.istore_n 3, 1) := by decide +kernel
theorem dX5_easiest_99 : decode cX5_easiest 99 = .ok (.iload 5, 2) := by decide +kernel
theorem dX5_easiest_101 : decode cX5_easiest 101 = .ok (.iconst 2, 1) := by decide +kernel
theorem dX5_easiest_102 : decode cX5_easiest 102 = .ok (.iload 4, 2) := by decide +kernel
theorem dX5_easiest_104 : decode cX5_easiest 104 = .ok (.imul, 1) := by decide +kernel
theorem dX5_easiest_105 : decode cX5_easiest 105 = .ok (.iadd, 1) := by decide +kernel
theorem dX5_easiest_106 : decode cX5_easiest 106 = .ok (.istore 5, 2) := by decide +kernel
theorem dX5_easiest_108 : decode cX5_easiest 108 = .ok (.goto (-62), 3) := by decide +kernel
theorem dX5_easiest_111 : decode cX5_easiest 111 = .ok (.iinc 4 1, 3) := by decide +kernel
theorem dX5_easiest_114 : decode cX5_easiest 114 = .ok (.goto (-79), 3) := by decide +kernel
theorem dX5_easiest_117 : decode cX5_easiest 117 = .ok (.iload_n 2, 1) := by decide +kernel
theorem dX5_easiest_118 : decode cX5_easiest 118 = .ok (.ireturn, 1) := by decide +kernel
theorem dX5_restBehind_0 : decode cX5_restBehind 0 = .ok (.aload_n 0, 1) := by decide +kernel
theorem dX5_restBehind_1 : decode cX5_restBehind 1 = .ok (.getfield 22, 3) := by decide +kernel
theorem dX5_restBehind_4 : decode cX5_restBehind 4 = .ok (.aload_n 0, 1) := by decide +kernel
theorem dX5_restBehind_5 : decode cX5_restBehind 5 = .ok (.getfield 10, 3) := by decide +kernel
theorem dX5_restBehind_8 : decode cX5_restBehind 8 = .ok (.invokevirtual 136, 3) := by decide +kernel
theorem dX5_restBehind_11 : decode cX5_restBehind 11 = .ok (.iconst (-1), 1) := by decide +kernel
theorem dX5_restBehind_12 : decode cX5_restBehind 12 = .ok (.istore_n 1, 1) := by decide +kernel
theorem dX5_restBehind_13 : decode cX5_restBehind 13 = .ok (.aload_n 0, 1) := by decide +kernel
theorem dX5_restBehind_14 : decode cX5_restBehind 14 = .ok (.getfield 22, 3) := by decide +kernel
theorem dX5_restBehind_17 : decode cX5_restBehind 17 = .ok (.getfield 185, 3) := by decide +kernel
theorem dX5_restBehind_20 : decode cX5_restBehind 20 = .ok (.istore_n 2, 1) := by decide +kernel
theorem dX5_restBehind_21 : decode cX5_restBehind 21 = .ok (.iconst 0, 1) := by decide +kernel
theorem dX5_restBehind_22 : decode cX5_restBehind 22 = .ok (.istore_n 3, 1) := by decide +kernel
theorem dX5_restBehind_23 : decode cX5_restBehind 23 = .ok (.iload_n 3, 1) := by decide +kernel
theorem dX5_restBehind_24 : decode cX5_restBehind 24 = .ok (.aload_n 0, 1) := by decide +kernel
theorem dX5_restBehind_25 : decode cX5_restBehind 25 = .ok (.getfield 10, 3) := by decide +kernel
theorem dX5_restBehind_28 : decode cX5_restBehind 28 = .ok (.getfield 95, 3) := by decide +kernel
theorem dX5_restBehind_31 : decode cX5_restBehind 31 = .ok (.iconst 1, 1) := by decide +kernel
theorem dX5_restBehind_32 : decode cX5_restBehind 32 = .ok (.isub, 1) := by decide +kernel
theorem dX5_restBehind_33 : decode cX5_restBehind 33 = .ok (.if_icmp .ge 45, 3) := by decide +kernel
theorem dX5_restBehind_36 : decode cX5_restBehind 36 = .ok (.aload_n 0, 1) := by decide +kernel
theorem dX5_restBehind_37 : decode cX5_restBehind 37 = .ok (.getfield 22, 3) := by decide +kernel
theorem dX5_restBehind_40 : decode cX5_restBehind 40 = .ok (.aload_n 0, 1) := by decide +kernel
theorem dX5_restBehind_41 : decode cX5_restBehind 41 = .ok (.getfield 10, 3) := by decide +kernel
theorem dX5_restBehind_44 : decode cX5_restBehind 44 = .ok (.iload_n 3, 1) := by decide +kernel
theorem dX5_restBehind_45 : decode cX5_restBehind 45 = .ok (.invokevirtual 249, 3) := by decide +kernel
theorem dX5_restBehind_48 : decode cX5_restBehind 48 = .ok (.istore 4, 2) := by decide +kernel
theorem dX5_restBehind_50 : decode cX5_restBehind 50 = .ok (.iload 4, 2) := by decide +kernel
theorem dX5_restBehind_52 : decode cX5_restBehind 52 = .ok (.iconst (-1), 1) := by decide +kernel
theorem dX5_restBehind_53 : decode cX5_restBehind 53 = .ok (.if_icmp .eq 19, 3) := by decide +kernel
theorem dX5_restBehind_56 : decode cX5_restBehind 56 = .ok (.iload_n 2, 1) := by decide +kernel
theorem dX5_restBehind_57 : decode cX5_restBehind 57 = .ok (.iconst (-1), 1) := by decide +kernel
theorem dX5_restBehind_58 : decode cX5_restBehind 58 = .ok (.if_icmp .eq 9, 3) := by decide +kernel
theorem dX5_restBehind_61 : decode cX5_restBehind 61 = .ok (.iload 4, 2) := by decide +kernel
theorem dX5_restBehind_63 : decode cX5_restBehind 63 = .ok (.iload_n 2, 1) := by decide +kernel
theorem dX5_restBehind_64 : decode cX5_restBehind 64 = .ok (.if_icmp .ge 8, 3) := by decide +kernel
theorem dX5_restBehind_67 : decode cX5_restBehind 67 = .ok (.iload_n 3, 1) := by decide +kernel
theorem dX5_restBehind_68 : decode cX5_restBehind 68 = .ok (.istore_n 1, 1) := by decide +kernel
theorem dX5_restBehind_69 : decode cX5_restBehind 69 = .ok (.iload 4, 2) := by decide +kernel
theorem dX5_restBehind_71 : decode cX5_restBehind 71 = .ok (.istore_n 2, 1) := by decide +kernel
theorem dX5_restBehind_72 : decode cX5_restBehind 72 = .ok (.iinc 3 1, 3) := by decide +kernel
theorem dX5_restBehind_75 : decode cX5_restBehind 75 = .ok (.goto (-52), 3) := by decide +kernel
theorem dX5_restBehind_78 : decode cX5_restBehind 78 = .ok (.iload_n 1, 1) := by decide +kernel
theorem dX5_restBehind_79 : decode cX5_restBehind 79 = .ok (.ireturn, 1) := by decide +kernel
theorem dX5_play_0 : decode cX5_play 0 = .ok (.iload_n 1, 1) := by decide +kernel
theorem dX5_play_1 : decode cX5_play 1 = .ok (.iconst 0, 1) := by decide +kernel
theorem dX5_play_2 : decode cX5_play 2 = .ok (.aload_n 0, 1) := by decide +kernel
theorem dX5_play_3 : decode cX5_play 3 = .ok (.getfield 10, 3) := by decide +kernel
theorem dX5_play_6 : decode cX5_play 6 = .ok (.getfield 95, 3) := by decide +kernel
theorem dX5_play_9 : decode cX5_play 9 = .ok (.invokestatic 177, 3) := by decide +kernel
theorem dX5_play_12 : decode cX5_play 12 = .ok (.ifCond .ne 11, 3) := by decide +kernel
theorem dX5_play_15 : decode cX5_play 15 = .ok (.new 252, 3) := by decide +kernel
theorem dX5_play_18 : decode cX5_play 18 = .ok (.dup, 1) := by decide +kernel
theorem dX5_play_19 : decode cX5_play 19 = .ok (.invokespecial 254, 3) := by decide +kernel
theorem dX5_play_22 : decode cX5_play 22 = .ok (.athrow, 1) := by decide +kernel
theorem dX5_play_23 : decode cX5_play 23 = .ok (.iload_n 2, 1) := by decide +kernel
theorem dX5_play_24 : decode cX5_play 24 = .ok (.iload_n 3, 1) := by decide +kernel
theorem dX5_play_25 : decode cX5_play 25 = .ok (.iload 4, 2) := by decide +kernel
theorem dX5_play_27 : decode cX5_play 27 = .ok (.invokestatic 255, 3) := by decide +kernel
theorem dX5_play_30 : decode cX5_play 30 = .ok (.ifCond .eq 14, 3) := by decide +kernel
theorem dX5_play_33 : decode cX5_play 33 = .ok (.iload 5, 2) := by decide +kernel
theorem dX5_play_35 : decode cX5_play 35 = .ok (.iconst 0, 1) := by decide +kernel
theorem dX5_play_36 : decode cX5_play 36 = .ok (.bipush 9, 2) := by decide +kernel
theorem dX5_play_38 : decode cX5_play 38 = .ok (.invokestatic 177, 3) := by decide +kernel
theorem dX5_play_41 : decode cX5_play 41 = .ok (.ifCond .ne 11, 3) := by decide +kernel
theorem dX5_play_44 : decode cX5_play 44 = .ok (.new 121, 3) := by decide +kernel
theorem dX5_play_47 : decode cX5_play 47 = .ok (.dup, 1) := by decide +kernel
theorem dX5_play_48 : decode cX5_play 48 = .ok (.invokespecial 123, 3) := by decide +kernel
theorem dX5_play_51 : decode cX5_play 51 = .ok (.athrow, 1) := by decide +kernel
theorem dX5_play_52 : decode cX5_play 52 = .ok (.aload_n 0, 1) := by decide +kernel
theorem dX5_play_53 : decode cX5_play 53 = .ok (.getfield 10, 3) := by decide +kernel
theorem dX5_play_56 : decode cX5_play 56 = .ok (.getfield 95, 3) := by decide +kernel
theorem dX5_play_59 : decode cX5_play 59 = .ok (.bipush 40, 2) := by decide +kernel
theorem dX5_play_61 : decode cX5_play 61 = .ok (.if_icmp .lt 6, 3) := by decide +kernel
theorem dX5_play_64 : decode cX5_play 64 = .ok (.bipush (-10), 2) := by decide +kernel
theorem dX5_play_66 : decode cX5_play 66 = .ok (.ireturn, 1) := by decide +kernel
theorem dX5_play_67 : decode cX5_play 67 = .ok (.aload_n 0, 1) := by decide +kernel
theorem dX5_play_68 : decode cX5_play 68 = .ok (.invokevirtual 88, 3) := by decide +kernel
theorem dX5_play_71 : decode cX5_play 71 = .ok (.aload_n 0, 1) := by decide +kernel
theorem dX5_play_72 : decode cX5_play 72 = .ok (.getfield 10, 3) := by decide +kernel
theorem dX5_play_75 : decode cX5_play 75 = .ok (.iload_n 1, 1) := by decide +kernel
theorem dX5_play_76 : decode cX5_play 76 = .ok (.invokevirtual 258, 3) := by decide +kernel
theorem dX5_play_79 : decode cX5_play 79 = .ok (.aload_n 0, 1) := by decide +kernel
theorem dX5_play_80 : decode cX5_play 80 = .ok (.getfield 10, 3) := by decide +kernel
theorem dX5_play_83 : decode cX5_play 83 = .ok (.iload_n 1, 1) := by decide +kernel
theorem dX5_play_84 : decode cX5_play 84 = .ok (.iconst 0, 1) := by decide +kernel
theorem dX5_play_85 : decode cX5_play 85 = .ok (.iload_n 2, 1) := by decide +kernel
theorem dX5_play_86 : decode cX5_play 86 = .ok (.invokevirtual 261, 3) := by decide +kernel
theorem dX5_play_89 : decode cX5_play 89 = .ok (.iload_n 3, 1) := by decide +kernel
theorem dX5_play_90 : decode cX5_play 90 = .ok (.ifCond .eq 13, 3) := by decide +kernel
theorem dX5_play_93 : decode cX5_play 93 = .ok (.aload_n 0, 1) := by decide +kernel
theorem dX5_play_94 : decode cX5_play 94 = .ok (.getfield 10, 3) := by decide +kernel
theorem dX5_play_97 : decode cX5_play 97 = .ok (.iload_n 1, 1) := by decide +kernel
theorem dX5_play_98 : decode cX5_play 98 = .ok (.iconst 1, 1) := by decide +kernel
theorem dX5_play_99 : decode cX5_play 99 = .ok (.iload_n 3, 1) := by decide +kernel
theorem dX5_play_100 : decode cX5_play 100 = .ok (.invokevirtual 261, 3) := by decide +kernel
theorem dX5_play_103 : decode cX5_play 103 = .ok (.iload 4, 2) := by decide +kernel
theorem dX5_play_105 : decode cX5_play 105 = .ok (.ifCond .eq 14, 3) := by decide +kernel
theorem dX5_play_108 : decode cX5_play 108 = .ok (.aload_n 0, 1) := by decide +kernel
theorem dX5_play_109 : decode cX5_play 109 = .ok (.getfield 10, 3) := by decide +kernel
theorem dX5_play_112 : decode cX5_play 112 = .ok (.iload_n 1, 1) := by decide +kernel
theorem dX5_play_113 : decode cX5_play 113 = .ok (.iconst 2, 1) := by decide +kernel
theorem dX5_play_114 : decode cX5_play 114 = .ok (.iload 4, 2) := by decide +kernel
theorem dX5_play_116 : decode cX5_play 116 = .ok (.invokevirtual 261, 3) := by decide +kernel
theorem dX5_play_119 : decode cX5_play 119 = .ok (.aload_n 0, 1) := by decide +kernel
theorem dX5_play_120 : decode cX5_play 120 = .ok (.getfield 10, 3) := by decide +kernel
theorem dX5_play_123 : decode cX5_play 123 = .ok (.getfield 133, 3) := by decide +kernel
theorem dX5_play_126 : decode cX5_play 126 = .ok (.iload_n 1, 1) := by decide +kernel
theorem dX5_play_127 : decode cX5_play 127 = .ok (.iload 5, 2) := by decide +kernel
theorem dX5_play_129 : decode cX5_play 129 = .ok (.invokevirtual 265, 3) := by decide +kernel
theorem dX5_play_132 : decode cX5_play 132 = .ok (.aload_n 0, 1) := by decide +kernel
theorem dX5_play_133 : decode cX5_play 133 = .ok (.getfield 10, 3) := by decide +kernel
theorem dX5_play_136 : decode cX5_play 136 = .ok (.getfield 95, 3) := by decide +kernel
theorem dX5_play_139 : decode cX5_play 139 = .ok (.ireturn, 1) := by decide +kernel
theorem dX5_drop_0 : decode cX5_drop 0 = .ok (.aload_n 0, 1) := by decide +kernel
theorem dX5_drop_1 : decode cX5_drop 1 = .ok (.iload_n 1, 1) := by decide +kernel
theorem dX5_drop_2 : decode cX5_drop 2 = .ok (.invokevirtual 124, 3) := by decide +kernel
theorem dX5_drop_5 : decode cX5_drop 5 = .ok (.aload_n 0, 1) := by decide +kernel
theorem dX5_drop_6 : decode cX5_drop 6 = .ok (.invokevirtual 88, 3) := by decide +kernel
theorem dX5_drop_9 : decode cX5_drop 9 = .ok (.aload_n 0, 1) := by decide +kernel
theorem dX5_drop_10 : decode cX5_drop 10 = .ok (.getfield 10, 3) := by decide +kernel
theorem dX5_drop_13 : decode cX5_drop 13 = .ok (.iload_n 1, 1) := by decide +kernel
theorem dX5_drop_14 : decode cX5_drop 14 = .ok (.invokevirtual 268, 3) := by decide +kernel
theorem dX5_drop_17 : decode cX5_drop 17 = .ok (.aload_n 0, 1) := by decide +kernel
theorem dX5_drop_18 : decode cX5_drop 18 = .ok (.getfield 10, 3) := by decide +kernel
theorem dX5_drop_21 : decode cX5_drop 21 = .ok (.getfield 95, 3) := by decide +kernel
theorem dX5_drop_24 : decode cX5_drop 24 = .ok (.ireturn, 1) := by decide +kernel
theorem dX5_setRest_0 : decode cX5_setRest 0 = .ok (.aload_n 0, 1) := by decide +kernel
theorem dX5_setRest_1 : decode cX5_setRest 1 = .ok (.iload_n 1, 1) := by decide +kernel
theorem dX5_setRest_2 : decode cX5_setRest 2 = .ok (.invokevirtual 124, 3) := by decide +kernel
theorem dX5_setRest_5 : decode cX5_setRest 5 = .ok (.iload_n 2, 1) := by decide +kernel
theorem dX5_setRest_6 : decode cX5_setRest 6 = .ok (.iconst 0, 1) := by decide +kernel
theorem dX5_setRest_7 : decode cX5_setRest 7 = .ok (.bipush 9, 2) := by decide +kernel
theorem dX5_setRest_9 : decode cX5_setRest 9 = .ok (.invokestatic 177, 3) := by decide +kernel
theorem dX5_setRest_12 : decode cX5_setRest 12 = .ok (.ifCond .ne 11, 3) := by decide +kernel
theorem dX5_setRest_15 : decode cX5_setRest 15 = .ok (.new 121, 3) := by decide +kernel
theorem dX5_setRest_18 : decode cX5_setRest 18 = .ok (.dup, 1) := by decide +kernel
theorem dX5_setRest_19 : decode cX5_setRest 19 = .ok (.invokespecial 123, 3) := by decide +kernel
theorem dX5_setRest_22 : decode cX5_setRest 22 = .ok (.athrow, 1) := by decide +kernel
theorem dX5_setRest_23 : decode cX5_setRest 23 = .ok (.aload_n 0, 1) := by decide +kernel
theorem dX5_setRest_24 : decode cX5_setRest 24 = .ok (.invokevirtual 88, 3) := by decide +kernel
theorem dX5_setRest_27 : decode cX5_setRest 27 = .ok (.aload_n 0, 1) := by decide +kernel
theorem dX5_setRest_28 : decode cX5_setRest 28 = .ok (.getfield 10, 3) := by decide +kernel
theorem dX5_setRest_31 : decode cX5_setRest 31 = .ok (.getfield 133, 3) := by decide +kernel
theorem dX5_setRest_34 : decode cX5_setRest 34 = .ok (.iload_n 1, 1) := by decide +kernel
theorem dX5_setRest_35 : decode cX5_setRest 35 = .ok (.invokevirtual 130, 3) := by decide +kernel
theorem dX5_setRest_38 : decode cX5_setRest 38 = .ok (.istore_n 3, 1) := by decide +kernel
theorem dX5_setRest_39 : decode cX5_setRest 39 = .ok (.aload_n 0, 1) := by decide +kernel
theorem dX5_setRest_40 : decode cX5_setRest 40 = .ok (.getfield 10, 3) := by decide +kernel
theorem dX5_setRest_43 : decode cX5_setRest 43 = .ok (.getfield 133, 3) := by decide +kernel
theorem dX5_setRest_46 : decode cX5_setRest 46 = .ok (.iload_n 1, 1) := by decide +kernel
theorem dX5_setRest_47 : decode cX5_setRest 47 = .ok (.iload_n 2, 1) := by decide +kernel
theorem dX5_setRest_48 : decode cX5_setRest 48 = .ok (.invokevirtual 265, 3) := by decide +kernel
theorem dX5_setRest_51 : decode cX5_setRest 51 = .ok (.iload_n 3, 1) := by decide +kernel
theorem dX5_setRest_52 : decode cX5_setRest 52 = .ok (.ireturn, 1) := by decide +kernel
theorem dX5_let_0 : decode cX5_let 0 = .ok (.aload_n 0, 1) := by decide +kernel
theorem dX5_let_1 : decode cX5_let 1 = .ok (.iload_n 1, 1) := by decide +kernel
theorem dX5_let_2 : decode cX5_let 2 = .ok (.iload_n 2, 1) := by decide +kernel
theorem dX5_let_3 : decode cX5_let 3 = .ok (.invokevirtual 142, 3) := by decide +kernel
theorem dX5_let_6 : decode cX5_let 6 = .ok (.aload_n 0, 1) := by decide +kernel
theorem dX5_let_7 : decode cX5_let 7 = .ok (.iload_n 3, 1) := by decide +kernel
theorem dX5_let_8 : decode cX5_let 8 = .ok (.invokevirtual 162, 3) := by decide +kernel
theorem dX5_let_11 : decode cX5_let 11 = .ok (.aload_n 0, 1) := by decide +kernel
theorem dX5_let_12 : decode cX5_let 12 = .ok (.invokevirtual 88, 3) := by decide +kernel
theorem dX5_let_15 : decode cX5_let 15 = .ok (.iload_n 1, 1) := by decide +kernel
theorem dX5_let_16 : decode cX5_let 16 = .ok (.iload_n 2, 1) := by decide +kernel
theorem dX5_let_17 : decode cX5_let 17 = .ok (.invokestatic 153, 3) := by decide +kernel
theorem dX5_let_20 : decode cX5_let 20 = .ok (.istore 5, 2) := by decide +kernel
theorem dX5_let_22 : decode cX5_let 22 = .ok (.aload_n 0, 1) := by decide +kernel
theorem dX5_let_23 : decode cX5_let 23 = .ok (.getfield 10, 3) := by decide +kernel
theorem dX5_let_26 : decode cX5_let 26 = .ok (.getfield 150, 3) := by decide +kernel
theorem dX5_let_29 : decode cX5_let 29 = .ok (.iload 5, 2) := by decide +kernel
theorem dX5_let_31 : decode cX5_let 31 = .ok (.invokevirtual 130, 3) := by decide +kernel
theorem dX5_let_34 : decode cX5_let 34 = .ok (.istore 6, 2) := by decide +kernel
theorem dX5_let_36 : decode cX5_let 36 = .ok (.aload_n 0, 1) := by decide +kernel
theorem dX5_let_37 : decode cX5_let 37 = .ok (.getfield 10, 3) := by decide +kernel
theorem dX5_let_40 : decode cX5_let 40 = .ok (.getfield 150, 3) := by decide +kernel
theorem dX5_let_43 : decode cX5_let 43 = .ok (.iload 5, 2) := by decide +kernel
theorem dX5_let_45 : decode cX5_let 45 = .ok (.iload 4, 2) := by decide +kernel
theorem dX5_let_47 : decode cX5_let 47 = .ok (.ifCond .eq 13, 3) := by decide +kernel
theorem dX5_let_50 : decode cX5_let 50 = .ok (.iload 6, 2) := by decide +kernel
theorem dX5_let_52 : decode cX5_let 52 = .ok (.iload_n 3, 1) := by decide +kernel
theorem dX5_let_53 : decode cX5_let 53 = .ok (.invokestatic 271, 3) := by decide +kernel
theorem dX5_let_56 : decode cX5_let 56 = .ok (.ior, 1) := by decide +kernel
theorem dX5_let_57 : decode cX5_let 57 = .ok (.goto 12, 3) := by decide +kernel
theorem dX5_let_60 : decode cX5_let 60 = .ok (.iload 6, 2) := by decide +kernel
theorem dX5_let_62 : decode cX5_let 62 = .ok (.iload_n 3, 1) := by decide +kernel
theorem dX5_let_63 : decode cX5_let 63 = .ok (.invokestatic 271, 3) := by decide +kernel
theorem dX5_let_66 : decode cX5_let 66 = .ok (.iconst (-1), 1) := by decide +kernel
theorem dX5_let_67 : decode cX5_let 67 = .ok (.ixor, 1) := by decide +kernel
theorem dX5_let_68 : decode cX5_let 68 = .ok (.iand, 1) := by decide +kernel
theorem dX5_let_69 : decode cX5_let 69 = .ok (.invokevirtual 265, 3) := by decide +kernel
theorem dX5_let_72 : decode cX5_let 72 = .ok (.aload_n 0, 1) := by decide +kernel
theorem dX5_let_73 : decode cX5_let 73 = .ok (.getfield 10, 3) := by decide +kernel
theorem dX5_let_76 : decode cX5_let 76 = .ok (.getfield 150, 3) := by decide +kernel
theorem dX5_let_79 : decode cX5_let 79 = .ok (.iload 5, 2) := by decide +kernel
theorem dX5_let_81 : decode cX5_let 81 = .ok (.invokevirtual 130, 3) := by decide +kernel
theorem dX5_let_84 : decode cX5_let 84 = .ok (.ireturn, 1) := by decide +kernel
theorem dX5_setWeight_0 : decode cX5_setWeight 0 = .ok (.aload_n 0, 1) := by decide +kernel
theorem dX5_setWeight_1 : decode cX5_setWeight 1 = .ok (.iload_n 1, 1) := by decide +kernel
theorem dX5_setWeight_2 : decode cX5_setWeight 2 = .ok (.invokevirtual 156, 3) := by decide +kernel
theorem dX5_setWeight_5 : decode cX5_setWeight 5 = .ok (.iload_n 2, 1) := by decide +kernel
theorem dX5_setWeight_6 : decode cX5_setWeight 6 = .ok (.iconst 0, 1) := by decide +kernel
theorem dX5_setWeight_7 : decode cX5_setWeight 7 = .ok (.bipush 99, 2) := by decide +kernel
theorem dX5_setWeight_9 : decode cX5_setWeight 9 = .ok (.invokestatic 177, 3) := by decide +kernel
theorem dX5_setWeight_12 : decode cX5_setWeight 12 = .ok (.ifCond .ne 11, 3) := by decide +kernel
theorem dX5_setWeight_15 : decode cX5_setWeight 15 = .ok (.new 121, 3) := by decide +kernel
theorem dX5_setWeight_18 : decode cX5_setWeight 18 = .ok (.dup, 1) := by decide +kernel
theorem dX5_setWeight_19 : decode cX5_setWeight 19 = .ok (.invokespecial 123, 3) := by decide +kernel
theorem dX5_setWeight_22 : decode cX5_setWeight 22 = .ok (.athrow, 1) := by decide +kernel
theorem dX5_setWeight_23 : decode cX5_setWeight 23 = .ok (.aload_n 0, 1) := by decide +kernel
theorem dX5_setWeight_24 : decode cX5_setWeight 24 = .ok (.invokevirtual 88, 3) := by decide +kernel
theorem dX5_setWeight_27 : decode cX5_setWeight 27 = .ok (.aload_n 0, 1) := by decide +kernel
theorem dX5_setWeight_28 : decode cX5_setWeight 28 = .ok (.getfield 10, 3) := by decide +kernel
theorem dX5_setWeight_31 : decode cX5_setWeight 31 = .ok (.getfield 159, 3) := by decide +kernel
theorem dX5_setWeight_34 : decode cX5_setWeight 34 = .ok (.iload_n 1, 1) := by decide +kernel
theorem dX5_setWeight_35 : decode cX5_setWeight 35 = .ok (.invokevirtual 130, 3) := by decide +kernel
theorem dX5_setWeight_38 : decode cX5_setWeight 38 = .ok (.istore_n 3, 1) := by decide +kernel
theorem dX5_setWeight_39 : decode cX5_setWeight 39 = .ok (.aload_n 0, 1) := by decide +kernel
theorem dX5_setWeight_40 : decode cX5_setWeight 40 = .ok (.getfield 10, 3) := by decide +kernel
theorem dX5_setWeight_43 : decode cX5_setWeight 43 = .ok (.getfield 159, 3) := by decide +kernel
theorem dX5_setWeight_46 : decode cX5_setWeight 46 = .ok (.iload_n 1, 1) := by decide +kernel
theorem dX5_setWeight_47 : decode cX5_setWeight 47 = .ok (.iload_n 2, 1) := by decide +kernel
theorem dX5_setWeight_48 : decode cX5_setWeight 48 = .ok (.invokevirtual 265, 3) := by decide +kernel
theorem dX5_setWeight_51 : decode cX5_setWeight 51 = .ok (.iload_n 3, 1) := by decide +kernel
theorem dX5_setWeight_52 : decode cX5_setWeight 52 = .ok (.ireturn, 1) := by decide +kernel
theorem dX5_setSpan_0 : decode cX5_setSpan 0 = .ok (.aload_n 0, 1) := by decide +kernel
theorem dX5_setSpan_1 : decode cX5_setSpan 1 = .ok (.iload_n 1, 1) := by decide +kernel
theorem dX5_setSpan_2 : decode cX5_setSpan 2 = .ok (.invokevirtual 162, 3) := by decide +kernel
theorem dX5_setSpan_5 : decode cX5_setSpan 5 = .ok (.aload_n 0, 1) := by decide +kernel
theorem dX5_setSpan_6 : decode cX5_setSpan 6 = .ok (.iload_n 2, 1) := by decide +kernel
theorem dX5_setSpan_7 : decode cX5_setSpan 7 = .ok (.invokevirtual 162, 3) := by decide +kernel
theorem dX5_setSpan_10 : decode cX5_setSpan 10 = .ok (.iload_n 1, 1) := by decide +kernel
theorem dX5_setSpan_11 : decode cX5_setSpan 11 = .ok (.iload_n 2, 1) := by decide +kernel
theorem dX5_setSpan_12 : decode cX5_setSpan 12 = .ok (.if_icmp .eq 36, 3) := by decide +kernel
theorem dX5_setSpan_15 : decode cX5_setSpan 15 = .ok (.iload_n 3, 1) := by decide +kernel
theorem dX5_setSpan_16 : decode cX5_setSpan 16 = .ok (.iconst 1, 1) := by decide +kernel
theorem dX5_setSpan_17 : decode cX5_setSpan 17 = .ok (.bipush 24, 2) := by decide +kernel
theorem dX5_setSpan_19 : decode cX5_setSpan 19 = .ok (.invokestatic 177, 3) := by decide +kernel
theorem dX5_setSpan_22 : decode cX5_setSpan 22 = .ok (.ifCond .eq 26, 3) := by decide +kernel
theorem dX5_setSpan_25 : decode cX5_setSpan 25 = .ok (.iload 4, 2) := by decide +kernel
theorem dX5_setSpan_27 : decode cX5_setSpan 27 = .ok (.iload_n 3, 1) := by decide +kernel
theorem dX5_setSpan_28 : decode cX5_setSpan 28 = .ok (.bipush 24, 2) := by decide +kernel
theorem dX5_setSpan_30 : decode cX5_setSpan 30 = .ok (.invokestatic 177, 3) := by decide +kernel
theorem dX5_setSpan_33 : decode cX5_setSpan 33 = .ok (.ifCond .eq 15, 3) := by decide +kernel
theorem dX5_setSpan_36 : decode cX5_setSpan 36 = .ok (.iload 5, 2) := by decide +kernel
theorem dX5_setSpan_38 : decode cX5_setSpan 38 = .ok (.iload 4, 2) := by decide +kernel
theorem dX5_setSpan_40 : decode cX5_setSpan 40 = .ok (.bipush 24, 2) := by decide +kernel
theorem dX5_setSpan_42 : decode cX5_setSpan 42 = .ok (.invokestatic 177, 3) := by decide +kernel
theorem dX5_setSpan_45 : decode cX5_setSpan 45 = .ok (.ifCond .ne 11, 3) := by decide +kernel
theorem dX5_setSpan_48 : decode cX5_setSpan 48 = .ok (.new 121, 3) := by decide +kernel
theorem dX5_setSpan_51 : decode cX5_setSpan 51 = .ok (.dup, 1) := by decide +kernel
theorem dX5_setSpan_52 : decode cX5_setSpan 52 = .ok (.invokespecial 123, 3) := by decide +kernel
theorem dX5_setSpan_55 : decode cX5_setSpan 55 = .ok (.athrow, 1) := by decide +kernel
theorem dX5_setSpan_56 : decode cX5_setSpan 56 = .ok (.aload_n 0, 1) := by decide +kernel
theorem dX5_setSpan_57 : decode cX5_setSpan 57 = .ok (.invokevirtual 88, 3) := by decide +kernel
theorem dX5_setSpan_60 : decode cX5_setSpan 60 = .ok (.aload_n 0, 1) := by decide +kernel
theorem dX5_setSpan_61 : decode cX5_setSpan 61 = .ok (.getfield 10, 3) := by decide +kernel
theorem dX5_setSpan_64 : decode cX5_setSpan 64 = .ok (.getfield 174, 3) := by decide +kernel
theorem dX5_setSpan_67 : decode cX5_setSpan 67 = .ok (.iload_n 1, 1) := by decide +kernel
theorem dX5_setSpan_68 : decode cX5_setSpan 68 = .ok (.iload_n 2, 1) := by decide +kernel
theorem dX5_setSpan_69 : decode cX5_setSpan 69 = .ok (.invokestatic 168, 3) := by decide +kernel
theorem dX5_setSpan_72 : decode cX5_setSpan 72 = .ok (.invokevirtual 130, 3) := by decide +kernel
theorem dX5_setSpan_75 : decode cX5_setSpan 75 = .ok (.istore 6, 2) := by decide +kernel
theorem dX5_setSpan_77 : decode cX5_setSpan 77 = .ok (.aload_n 0, 1) := by decide +kernel
theorem dX5_setSpan_78 : decode cX5_setSpan 78 = .ok (.getfield 10, 3) := by decide +kernel
theorem dX5_setSpan_81 : decode cX5_setSpan 81 = .ok (.iload_n 1, 1) := by decide +kernel
theorem dX5_setSpan_82 : decode cX5_setSpan 82 = .ok (.iload_n 2, 1) := by decide +kernel
theorem dX5_setSpan_83 : decode cX5_setSpan 83 = .ok (.iload_n 3, 1) := by decide +kernel
theorem dX5_setSpan_84 : decode cX5_setSpan 84 = .ok (.iload 4, 2) := by decide +kernel
theorem dX5_setSpan_86 : decode cX5_setSpan 86 = .ok (.iload 5, 2) := by decide +kernel
theorem dX5_setSpan_88 : decode cX5_setSpan 88 = .ok (.invokevirtual 274, 3) := by decide +kernel
theorem dX5_setSpan_91 : decode cX5_setSpan 91 = .ok (.iload 6, 2) := by decide +kernel
theorem dX5_setSpan_93 : decode cX5_setSpan 93 = .ok (.ireturn, 1) := by decide +kernel
theorem dX5_setHand_0 : decode cX5_setHand 0 = .ok (.aload_n 0, 1) := by decide +kernel
theorem dX5_setHand_1 : decode cX5_setHand 1 = .ok (.invokevirtual 88, 3) := by decide +kernel
theorem dX5_setHand_4 : decode cX5_setHand 4 = .ok (.aload_n 0, 1) := by decide +kernel
theorem dX5_setHand_5 : decode cX5_setHand 5 = .ok (.getfield 10, 3) := by decide +kernel
theorem dX5_setHand_8 : decode cX5_setHand 8 = .ok (.iload_n 1, 1) := by decide +kernel
theorem dX5_setHand_9 : decode cX5_setHand 9 = .ok (.putfield 105, 3) := by decide +kernel
theorem dX5_setHand_12 : decode cX5_setHand 12 = .ok (.aload_n 0, 1) := by decide +kernel
theorem dX5_setHand_13 : decode cX5_setHand 13 = .ok (.getfield 22, 3) := by decide +kernel
theorem dX5_setHand_16 : decode cX5_setHand 16 = .ok (.aload_n 0, 1) := by decide +kernel
theorem dX5_setHand_17 : decode cX5_setHand 17 = .ok (.getfield 10, 3) := by decide +kernel
theorem dX5_setHand_20 : decode cX5_setHand 20 = .ok (.invokevirtual 136, 3) := by decide +kernel
theorem dX5_setHand_23 : decode cX5_setHand 23 = .ok (.aload_n 0, 1) := by decide +kernel
theorem dX5_setHand_24 : decode cX5_setHand 24 = .ok (.getfield 22, 3) := by decide +kernel
theorem dX5_setHand_27 : decode cX5_setHand 27 = .ok (.getfield 185, 3) := by decide +kernel
theorem dX5_setHand_30 : decode cX5_setHand 30 = .ok (.ireturn, 1) := by decide +kernel
theorem dX5_transpose_0 : decode cX5_transpose 0 = .ok (.aload_n 0, 1) := by decide +kernel
theorem dX5_transpose_1 : decode cX5_transpose 1 = .ok (.iload_n 1, 1) := by decide +kernel
theorem dX5_transpose_2 : decode cX5_transpose 2 = .ok (.invokevirtual 239, 3) := by decide +kernel
theorem dX5_transpose_5 : decode cX5_transpose 5 = .ok (.aload_n 0, 1) := by decide +kernel
theorem dX5_transpose_6 : decode cX5_transpose 6 = .ok (.invokevirtual 88, 3) := by decide +kernel
theorem dX5_transpose_9 : decode cX5_transpose 9 = .ok (.aload_n 0, 1) := by decide +kernel
theorem dX5_transpose_10 : decode cX5_transpose 10 = .ok (.getfield 10, 3) := by decide +kernel
theorem dX5_transpose_13 : decode cX5_transpose 13 = .ok (.iload_n 1, 1) := by decide +kernel
theorem dX5_transpose_14 : decode cX5_transpose 14 = .ok (.invokevirtual 278, 3) := by decide +kernel
theorem dX5_transpose_17 : decode cX5_transpose 17 = .ok (.aload_n 0, 1) := by decide +kernel
theorem dX5_transpose_18 : decode cX5_transpose 18 = .ok (.getfield 22, 3) := by decide +kernel
theorem dX5_transpose_21 : decode cX5_transpose 21 = .ok (.aload_n 0, 1) := by decide +kernel
theorem dX5_transpose_22 : decode cX5_transpose 22 = .ok (.getfield 10, 3) := by decide +kernel
theorem dX5_transpose_25 : decode cX5_transpose 25 = .ok (.invokevirtual 136, 3) := by decide +kernel
theorem dX5_transpose_28 : decode cX5_transpose 28 = .ok (.aload_n 0, 1) := by decide +kernel
theorem dX5_transpose_29 : decode cX5_transpose 29 = .ok (.getfield 22, 3) := by decide +kernel
theorem dX5_transpose_32 : decode cX5_transpose 32 = .ok (.getfield 185, 3) := by decide +kernel
theorem dX5_transpose_35 : decode cX5_transpose 35 = .ok (.ireturn, 1) := by decide +kernel
theorem dX5_fix_0 : decode cX5_fix 0 = .ok (.aload_n 0, 1) := by decide +kernel
theorem dX5_fix_1 : decode cX5_fix 1 = .ok (.invokevirtual 188, 3) := by decide +kernel
theorem dX5_fix_4 : decode cX5_fix 4 = .ok (.aload_n 0, 1) := by decide +kernel
theorem dX5_fix_5 : decode cX5_fix 5 = .ok (.invokevirtual 88, 3) := by decide +kernel
theorem dX5_fix_8 : decode cX5_fix 8 = .ok (.iconst 0, 1) := by decide +kernel
theorem dX5_fix_9 : decode cX5_fix 9 = .ok (.istore_n 1, 1) := by decide +kernel
theorem dX5_fix_10 : decode cX5_fix 10 = .ok (.iconst 0, 1) := by decide +kernel
theorem dX5_fix_11 : decode cX5_fix 11 = .ok (.istore_n 2, 1) := by decide +kernel
theorem dX5_fix_12 : decode cX5_fix 12 = .ok (.iload_n 2, 1) := by decide +kernel
theorem dX5_fix_13 : decode cX5_fix 13 = .ok (.aload_n 0, 1) := by decide +kernel
theorem dX5_fix_14 : decode cX5_fix 14 = .ok (.getfield 10, 3) := by decide +kernel
theorem dX5_fix_17 : decode cX5_fix 17 = .ok (.getfield 95, 3) := by decide +kernel
theorem dX5_fix_20 : decode cX5_fix 20 = .ok (.if_icmp .ge 90, 3) := by decide +kernel
theorem dX5_fix_23 : decode cX5_fix 23 = .ok (.iconst 0, 1) := by decide +kernel
theorem dX5_fix_24 : decode cX5_fix 24 = .ok (.istore_n 3, 1) := by decide +kernel
theorem dX5_fix_25 : decode cX5_fix 25 = .ok (.iload_n 3, 1) := by decide +kernel
theorem dX5_fix_26 : decode cX5_fix 26 = .ok (.aload_n 0, 1) := by decide +kernel
theorem dX5_fix_27 : decode cX5_fix 27 = .ok (.getfield 10, 3) := by decide +kernel
theorem dX5_fix_30 : decode cX5_fix 30 = .ok (.getfield 127, 3) := by decide +kernel
theorem dX5_fix_33 : decode cX5_fix 33 = .ok (.iload_n 2, 1) := by decide +kernel
theorem dX5_fix_34 : decode cX5_fix 34 = .ok (.invokevirtual 130, 3) := by decide +kernel
theorem dX5_fix_37 : decode cX5_fix 37 = .ok (.if_icmp .ge 67, 3) := by decide +kernel
theorem dX5_fix_40 : decode cX5_fix 40 = .ok (.iload_n 2, 1) := by decide +kernel
theorem dX5_fix_41 : decode cX5_fix 41 = .ok (.iload_n 3, 1) := by decide +kernel
theorem dX5_fix_42 : decode cX5_fix 42 = .ok (.invokestatic 153, 3) := by decide +kernel
theorem dX5_fix_45 : decode cX5_fix 45 = .ok (.istore 4, 2) := by decide +kernel
theorem dX5_fix_47 : decode cX5_fix 47 = .ok (.iload_n 1, 1) := by decide +kernel
theorem dX5_fix_48 : decode cX5_fix 48 = .ok (.aload_n 0, 1) := by decide +kernel
theorem dX5_fix_49 : decode cX5_fix 49 = .ok (.getfield 10, 3) := by decide +kernel
theorem dX5_fix_52 : decode cX5_fix 52 = .ok (.getfield 150, 3) := by decide +kernel
theorem dX5_fix_55 : decode cX5_fix 55 = .ok (.iload 4, 2) := by decide +kernel
theorem dX5_fix_57 : decode cX5_fix 57 = .ok (.invokevirtual 130, 3) := by decide +kernel
theorem dX5_fix_60 : decode cX5_fix 60 = .ok (.invokestatic 218, 3) := by decide +kernel
theorem dX5_fix_63 : decode cX5_fix 63 = .ok (.iconst 1, 1) := by decide +kernel
theorem dX5_fix_64 : decode cX5_fix 64 = .ok (.if_icmp .le 7, 3) := by decide +kernel
theorem dX5_fix_67 : decode cX5_fix 67 = .ok (.iconst 1, 1) := by decide +kernel
theorem dX5_fix_68 : decode cX5_fix 68 = .ok (.goto 4, 3) := by decide +kernel
theorem dX5_fix_71 : decode cX5_fix 71 = .ok (.iconst 0, 1) := by decide +kernel
theorem dX5_fix_72 : decode cX5_fix 72 = .ok (.iadd, 1) := by decide +kernel
theorem dX5_fix_73 : decode cX5_fix 73 = .ok (.istore_n 1, 1) := by decide +kernel
theorem dX5_fix_74 : decode cX5_fix 74 = .ok (.aload_n 0, 1) := by decide +kernel
theorem dX5_fix_75 : decode cX5_fix 75 = .ok (.getfield 10, 3) := by decide +kernel
theorem dX5_fix_78 : decode cX5_fix 78 = .ok (.getfield 150, 3) := by decide +kernel
theorem dX5_fix_81 : decode cX5_fix 81 = .ok (.iload 4, 2) := by decide +kernel
theorem dX5_fix_83 : decode cX5_fix 83 = .ok (.aload_n 0, 1) := by decide +kernel
theorem dX5_fix_84 : decode cX5_fix 84 = .ok (.getfield 22, 3) := by decide +kernel
theorem dX5_fix_87 : decode cX5_fix 87 = .ok (.iload_n 2, 1) := by decide +kernel
theorem dX5_fix_88 : decode cX5_fix 88 = .ok (.iload_n 3, 1) := by decide +kernel
theorem dX5_fix_89 : decode cX5_fix 89 = .ok (.invokevirtual 191, 3) := by decide +kernel
theorem dX5_fix_92 : decode cX5_fix 92 = .ok (.invokestatic 271, 3) := by decide +kernel
theorem dX5_fix_95 : decode cX5_fix 95 = .ok (.invokevirtual 265, 3) := by decide +kernel
theorem dX5_fix_98 : decode cX5_fix 98 = .ok (.iinc 3 1, 3) := by decide +kernel
theorem dX5_fix_101 : decode cX5_fix 101 = .ok (.goto (-76), 3) := by decide +kernel
theorem dX5_fix_104 : decode cX5_fix 104 = .ok (.iinc 2 1, 3) := by decide +kernel
theorem dX5_fix_107 : decode cX5_fix 107 = .ok (.goto (-95), 3) := by decide +kernel
theorem dX5_fix_110 : decode cX5_fix 110 = .ok (.iload_n 1, 1) := by decide +kernel
theorem dX5_fix_111 : decode cX5_fix 111 = .ok (.ireturn, 1) := by decide +kernel
theorem dX5_undo_0 : decode cX5_undo 0 = .ok (.aload_n 0, 1) := by decide +kernel
theorem dX5_undo_1 : decode cX5_undo 1 = .ok (.getfield 62, 3) := by decide +kernel
theorem dX5_undo_4 : decode cX5_undo 4 = .ok (.ifCond .ne 11, 3) := by decide +kernel
theorem dX5_undo_7 : decode cX5_undo 7 = .ok (.new 75, 3) := by decide +kernel
theorem dX5_undo_10 : decode cX5_undo 10 = .ok (.dup, 1) := by decide +kernel
theorem dX5_undo_11 : decode cX5_undo 11 = .ok (.invokespecial 77, 3) := by decide +kernel
theorem dX5_undo_14 : decode cX5_undo 14 = .ok (.athrow, 1) := by decide +kernel
theorem dX5_undo_15 : decode cX5_undo 15 = .ok (.aload_n 0, 1) := by decide +kernel
theorem dX5_undo_16 : decode cX5_undo 16 = .ok (.dup, 1) := by decide +kernel
theorem dX5_undo_17 : decode cX5_undo 17 = .ok (.getfield 62, 3) := by decide +kernel
theorem dX5_undo_20 : decode cX5_undo 20 = .ok (.iconst 1, 1) := by decide +kernel
theorem dX5_undo_21 : decode cX5_undo 21 = .ok (.isub, 1) := by decide +kernel
theorem dX5_undo_22 : decode cX5_undo 22 = .ok (.putfield 62, 3) := by decide +kernel
theorem dX5_undo_25 : decode cX5_undo 25 = .ok (.aload_n 0, 1) := by decide +kernel
theorem dX5_undo_26 : decode cX5_undo 26 = .ok (.getfield 55, 3) := by decide +kernel
theorem dX5_undo_29 : decode cX5_undo 29 = .ok (.aload_n 0, 1) := by decide +kernel
theorem dX5_undo_30 : decode cX5_undo 30 = .ok (.getfield 59, 3) := by decide +kernel
theorem dX5_undo_33 : decode cX5_undo 33 = .ok (.aload_n 0, 1) := by decide +kernel
theorem dX5_undo_34 : decode cX5_undo 34 = .ok (.getfield 62, 3) := by decide +kernel
theorem dX5_undo_37 : decode cX5_undo 37 = .ok (.iadd, 1) := by decide +kernel
theorem dX5_undo_38 : decode cX5_undo 38 = .ok (.bipush 8, 2) := by decide +kernel
theorem dX5_undo_40 : decode cX5_undo 40 = .ok (.irem, 1) := by decide +kernel
theorem dX5_undo_41 : decode cX5_undo 41 = .ok (.aload_n 0, 1) := by decide +kernel
theorem dX5_undo_42 : decode cX5_undo 42 = .ok (.getfield 10, 3) := by decide +kernel
theorem dX5_undo_45 : decode cX5_undo 45 = .ok (.invokevirtual 281, 3) := by decide +kernel
theorem dX5_undo_48 : decode cX5_undo 48 = .ok (.aload_n 0, 1) := by decide +kernel
theorem dX5_undo_49 : decode cX5_undo 49 = .ok (.getfield 22, 3) := by decide +kernel
theorem dX5_undo_52 : decode cX5_undo 52 = .ok (.invokevirtual 236, 3) := by decide +kernel
theorem dX5_undo_55 : decode cX5_undo 55 = .ok (.aload_n 0, 1) := by decide +kernel
theorem dX5_undo_56 : decode cX5_undo 56 = .ok (.getfield 62, 3) := by decide +kernel
theorem dX5_undo_59 : decode cX5_undo 59 = .ok (.ireturn, 1) := by decide +kernel
theorem dX5_save_0 : decode cX5_save 0 = .ok (.aload_n 0, 1) := by decide +kernel
theorem dX5_save_1 : decode cX5_save 1 = .ok (.iload_n 1, 1) := by decide +kernel
theorem dX5_save_2 : decode cX5_save 2 = .ok (.invokevirtual 285, 3) := by decide +kernel
theorem dX5_save_5 : decode cX5_save 5 = .ok (.aload_n 0, 1) := by decide +kernel
theorem dX5_save_6 : decode cX5_save 6 = .ok (.getfield 65, 3) := by decide +kernel
theorem dX5_save_9 : decode cX5_save 9 = .ok (.iload_n 1, 1) := by decide +kernel
theorem dX5_save_10 : decode cX5_save 10 = .ok (.aload_n 0, 1) := by decide +kernel
theorem dX5_save_11 : decode cX5_save 11 = .ok (.getfield 10, 3) := by decide +kernel
theorem dX5_save_14 : decode cX5_save 14 = .ok (.invokevirtual 288, 3) := by decide +kernel
theorem dX5_save_17 : decode cX5_save 17 = .ok (.return_, 1) := by decide +kernel
theorem dX5_restore_0 : decode cX5_restore 0 = .ok (.aload_n 0, 1) := by decide +kernel
theorem dX5_restore_1 : decode cX5_restore 1 = .ok (.iload_n 1, 1) := by decide +kernel
theorem dX5_restore_2 : decode cX5_restore 2 = .ok (.invokevirtual 285, 3) := by decide +kernel
theorem dX5_restore_5 : decode cX5_restore 5 = .ok (.aload_n 0, 1) := by decide +kernel
theorem dX5_restore_6 : decode cX5_restore 6 = .ok (.getfield 65, 3) := by decide +kernel
theorem dX5_restore_9 : decode cX5_restore 9 = .ok (.iload_n 1, 1) := by decide +kernel
theorem dX5_restore_10 : decode cX5_restore 10 = .ok (.invokevirtual 291, 3) := by decide +kernel
theorem dX5_restore_13 : decode cX5_restore 13 = .ok (.ifCond .ne 11, 3) := by decide +kernel
theorem dX5_restore_16 : decode cX5_restore 16 = .ok (.new 75, 3) := by decide +kernel
theorem dX5_restore_19 : decode cX5_restore 19 = .ok (.dup, 1) := by decide +kernel
theorem dX5_restore_20 : decode cX5_restore 20 = .ok (.invokespecial 77, 3) := by decide +kernel
theorem dX5_restore_23 : decode cX5_restore 23 = .ok (.athrow, 1) := by decide +kernel
theorem dX5_restore_24 : decode cX5_restore 24 = .ok (.aload_n 0, 1) := by decide +kernel
theorem dX5_restore_25 : decode cX5_restore 25 = .ok (.invokevirtual 88, 3) := by decide +kernel
theorem dX5_restore_28 : decode cX5_restore 28 = .ok (.aload_n 0, 1) := by decide +kernel
theorem dX5_restore_29 : decode cX5_restore 29 = .ok (.getfield 65, 3) := by decide +kernel
theorem dX5_restore_32 : decode cX5_restore 32 = .ok (.iload_n 1, 1) := by decide +kernel
theorem dX5_restore_33 : decode cX5_restore 33 = .ok (.aload_n 0, 1) := by decide +kernel
theorem dX5_restore_34 : decode cX5_restore 34 = .ok (.getfield 10, 3) := by decide +kernel
theorem dX5_restore_37 : decode cX5_restore 37 = .ok (.invokevirtual 281, 3) := by decide +kernel
theorem dX5_restore_40 : decode cX5_restore 40 = .ok (.aload_n 0, 1) := by decide +kernel
theorem dX5_restore_41 : decode cX5_restore 41 = .ok (.getfield 10, 3) := by decide +kernel
theorem dX5_restore_44 : decode cX5_restore 44 = .ok (.getfield 95, 3) := by decide +kernel
theorem dX5_restore_47 : decode cX5_restore 47 = .ok (.ireturn, 1) := by decide +kernel
theorem dX5_writeFingers_0 : decode cX5_writeFingers 0 = .ok (.aload_n 0, 1) := by decide +kernel
theorem dX5_writeFingers_1 : decode cX5_writeFingers 1 = .ok (.invokevirtual 188, 3) := by decide +kernel
theorem dX5_writeFingers_4 : decode cX5_writeFingers 4 = .ok (.aload_n 0, 1) := by decide +kernel
theorem dX5_writeFingers_5 : decode cX5_writeFingers 5 = .ok (.iconst 0, 1) := by decide +kernel
theorem dX5_writeFingers_6 : decode cX5_writeFingers 6 = .ok (.putfield 48, 3) := by decide +kernel
theorem dX5_writeFingers_9 : decode cX5_writeFingers 9 = .ok (.iconst 0, 1) := by decide +kernel
theorem dX5_writeFingers_10 : decode cX5_writeFingers 10 = .ok (.istore_n 1, 1) := by decide +kernel
theorem dX5_writeFingers_11 : decode cX5_writeFingers 11 = .ok (.iload_n 1, 1) := by decide +kernel
theorem dX5_writeFingers_12 : decode cX5_writeFingers 12 = .ok (.aload_n 0, 1) := by decide +kernel
theorem dX5_writeFingers_13 : decode cX5_writeFingers 13 = .ok (.getfield 10, 3) := by decide +kernel
theorem dX5_writeFingers_16 : decode cX5_writeFingers 16 = .ok (.getfield 95, 3) := by decide +kernel
theorem dX5_writeFingers_19 : decode cX5_writeFingers 19 = .ok (.if_icmp .ge 98, 3) := by decide +kernel
theorem dX5_writeFingers_22 : decode cX5_writeFingers 22 = .ok (.iload_n 1, 1) := by decide +kernel
theorem dX5_writeFingers_23 : decode cX5_writeFingers 23 = .ok (.ifCond .le 9, 3) := by decide +kernel
theorem dX5_writeFingers_26 : decode cX5_writeFingers 26 = .ok (.aload_n 0, 1) := by decide +kernel
theorem dX5_writeFingers_27 : decode cX5_writeFingers 27 = .ok (.bipush 32, 2) := by decide +kernel
theorem dX5_writeFingers_29 : decode cX5_writeFingers 29 = .ok (.invokevirtual 294, 3) := by decide +kernel
theorem dX5_writeFingers_32 : decode cX5_writeFingers 32 = .ok (.iconst 0, 1) := by decide +kernel
theorem dX5_writeFingers_33 : decode cX5_writeFingers 33 = .ok (.istore_n 2, 1) := by decide +kernel
theorem dX5_writeFingers_34 : decode cX5_writeFingers 34 = .ok (.iload_n 2, 1) := by decide +kernel
theorem dX5_writeFingers_35 : decode cX5_writeFingers 35 = .ok (.aload_n 0, 1) := by decide +kernel
theorem dX5_writeFingers_36 : decode cX5_writeFingers 36 = .ok (.getfield 10, 3) := by decide +kernel
theorem dX5_writeFingers_39 : decode cX5_writeFingers 39 = .ok (.getfield 127, 3) := by decide +kernel
theorem dX5_writeFingers_42 : decode cX5_writeFingers 42 = .ok (.iload_n 1, 1) := by decide +kernel
theorem dX5_writeFingers_43 : decode cX5_writeFingers 43 = .ok (.invokevirtual 130, 3) := by decide +kernel
theorem dX5_writeFingers_46 : decode cX5_writeFingers 46 = .ok (.if_icmp .ge 25, 3) := by decide +kernel
theorem dX5_writeFingers_49 : decode cX5_writeFingers 49 = .ok (.aload_n 0, 1) := by decide +kernel
theorem dX5_writeFingers_50 : decode cX5_writeFingers 50 = .ok (.bipush 48, 2) := by decide +kernel
theorem dX5_writeFingers_52 : decode cX5_writeFingers 52 = .ok (.aload_n 0, 1) := by decide +kernel
theorem dX5_writeFingers_53 : decode cX5_writeFingers 53 = .ok (.getfield 22, 3) := by decide +kernel
theorem dX5_writeFingers_56 : decode cX5_writeFingers 56 = .ok (.iload_n 1, 1) := by decide +kernel
theorem dX5_writeFingers_57 : decode cX5_writeFingers 57 = .ok (.iload_n 2, 1) := by decide +kernel
theorem dX5_writeFingers_58 : decode cX5_writeFingers 58 = .ok (.invokevirtual 191, 3) := by decide +kernel
theorem dX5_writeFingers_61 : decode cX5_writeFingers 61 = .ok (.iadd, 1) := by decide +kernel
theorem dX5_writeFingers_62 : decode cX5_writeFingers 62 = .ok (.invokevirtual 294, 3) := by decide +kernel
theorem dX5_writeFingers_65 : decode cX5_writeFingers 65 = .ok (.iinc 2 1, 3) := by decide +kernel
theorem dX5_writeFingers_68 : decode cX5_writeFingers 68 = .ok (.goto (-34), 3) := by decide +kernel
theorem dX5_writeFingers_71 : decode cX5_writeFingers 71 = .ok (.iload_n 1, 1) := by decide +kernel
theorem dX5_writeFingers_72 : decode cX5_writeFingers 72 = .ok (.aload_n 0, 1) := by decide +kernel
theorem dX5_writeFingers_73 : decode cX5_writeFingers 73 = .ok (.getfield 10, 3) := by decide +kernel
theorem dX5_writeFingers_76 : decode cX5_writeFingers 76 = .ok (.getfield 95, 3) := by decide +kernel
theorem dX5_writeFingers_79 : decode cX5_writeFingers 79 = .ok (.iconst 1, 1) := by decide +kernel
theorem dX5_writeFingers_80 : decode cX5_writeFingers 80 = .ok (.isub, 1) := by decide +kernel
theorem dX5_writeFingers_81 : decode cX5_writeFingers 81 = .ok (.if_icmp .ge 30, 3) := by decide +kernel
theorem dX5_writeFingers_84 : decode cX5_writeFingers 84 = .ok (.aload_n 0, 1) := by decide +kernel
theorem dX5_writeFingers_85 : decode cX5_writeFingers 85 = .ok (.getfield 10, 3) := by decide +kernel
theorem dX5_writeFingers_88 : decode cX5_writeFingers 88 = .ok (.aload_n 0, 1) := by decide +kernel
theorem dX5_writeFingers_89 : decode cX5_writeFingers 89 = .ok (.getfield 10, 3) := by decide +kernel
theorem dX5_writeFingers_92 : decode cX5_writeFingers 92 = .ok (.getfield 133, 3) := by decide +kernel
theorem dX5_writeFingers_95 : decode cX5_writeFingers 95 = .ok (.iload_n 1, 1) := by decide +kernel
theorem dX5_writeFingers_96 : decode cX5_writeFingers 96 = .ok (.invokevirtual 130, 3) := by decide +kernel
theorem dX5_writeFingers_99 : decode cX5_writeFingers 99 = .ok (.invokevirtual 297, 3) := by decide +kernel
theorem dX5_writeFingers_102 : decode cX5_writeFingers 102 = .ok (.ifCond .eq 9, 3) := by decide +kernel
theorem dX5_writeFingers_105 : decode cX5_writeFingers 105 = .ok (.aload_n 0, 1) := by decide +kernel
theorem dX5_writeFingers_106 : decode cX5_writeFingers 106 = .ok (.bipush 39, 2) := by decide +kernel
theorem dX5_writeFingers_108 : decode cX5_writeFingers 108 = .ok (.invokevirtual 294, 3) := by decide +kernel
theorem dX5_writeFingers_111 : decode cX5_writeFingers 111 = .ok (.iinc 1 1, 3) := by decide +kernel
theorem dX5_writeFingers_114 : decode cX5_writeFingers 114 = .ok (.goto (-103), 3) := by decide +kernel
theorem dX5_writeFingers_117 : decode cX5_writeFingers 117 = .ok (.aload_n 0, 1) := by decide +kernel
theorem dX5_writeFingers_118 : decode cX5_writeFingers 118 = .ok (.getfield 48, 3) := by decide +kernel
theorem dX5_writeFingers_121 : decode cX5_writeFingers 121 = .ok (.ireturn, 1) := by decide +kernel
theorem dX5_writtenByte_0 : decode cX5_writtenByte 0 = .ok (.iload_n 1, 1) := by decide +kernel
theorem dX5_writtenByte_1 : decode cX5_writtenByte 1 = .ok (.iconst 0, 1) := by decide +kernel
theorem dX5_writtenByte_2 : decode cX5_writtenByte 2 = .ok (.aload_n 0, 1) := by decide +kernel
theorem dX5_writtenByte_3 : decode cX5_writtenByte 3 = .ok (.getfield 48, 3) := by decide +kernel
theorem dX5_writtenByte_6 : decode cX5_writtenByte 6 = .ok (.iconst 1, 1) := by decide +kernel
theorem dX5_writtenByte_7 : decode cX5_writtenByte 7 = .ok (.isub, 1) := by decide +kernel
theorem dX5_writtenByte_8 : decode cX5_writtenByte 8 = .ok (.invokestatic 177, 3) := by decide +kernel
theorem dX5_writtenByte_11 : decode cX5_writtenByte 11 = .ok (.ifCond .ne 11, 3) := by decide +kernel
theorem dX5_writtenByte_14 : decode cX5_writtenByte 14 = .ok (.new 252, 3) := by decide +kernel
theorem dX5_writtenByte_17 : decode cX5_writtenByte 17 = .ok (.dup, 1) := by decide +kernel
theorem dX5_writtenByte_18 : decode cX5_writtenByte 18 = .ok (.invokespecial 254, 3) := by decide +kernel
theorem dX5_writtenByte_21 : decode cX5_writtenByte 21 = .ok (.athrow, 1) := by decide +kernel
theorem dX5_writtenByte_22 : decode cX5_writtenByte 22 = .ok (.aload_n 0, 1) := by decide +kernel
theorem dX5_writtenByte_23 : decode cX5_writtenByte 23 = .ok (.getfield 45, 3) := by decide +kernel
theorem dX5_writtenByte_26 : decode cX5_writtenByte 26 = .ok (.iload_n 1, 1) := by decide +kernel
theorem dX5_writtenByte_27 : decode cX5_writtenByte 27 = .ok (.invokevirtual 130, 3) := by decide +kernel
theorem dX5_writtenByte_30 : decode cX5_writtenByte 30 = .ok (.ireturn, 1) := by decide +kernel
theorem dX5_needEvent_0 : decode cX5_needEvent 0 = .ok (.iload_n 1, 1) := by decide +kernel
theorem dX5_needEvent_1 : decode cX5_needEvent 1 = .ok (.iconst 0, 1) := by decide +kernel
theorem dX5_needEvent_2 : decode cX5_needEvent 2 = .ok (.aload_n 0, 1) := by decide +kernel
theorem dX5_needEvent_3 : decode cX5_needEvent 3 = .ok (.getfield 10, 3) := by decide +kernel
theorem dX5_needEvent_6 : decode cX5_needEvent 6 = .ok (.getfield 95, 3) := by decide +kernel
theorem dX5_needEvent_9 : decode cX5_needEvent 9 = .ok (.iconst 1, 1) := by decide +kernel
theorem dX5_needEvent_10 : decode cX5_needEvent 10 = .ok (.isub, 1) := by decide +kernel
theorem dX5_needEvent_11 : decode cX5_needEvent 11 = .ok (.invokestatic 177, 3) := by decide +kernel
theorem dX5_needEvent_14 : decode cX5_needEvent 14 = .ok (.ifCond .ne 11, 3) := by decide +kernel
theorem dX5_needEvent_17 : decode cX5_needEvent 17 = .ok (.new 252, 3) := by decide +kernel
theorem dX5_needEvent_20 : decode cX5_needEvent 20 = .ok (.dup, 1) := by decide +kernel
theorem dX5_needEvent_21 : decode cX5_needEvent 21 = .ok (.invokespecial 254, 3) := by decide +kernel
theorem dX5_needEvent_24 : decode cX5_needEvent 24 = .ok (.athrow, 1) := by decide +kernel
theorem dX5_needEvent_25 : decode cX5_needEvent 25 = .ok (.return_, 1) := by decide +kernel
theorem dX5_needNote_0 : decode cX5_needNote 0 = .ok (.aload_n 0, 1) := by decide +kernel
theorem dX5_needNote_1 : decode cX5_needNote 1 = .ok (.iload_n 1, 1) := by decide +kernel
theorem dX5_needNote_2 : decode cX5_needNote 2 = .ok (.invokevirtual 124, 3) := by decide +kernel
theorem dX5_needNote_5 : decode cX5_needNote 5 = .ok (.iload_n 2, 1) := by decide +kernel
theorem dX5_needNote_6 : decode cX5_needNote 6 = .ok (.iconst 0, 1) := by decide +kernel
theorem dX5_needNote_7 : decode cX5_needNote 7 = .ok (.aload_n 0, 1) := by decide +kernel
theorem dX5_needNote_8 : decode cX5_needNote 8 = .ok (.getfield 10, 3) := by decide +kernel
theorem dX5_needNote_11 : decode cX5_needNote 11 = .ok (.getfield 127, 3) := by decide +kernel
theorem dX5_needNote_14 : decode cX5_needNote 14 = .ok (.iload_n 1, 1) := by decide +kernel
theorem dX5_needNote_15 : decode cX5_needNote 15 = .ok (.invokevirtual 130, 3) := by decide +kernel
theorem dX5_needNote_18 : decode cX5_needNote 18 = .ok (.iconst 1, 1) := by decide +kernel
theorem dX5_needNote_19 : decode cX5_needNote 19 = .ok (.isub, 1) := by decide +kernel
theorem dX5_needNote_20 : decode cX5_needNote 20 = .ok (.invokestatic 177, 3) := by decide +kernel
theorem dX5_needNote_23 : decode cX5_needNote 23 = .ok (.ifCond .ne 11, 3) := by decide +kernel
theorem dX5_needNote_26 : decode cX5_needNote 26 = .ok (.new 252, 3) := by decide +kernel
theorem dX5_needNote_29 : decode cX5_needNote 29 = .ok (.dup, 1) := by decide +kernel
theorem dX5_needNote_30 : decode cX5_needNote 30 = .ok (.invokespecial 254, 3) := by decide +kernel
theorem dX5_needNote_33 : decode cX5_needNote 33 = .ok (.athrow, 1) := by decide +kernel
theorem dX5_needNote_34 : decode cX5_needNote 34 = .ok (.return_, 1) := by decide +kernel
theorem dX5_needFinger_0 : decode cX5_needFinger 0 = .ok (.iload_n 1, 1) := by decide +kernel
theorem dX5_needFinger_1 : decode cX5_needFinger 1 = .ok (.iconst 1, 1) := by decide +kernel
theorem dX5_needFinger_2 : decode cX5_needFinger 2 = .ok (.iconst 5, 1) := by decide +kernel
theorem dX5_needFinger_3 : decode cX5_needFinger 3 = .ok (.invokestatic 177, 3) := by decide +kernel
theorem dX5_needFinger_6 : decode cX5_needFinger 6 = .ok (.ifCond .ne 11, 3) := by decide +kernel
theorem dX5_needFinger_9 : decode cX5_needFinger 9 = .ok (.new 252, 3) := by decide +kernel
theorem dX5_needFinger_12 : decode cX5_needFinger 12 = .ok (.dup, 1) := by decide +kernel
theorem dX5_needFinger_13 : decode cX5_needFinger 13 = .ok (.invokespecial 254, 3) := by decide +kernel
theorem dX5_needFinger_16 : decode cX5_needFinger 16 = .ok (.athrow, 1) := by decide +kernel
theorem dX5_needFinger_17 : decode cX5_needFinger 17 = .ok (.return_, 1) := by decide +kernel
theorem dX5_needWeight_0 : decode cX5_needWeight 0 = .ok (.iload_n 1, 1) := by decide +kernel
theorem dX5_needWeight_1 : decode cX5_needWeight 1 = .ok (.iconst 0, 1) := by decide +kernel
theorem dX5_needWeight_2 : decode cX5_needWeight 2 = .ok (.bipush 9, 2) := by decide +kernel
theorem dX5_needWeight_4 : decode cX5_needWeight 4 = .ok (.invokestatic 177, 3) := by decide +kernel
theorem dX5_needWeight_7 : decode cX5_needWeight 7 = .ok (.ifCond .ne 11, 3) := by decide +kernel
theorem dX5_needWeight_10 : decode cX5_needWeight 10 = .ok (.new 252, 3) := by decide +kernel
theorem dX5_needWeight_13 : decode cX5_needWeight 13 = .ok (.dup, 1) := by decide +kernel
theorem dX5_needWeight_14 : decode cX5_needWeight 14 = .ok (.invokespecial 254, 3) := by decide +kernel
theorem dX5_needWeight_17 : decode cX5_needWeight 17 = .ok (.athrow, 1) := by decide +kernel
theorem dX5_needWeight_18 : decode cX5_needWeight 18 = .ok (.return_, 1) := by decide +kernel
theorem dX5_needSlot_0 : decode cX5_needSlot 0 = .ok (.iload_n 1, 1) := by decide +kernel
theorem dX5_needSlot_1 : decode cX5_needSlot 1 = .ok (.iconst 0, 1) := by decide +kernel
theorem dX5_needSlot_2 : decode cX5_needSlot 2 = .ok (.iconst 1, 1) := by decide +kernel
theorem dX5_needSlot_3 : decode cX5_needSlot 3 = .ok (.invokestatic 177, 3) := by decide +kernel
theorem dX5_needSlot_6 : decode cX5_needSlot 6 = .ok (.ifCond .ne 11, 3) := by decide +kernel
theorem dX5_needSlot_9 : decode cX5_needSlot 9 = .ok (.new 252, 3) := by decide +kernel
theorem dX5_needSlot_12 : decode cX5_needSlot 12 = .ok (.dup, 1) := by decide +kernel
theorem dX5_needSlot_13 : decode cX5_needSlot 13 = .ok (.invokespecial 254, 3) := by decide +kernel
theorem dX5_needSlot_16 : decode cX5_needSlot 16 = .ok (.athrow, 1) := by decide +kernel
theorem dX5_needSlot_17 : decode cX5_needSlot 17 = .ok (.return_, 1) := by decide +kernel
theorem dX5_needTransposable_0 : decode cX5_needTransposable 0 = .ok (.iload_n 1, 1) := by decide +kernel
theorem dX5_needTransposable_1 : decode cX5_needTransposable 1 = .ok (.bipush (-87), 2) := by decide +kernel
theorem dX5_needTransposable_3 : decode cX5_needTransposable 3 = .ok (.bipush 87, 2) := by decide +kernel
theorem dX5_needTransposable_5 : decode cX5_needTransposable 5 = .ok (.invokestatic 177, 3) := by decide +kernel
theorem dX5_needTransposable_8 : decode cX5_needTransposable 8 = .ok (.ifCond .eq 14, 3) := by decide +kernel
theorem dX5_needTransposable_11 : decode cX5_needTransposable 11 = .ok (.aload_n 0, 1) := by decide +kernel
theorem dX5_needTransposable_12 : decode cX5_needTransposable 12 = .ok (.getfield 10, 3) := by decide +kernel
theorem dX5_needTransposable_15 : decode cX5_needTransposable 15 = .ok (.iload_n 1, 1) := by decide +kernel
theorem dX5_needTransposable_16 : decode cX5_needTransposable 16 = .ok (.invokevirtual 245, 3) := by decide +kernel
theorem dX5_needTransposable_19 : decode cX5_needTransposable 19 = .ok (.ifCond .ne 11, 3) := by decide +kernel
theorem dX5_needTransposable_22 : decode cX5_needTransposable 22 = .ok (.new 121, 3) := by decide +kernel
theorem dX5_needTransposable_25 : decode cX5_needTransposable 25 = .ok (.dup, 1) := by decide +kernel
theorem dX5_needTransposable_26 : decode cX5_needTransposable 26 = .ok (.invokespecial 123, 3) := by decide +kernel
theorem dX5_needTransposable_29 : decode cX5_needTransposable 29 = .ok (.athrow, 1) := by decide +kernel
theorem dX5_needTransposable_30 : decode cX5_needTransposable 30 = .ok (.return_, 1) := by decide +kernel
theorem dX5_needFingering_0 : decode cX5_needFingering 0 = .ok (.aload_n 0, 1) := by decide +kernel
theorem dX5_needFingering_1 : decode cX5_needFingering 1 = .ok (.getfield 22, 3) := by decide +kernel
theorem dX5_needFingering_4 : decode cX5_needFingering 4 = .ok (.aload_n 0, 1) := by decide +kernel
theorem dX5_needFingering_5 : decode cX5_needFingering 5 = .ok (.getfield 10, 3) := by decide +kernel
theorem dX5_needFingering_8 : decode cX5_needFingering 8 = .ok (.invokevirtual 136, 3) := by decide +kernel
theorem dX5_needFingering_11 : decode cX5_needFingering 11 = .ok (.aload_n 0, 1) := by decide +kernel
theorem dX5_needFingering_12 : decode cX5_needFingering 12 = .ok (.getfield 22, 3) := by decide +kernel
theorem dX5_needFingering_15 : decode cX5_needFingering 15 = .ok (.getfield 185, 3) := by decide +kernel
theorem dX5_needFingering_18 : decode cX5_needFingering 18 = .ok (.iconst (-1), 1) := by decide +kernel
theorem dX5_needFingering_19 : decode cX5_needFingering 19 = .ok (.if_icmp .ne 11, 3) := by decide +kernel
theorem dX5_needFingering_22 : decode cX5_needFingering 22 = .ok (.new 300, 3) := by decide +kernel
theorem dX5_needFingering_25 : decode cX5_needFingering 25 = .ok (.dup, 1) := by decide +kernel
theorem dX5_needFingering_26 : decode cX5_needFingering 26 = .ok (.invokespecial 302, 3) := by decide +kernel
theorem dX5_needFingering_29 : decode cX5_needFingering 29 = .ok (.athrow, 1) := by decide +kernel
theorem dX5_needFingering_30 : decode cX5_needFingering 30 = .ok (.return_, 1) := by decide +kernel
