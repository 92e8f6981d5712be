theorem dX5_remember_0 : decode cX5_remember 0 = .ok (.aload_n 0, 1) := by decide +kernel
theorem dX5_remember_1 : decode cX5_remember 1 = .ok (.getfield 62, 3) := by decide +kernel
theorem dX5_remember_4 : decode cX5_remember 4 = .ok (.bipush 8, 2) := by decide +kernel
theorem dX5_remember_6 : decode cX5_remember 6 = .ok (.if_icmp .ne 26, 3) := by decide +kernel
theorem dX5_remember_9 : decode cX5_remember 9 = .ok (.aload_n 0, 1) := by decide +kernel
theorem dX5_remember_10 : decode cX5_remember 10 = .ok (.aload_n 0, 1) := by decide +kernel
theorem dX5_remember_11 : decode cX5_remember 11 = .ok (.getfield 59, 3) := by decide +kernel
theorem dX5_remember_14 : decode cX5_remember 14 = .ok (.iconst 1, 1) := by decide +kernel
theorem dX5_remember_15 : decode cX5_remember 15 = .ok (.iadd, 1) := by decide +kernel
theorem dX5_remember_16 : decode cX5_remember 16 = .ok (.bipush 8, 2) := by decide +kernel
theorem dX5_remember_18 : decode cX5_remember 18 = .ok (.irem, 1) := by decide +kernel
theorem dX5_remember_19 : decode cX5_remember 19 = .ok (.putfield 59, 3) := by decide +kernel
theorem dX5_remember_22 : decode cX5_remember 22 = .ok (.aload_n 0, 1) := by decide +kernel
theorem dX5_remember_23 : decode cX5_remember 23 = .ok (.dup, 1) := by decide +kernel
theorem dX5_remember_24 : decode cX5_remember 24 = .ok (.getfield 62, 3) := by decide +kernel
theorem dX5_remember_27 : decode cX5_remember 27 = .ok (.iconst 1, 1) := by decide +kernel
theorem dX5_remember_28 : decode cX5_remember 28 = .ok (.isub, 1) := by decide +kernel
theorem dX5_remember_29 : decode cX5_remember 29 = .ok (.putfield 62, 3) := by decide +kernel
theorem dX5_remember_32 : decode cX5_remember 32 = .ok (.aload_n 0, 1) := by decide +kernel
theorem dX5_remember_33 : decode cX5_remember 33 = .ok (.getfield 55, 3) := by decide +kernel
theorem dX5_remember_36 : decode cX5_remember 36 = .ok (.aload_n 0, 1) := by decide +kernel
theorem dX5_remember_37 : decode cX5_remember 37 = .ok (.getfield 59, 3) := by decide +kernel
theorem dX5_remember_40 : decode cX5_remember 40 = .ok (.aload_n 0, 1) := by decide +kernel
theorem dX5_remember_41 : decode cX5_remember 41 = .ok (.getfield 62, 3) := by decide +kernel
theorem dX5_remember_44 : decode cX5_remember 44 = .ok (.iadd, 1) := by decide +kernel
theorem dX5_remember_45 : decode cX5_remember 45 = .ok (.bipush 8, 2) := by decide +kernel
theorem dX5_remember_47 : decode cX5_remember 47 = .ok (.irem, 1) := by decide +kernel
theorem dX5_remember_48 : decode cX5_remember 48 = .ok (.aload_n 0, 1) := by decide +kernel
theorem dX5_remember_49 : decode cX5_remember 49 = .ok (.getfield 10, 3) := by decide +kernel
theorem dX5_remember_52 : decode cX5_remember 52 = .ok (.invokevirtual 288, 3) := by decide +kernel
theorem dX5_remember_55 : decode cX5_remember 55 = .ok (.aload_n 0, 1) := by decide +kernel
theorem dX5_remember_56 : decode cX5_remember 56 = .ok (.dup, 1) := by decide +kernel
theorem dX5_remember_57 : decode cX5_remember 57 = .ok (.getfield 62, 3) := by decide +kernel
theorem dX5_remember_60 : decode cX5_remember 60 = .ok (.iconst 1, 1) := by decide +kernel
theorem dX5_remember_61 : decode cX5_remember 61 = .ok (.iadd, 1) := by decide +kernel
theorem dX5_remember_62 : decode cX5_remember 62 = .ok (.putfield 62, 3) := by decide +kernel
theorem dX5_remember_65 : decode cX5_remember 65 = .ok (.aload_n 0, 1) := by decide +kernel
theorem dX5_remember_66 : decode cX5_remember 66 = .ok (.getfield 22, 3) := by decide +kernel
theorem dX5_remember_69 : decode cX5_remember 69 = .ok (.invokevirtual 236, 3) := by decide +kernel
theorem dX5_remember_72 : decode cX5_remember 72 = .ok (.return_, 1) := by decide +kernel
theorem dX5_toldEventCost_0 : decode cX5_toldEventCost 0 = .ok (.aload_n 0, 1) := by decide +kernel
theorem dX5_toldEventCost_1 : decode cX5_toldEventCost 1 = .ok (.getfield 10, 3) := by decide +kernel
theorem dX5_toldEventCost_4 : decode cX5_toldEventCost 4 = .ok (.iload_n 1, 1) := by decide +kernel
theorem dX5_toldEventCost_5 : decode cX5_toldEventCost 5 = .ok (.aload_n 0, 1) := by decide +kernel
theorem dX5_toldEventCost_6 : decode cX5_toldEventCost 6 = .ok (.getfield 41, 3) := by decide +kernel
theorem dX5_toldEventCost_9 : decode cX5_toldEventCost 9 = .ok (.iload_n 1, 1) := by decide +kernel
theorem dX5_toldEventCost_10 : decode cX5_toldEventCost 10 = .ok (.iconst 0, 1) := by decide +kernel
theorem dX5_toldEventCost_11 : decode cX5_toldEventCost 11 = .ok (.invokestatic 153, 3) := by decide +kernel
theorem dX5_toldEventCost_14 : decode cX5_toldEventCost 14 = .ok (.iconst 0, 1) := by decide +kernel
theorem dX5_toldEventCost_15 : decode cX5_toldEventCost 15 = .ok (.invokevirtual 303, 3) := by decide +kernel
theorem dX5_toldEventCost_18 : decode cX5_toldEventCost 18 = .ok (.ireturn, 1) := by decide +kernel
theorem dX5_toldPassageCost_0 : decode cX5_toldPassageCost 0 = .ok (.iload_n 1, 1) := by decide +kernel
theorem dX5_toldPassageCost_1 : decode cX5_toldPassageCost 1 = .ok (.ifCond .ne 5, 3) := by decide +kernel
theorem dX5_toldPassageCost_4 : decode cX5_toldPassageCost 4 = .ok (.iconst 0, 1) := by decide +kernel
theorem dX5_toldPassageCost_5 : decode cX5_toldPassageCost 5 = .ok (.ireturn, 1) := by decide +kernel
theorem dX5_toldPassageCost_6 : decode cX5_toldPassageCost 6 = .ok (.aload_n 0, 1) := by decide +kernel
theorem dX5_toldPassageCost_7 : decode cX5_toldPassageCost 7 = .ok (.getfield 10, 3) := by decide +kernel
theorem dX5_toldPassageCost_10 : decode cX5_toldPassageCost 10 = .ok (.getfield 133, 3) := by decide +kernel
theorem dX5_toldPassageCost_13 : decode cX5_toldPassageCost 13 = .ok (.iload_n 1, 1) := by decide +kernel
theorem dX5_toldPassageCost_14 : decode cX5_toldPassageCost 14 = .ok (.iconst 1, 1) := by decide +kernel
theorem dX5_toldPassageCost_15 : decode cX5_toldPassageCost 15 = .ok (.isub, 1) := by decide +kernel
theorem dX5_toldPassageCost_16 : decode cX5_toldPassageCost 16 = .ok (.invokevirtual 130, 3) := by decide +kernel
theorem dX5_toldPassageCost_19 : decode cX5_toldPassageCost 19 = .ok (.istore_n 2, 1) := by decide +kernel
theorem dX5_toldPassageCost_20 : decode cX5_toldPassageCost 20 = .ok (.aload_n 0, 1) := by decide +kernel
theorem dX5_toldPassageCost_21 : decode cX5_toldPassageCost 21 = .ok (.getfield 10, 3) := by decide +kernel
theorem dX5_toldPassageCost_24 : decode cX5_toldPassageCost 24 = .ok (.iload_n 1, 1) := by decide +kernel
theorem dX5_toldPassageCost_25 : decode cX5_toldPassageCost 25 = .ok (.iconst 1, 1) := by decide +kernel
theorem dX5_toldPassageCost_26 : decode cX5_toldPassageCost 26 = .ok (.isub, 1) := by decide +kernel
theorem dX5_toldPassageCost_27 : decode cX5_toldPassageCost 27 = .ok (.iload_n 2, 1) := by decide +kernel
theorem dX5_toldPassageCost_28 : decode cX5_toldPassageCost 28 = .ok (.aload_n 0, 1) := by decide +kernel
theorem dX5_toldPassageCost_29 : decode cX5_toldPassageCost 29 = .ok (.getfield 41, 3) := by decide +kernel
theorem dX5_toldPassageCost_32 : decode cX5_toldPassageCost 32 = .ok (.iload_n 1, 1) := by decide +kernel
theorem dX5_toldPassageCost_33 : decode cX5_toldPassageCost 33 = .ok (.iconst 1, 1) := by decide +kernel
theorem dX5_toldPassageCost_34 : decode cX5_toldPassageCost 34 = .ok (.isub, 1) := by decide +kernel
theorem dX5_toldPassageCost_35 : decode cX5_toldPassageCost 35 = .ok (.iconst 0, 1) := by decide +kernel
theorem dX5_toldPassageCost_36 : decode cX5_toldPassageCost 36 = .ok (.invokestatic 153, 3) := by decide +kernel
theorem dX5_toldPassageCost_39 : decode cX5_toldPassageCost 39 = .ok (.iload_n 1, 1) := by decide +kernel
theorem dX5_toldPassageCost_40 : decode cX5_toldPassageCost 40 = .ok (.iconst 0, 1) := by decide +kernel
theorem dX5_toldPassageCost_41 : decode cX5_toldPassageCost 41 = .ok (.invokestatic 153, 3) := by decide +kernel
theorem dX5_toldPassageCost_44 : decode cX5_toldPassageCost 44 = .ok (.invokevirtual 307, 3) := by decide +kernel
theorem dX5_toldPassageCost_47 : decode cX5_toldPassageCost 47 = .ok (.ireturn, 1) := by decide +kernel
theorem dX5_write_0 : decode cX5_write 0 = .ok (.aload_n 0, 1) := by decide +kernel
theorem dX5_write_1 : decode cX5_write 1 = .ok (.getfield 45, 3) := by decide +kernel
theorem dX5_write_4 : decode cX5_write 4 = .ok (.aload_n 0, 1) := by decide +kernel
theorem dX5_write_5 : decode cX5_write 5 = .ok (.getfield 48, 3) := by decide +kernel
theorem dX5_write_8 : decode cX5_write 8 = .ok (.iload_n 1, 1) := by decide +kernel
theorem dX5_write_9 : decode cX5_write 9 = .ok (.invokevirtual 265, 3) := by decide +kernel
theorem dX5_write_12 : decode cX5_write 12 = .ok (.aload_n 0, 1) := by decide +kernel
theorem dX5_write_13 : decode cX5_write 13 = .ok (.dup, 1) := by decide +kernel
theorem dX5_write_14 : decode cX5_write 14 = .ok (.getfield 48, 3) := by decide +kernel
theorem dX5_write_17 : decode cX5_write 17 = .ok (.iconst 1, 1) := by decide +kernel
theorem dX5_write_18 : decode cX5_write 18 = .ok (.iadd, 1) := by decide +kernel
theorem dX5_write_19 : decode cX5_write 19 = .ok (.putfield 48, 3) := by decide +kernel
theorem dX5_write_22 : decode cX5_write 22 = .ok (.return_, 1) := by decide +kernel
theorem dX5_isWithin_0 : decode cX5_isWithin 0 = .ok (.iload_n 0, 1) := by decide +kernel
theorem dX5_isWithin_1 : decode cX5_isWithin 1 = .ok (.iload_n 1, 1) := by decide +kernel
theorem dX5_isWithin_2 : decode cX5_isWithin 2 = .ok (.if_icmp .lt 12, 3) := by decide +kernel
theorem dX5_isWithin_5 : decode cX5_isWithin 5 = .ok (.iload_n 0, 1) := by decide +kernel
theorem dX5_isWithin_6 : decode cX5_isWithin 6 = .ok (.iload_n 2, 1) := by decide +kernel
theorem dX5_isWithin_7 : decode cX5_isWithin 7 = .ok (.if_icmp .gt 7, 3) := by decide +kernel
theorem dX5_isWithin_10 : decode cX5_isWithin 10 = .ok (.iconst 1, 1) := by decide +kernel
theorem dX5_isWithin_11 : decode cX5_isWithin 11 = .ok (.goto 4, 3) := by decide +kernel
theorem dX5_isWithin_14 : decode cX5_isWithin 14 = .ok (.iconst 0, 1) := by decide +kernel
theorem dX5_isWithin_15 : decode cX5_isWithin 15 = .ok (.ireturn, 1) := by decide +kernel
theorem dX5_areKeys_0 : decode cX5_areKeys 0 = .ok (.iload_n 0, 1) := by decide +kernel
theorem dX5_areKeys_1 : decode cX5_areKeys 1 = .ok (.bipush 21, 2) := by decide +kernel
theorem dX5_areKeys_3 : decode cX5_areKeys 3 = .ok (.bipush 108, 2) := by decide +kernel
theorem dX5_areKeys_5 : decode cX5_areKeys 5 = .ok (.invokestatic 177, 3) := by decide +kernel
theorem dX5_areKeys_8 : decode cX5_areKeys 8 = .ok (.ifCond .ne 5, 3) := by decide +kernel
theorem dX5_areKeys_11 : decode cX5_areKeys 11 = .ok (.iconst 0, 1) := by decide +kernel
theorem dX5_areKeys_12 : decode cX5_areKeys 12 = .ok (.ireturn, 1) := by decide +kernel
theorem dX5_areKeys_13 : decode cX5_areKeys 13 = .ok (.iload_n 1, 1) := by decide +kernel
theorem dX5_areKeys_14 : decode cX5_areKeys 14 = .ok (.ifCond .ne 13, 3) := by decide +kernel
theorem dX5_areKeys_17 : decode cX5_areKeys 17 = .ok (.iload_n 2, 1) := by decide +kernel
theorem dX5_areKeys_18 : decode cX5_areKeys 18 = .ok (.ifCond .ne 7, 3) := by decide +kernel
theorem dX5_areKeys_21 : decode cX5_areKeys 21 = .ok (.iconst 1, 1) := by decide +kernel
theorem dX5_areKeys_22 : decode cX5_areKeys 22 = .ok (.goto 4, 3) := by decide +kernel
theorem dX5_areKeys_25 : decode cX5_areKeys 25 = .ok (.iconst 0, 1) := by decide +kernel
theorem dX5_areKeys_26 : decode cX5_areKeys 26 = .ok (.ireturn, 1) := by decide +kernel
theorem dX5_areKeys_27 : decode cX5_areKeys 27 = .ok (.iload_n 1, 1) := by decide +kernel
theorem dX5_areKeys_28 : decode cX5_areKeys 28 = .ok (.iload_n 0, 1) := by decide +kernel
theorem dX5_areKeys_29 : decode cX5_areKeys 29 = .ok (.iconst 1, 1) := by decide +kernel
theorem dX5_areKeys_30 : decode cX5_areKeys 30 = .ok (.iadd, 1) := by decide +kernel
theorem dX5_areKeys_31 : decode cX5_areKeys 31 = .ok (.bipush 108, 2) := by decide +kernel
theorem dX5_areKeys_33 : decode cX5_areKeys 33 = .ok (.invokestatic 177, 3) := by decide +kernel
theorem dX5_areKeys_36 : decode cX5_areKeys 36 = .ok (.ifCond .eq 23, 3) := by decide +kernel
theorem dX5_areKeys_39 : decode cX5_areKeys 39 = .ok (.iload_n 2, 1) := by decide +kernel
theorem dX5_areKeys_40 : decode cX5_areKeys 40 = .ok (.ifCond .eq 15, 3) := by decide +kernel
theorem dX5_areKeys_43 : decode cX5_areKeys 43 = .ok (.iload_n 2, 1) := by decide +kernel
theorem dX5_areKeys_44 : decode cX5_areKeys 44 = .ok (.iload_n 1, 1) := by decide +kernel
theorem dX5_areKeys_45 : decode cX5_areKeys 45 = .ok (.iconst 1, 1) := by decide +kernel
theorem dX5_areKeys_46 : decode cX5_areKeys 46 = .ok (.iadd, 1) := by decide +kernel
theorem dX5_areKeys_47 : decode cX5_areKeys 47 = .ok (.bipush 108, 2) := by decide +kernel
theorem dX5_areKeys_49 : decode cX5_areKeys 49 = .ok (.invokestatic 177, 3) := by decide +kernel
theorem dX5_areKeys_52 : decode cX5_areKeys 52 = .ok (.ifCond .eq 7, 3) := by decide +kernel
theorem dX5_areKeys_55 : decode cX5_areKeys 55 = .ok (.iconst 1, 1) := by decide +kernel
theorem dX5_areKeys_56 : decode cX5_areKeys 56 = .ok (.goto 4, 3) := by decide +kernel
theorem dX5_areKeys_59 : decode cX5_areKeys 59 = .ok (.iconst 0, 1) := by decide +kernel
theorem dX5_areKeys_60 : decode cX5_areKeys 60 = .ok (.ireturn, 1) := by decide +kernel
theorem dX5_isBlack_0 : decode cX5_isBlack 0 = .ok (.iload_n 0, 1) := by decide +kernel
theorem dX5_isBlack_1 : decode cX5_isBlack 1 = .ok (.bipush 12, 2) := by decide +kernel
theorem dX5_isBlack_3 : decode cX5_isBlack 3 = .ok (.irem, 1) := by decide +kernel
theorem dX5_isBlack_4 : decode cX5_isBlack 4 = .ok (.istore_n 1, 1) := by decide +kernel
theorem dX5_isBlack_5 : decode cX5_isBlack 5 = .ok (.iload_n 1, 1) := by decide +kernel
theorem dX5_isBlack_6 : decode cX5_isBlack 6 = .ok (.iconst 1, 1) := by decide +kernel
theorem dX5_isBlack_7 : decode cX5_isBlack 7 = .ok (.if_icmp .eq 26, 3) := by decide +kernel
theorem dX5_isBlack_10 : decode cX5_isBlack 10 = .ok (.iload_n 1, 1) := by decide +kernel
theorem dX5_isBlack_11 : decode cX5_isBlack 11 = .ok (.iconst 3, 1) := by decide +kernel
theorem dX5_isBlack_12 : decode cX5_isBlack 12 = .ok (.if_icmp .eq 21, 3) := by decide +kernel
theorem dX5_isBlack_15 : decode cX5_isBlack 15 = .ok (.iload_n 1, 1) := by decide +kernel
theorem dX5_isBlack_16 : decode cX5_isBlack 16 = .ok (.bipush 6, 2) := by decide +kernel
theorem dX5_isBlack_18 : decode cX5_isBlack 18 = .ok (.if_icmp .eq 15, 3) := by decide +kernel
theorem dX5_isBlack_21 : decode cX5_isBlack 21 = .ok (.iload_n 1, 1) := by decide +kernel
theorem dX5_isBlack_22 : decode cX5_isBlack 22 = .ok (.bipush 8, 2) := by decide +kernel
theorem dX5_isBlack_24 : decode cX5_isBlack 24 = .ok (.if_icmp .eq 9, 3) := by decide +kernel
theorem dX5_isBlack_27 : decode cX5_isBlack 27 = .ok (.iload_n 1, 1) := by decide +kernel
theorem dX5_isBlack_28 : decode cX5_isBlack 28 = .ok (.bipush 10, 2) := by decide +kernel
theorem dX5_isBlack_30 : decode cX5_isBlack 30 = .ok (.if_icmp .ne 7, 3) := by decide +kernel
theorem dX5_isBlack_33 : decode cX5_isBlack 33 = .ok (.iconst 1, 1) := by decide +kernel
theorem dX5_isBlack_34 : decode cX5_isBlack 34 = .ok (.goto 4, 3) := by decide +kernel
theorem dX5_isBlack_37 : decode cX5_isBlack 37 = .ok (.iconst 0, 1) := by decide +kernel
theorem dX5_isBlack_38 : decode cX5_isBlack 38 = .ok (.ireturn, 1) := by decide +kernel
theorem dX5_bitOf_0 : decode cX5_bitOf 0 = .ok (.iload_n 0, 1) := by decide +kernel
theorem dX5_bitOf_1 : decode cX5_bitOf 1 = .ok (.iconst 1, 1) := by decide +kernel
theorem dX5_bitOf_2 : decode cX5_bitOf 2 = .ok (.if_icmp .lt 16, 3) := by decide +kernel
theorem dX5_bitOf_5 : decode cX5_bitOf 5 = .ok (.iload_n 0, 1) := by decide +kernel
theorem dX5_bitOf_6 : decode cX5_bitOf 6 = .ok (.iconst 5, 1) := by decide +kernel
theorem dX5_bitOf_7 : decode cX5_bitOf 7 = .ok (.if_icmp .gt 11, 3) := by decide +kernel
theorem dX5_bitOf_10 : decode cX5_bitOf 10 = .ok (.iconst 1, 1) := by decide +kernel
theorem dX5_bitOf_11 : decode cX5_bitOf 11 = .ok (.iload_n 0, 1) := by decide +kernel
theorem dX5_bitOf_12 : decode cX5_bitOf 12 = .ok (.iconst 1, 1) := by decide +kernel
theorem dX5_bitOf_13 : decode cX5_bitOf 13 = .ok (.isub, 1) := by decide +kernel
theorem dX5_bitOf_14 : decode cX5_bitOf 14 = .ok (.ishl, 1) := by decide +kernel
theorem dX5_bitOf_15 : decode cX5_bitOf 15 = .ok (.goto 4, 3) := by decide +kernel
theorem dX5_bitOf_18 : decode cX5_bitOf 18 = .ok (.iconst 0, 1) := by decide +kernel
theorem dX5_bitOf_19 : decode cX5_bitOf 19 = .ok (.ireturn, 1) := by decide +kernel
theorem dX5_placeOf_0 : decode cX5_placeOf 0 = .ok (.iload_n 0, 1) := by decide +kernel
theorem dX5_placeOf_1 : decode cX5_placeOf 1 = .ok (.iconst 3, 1) := by decide +kernel
theorem dX5_placeOf_2 : decode cX5_placeOf 2 = .ok (.imul, 1) := by decide +kernel
theorem dX5_placeOf_3 : decode cX5_placeOf 3 = .ok (.iload_n 1, 1) := by decide +kernel
theorem dX5_placeOf_4 : decode cX5_placeOf 4 = .ok (.iadd, 1) := by decide +kernel
theorem dX5_placeOf_5 : decode cX5_placeOf 5 = .ok (.ireturn, 1) := by decide +kernel
theorem dX5_pairOf_0 : decode cX5_pairOf 0 = .ok (.iload_n 0, 1) := by decide +kernel
theorem dX5_pairOf_1 : decode cX5_pairOf 1 = .ok (.iconst 1, 1) := by decide +kernel
theorem dX5_pairOf_2 : decode cX5_pairOf 2 = .ok (.isub, 1) := by decide +kernel
theorem dX5_pairOf_3 : decode cX5_pairOf 3 = .ok (.iconst 5, 1) := by decide +kernel
theorem dX5_pairOf_4 : decode cX5_pairOf 4 = .ok (.imul, 1) := by decide +kernel
theorem dX5_pairOf_5 : decode cX5_pairOf 5 = .ok (.iload_n 1, 1) := by decide +kernel
theorem dX5_pairOf_6 : decode cX5_pairOf 6 = .ok (.iadd, 1) := by decide +kernel
theorem dX5_pairOf_7 : decode cX5_pairOf 7 = .ok (.iconst 1, 1) := by decide +kernel
theorem dX5_pairOf_8 : decode cX5_pairOf 8 = .ok (.isub, 1) := by decide +kernel
theorem dX5_pairOf_9 : decode cX5_pairOf 9 = .ok (.ireturn, 1) := by decide +kernel
theorem dX5_sumOf_0 : decode cX5_sumOf 0 = .ok (.iload_n 0, 1) := by decide +kernel
theorem dX5_sumOf_1 : decode cX5_sumOf 1 = .ok (.iconst (-1), 1) := by decide +kernel
theorem dX5_sumOf_2 : decode cX5_sumOf 2 = .ok (.if_icmp .eq 8, 3) := by decide +kernel
theorem dX5_sumOf_5 : decode cX5_sumOf 5 = .ok (.iload_n 1, 1) := by decide +kernel
theorem dX5_sumOf_6 : decode cX5_sumOf 6 = .ok (.iconst (-1), 1) := by decide +kernel
theorem dX5_sumOf_7 : decode cX5_sumOf 7 = .ok (.if_icmp .ne 7, 3) := by decide +kernel
theorem dX5_sumOf_10 : decode cX5_sumOf 10 = .ok (.iconst (-1), 1) := by decide +kernel
theorem dX5_sumOf_11 : decode cX5_sumOf 11 = .ok (.goto 6, 3) := by decide +kernel
theorem dX5_sumOf_14 : decode cX5_sumOf 14 = .ok (.iload_n 0, 1) := by decide +kernel
theorem dX5_sumOf_15 : decode cX5_sumOf 15 = .ok (.iload_n 1, 1) := by decide +kernel
theorem dX5_sumOf_16 : decode cX5_sumOf 16 = .ok (.iadd, 1) := by decide +kernel
theorem dX5_sumOf_17 : decode cX5_sumOf 17 = .ok (.ireturn, 1) := by decide +kernel
theorem dX5_lesserOf_0 : decode cX5_lesserOf 0 = .ok (.iload_n 0, 1) := by decide +kernel
theorem dX5_lesserOf_1 : decode cX5_lesserOf 1 = .ok (.iconst (-1), 1) := by decide +kernel
theorem dX5_lesserOf_2 : decode cX5_lesserOf 2 = .ok (.if_icmp .eq 8, 3) := by decide +kernel
theorem dX5_lesserOf_5 : decode cX5_lesserOf 5 = .ok (.iload_n 1, 1) := by decide +kernel
theorem dX5_lesserOf_6 : decode cX5_lesserOf 6 = .ok (.iconst (-1), 1) := by decide +kernel
theorem dX5_lesserOf_7 : decode cX5_lesserOf 7 = .ok (.if_icmp .ne 14, 3) := by decide +kernel
theorem dX5_lesserOf_10 : decode cX5_lesserOf 10 = .ok (.iload_n 0, 1) := by decide +kernel
theorem dX5_lesserOf_11 : decode cX5_lesserOf 11 = .ok (.iconst (-1), 1) := by decide +kernel
theorem dX5_lesserOf_12 : decode cX5_lesserOf 12 = .ok (.if_icmp .ne 7, 3) := by decide +kernel
theorem dX5_lesserOf_15 : decode cX5_lesserOf 15 = .ok (.iload_n 1, 1) := by decide +kernel
theorem dX5_lesserOf_16 : decode cX5_lesserOf 16 = .ok (.goto 4, 3) := by decide +kernel
theorem dX5_lesserOf_19 : decode cX5_lesserOf 19 = .ok (.iload_n 0, 1) := by decide +kernel
theorem dX5_lesserOf_20 : decode cX5_lesserOf 20 = .ok (.ireturn, 1) := by decide +kernel
theorem dX5_lesserOf_21 : decode cX5_lesserOf 21 = .ok (.iload_n 0, 1) := by decide +kernel
theorem dX5_lesserOf_22 : decode cX5_lesserOf 22 = .ok (.iload_n 1, 1) := by decide +kernel
theorem dX5_lesserOf_23 : decode cX5_lesserOf 23 = .ok (.invokestatic 311, 3) := by decide +kernel
theorem dX5_lesserOf_26 : decode cX5_lesserOf 26 = .ok (.ireturn, 1) := by decide +kernel
theorem dX5_bytesIn_0 : decode cX5_bytesIn 0 = .ok (.iconst 0, 1) := by decide +kernel
theorem dX5_bytesIn_1 : decode cX5_bytesIn 1 = .ok (.istore_n 1, 1) := by decide +kernel
theorem dX5_bytesIn_2 : decode cX5_bytesIn 2 = .ok (.bipush 24, 2) := by decide +kernel
theorem dX5_bytesIn_4 : decode cX5_bytesIn 4 = .ok (.istore_n 2, 1) := by decide +kernel
theorem dX5_bytesIn_5 : decode cX5_bytesIn 5 = .ok (.iload_n 2, 1) := by decide +kernel
theorem dX5_bytesIn_6 : decode cX5_bytesIn 6 = .ok (.ifCond .lt 27, 3) := by decide +kernel
theorem dX5_bytesIn_9 : decode cX5_bytesIn 9 = .ok (.iload_n 1, 1) := by decide +kernel
theorem dX5_bytesIn_10 : decode cX5_bytesIn 10 = .ok (.iload_n 0, 1) := by decide +kernel
theorem dX5_bytesIn_11 : decode cX5_bytesIn 11 = .ok (.iload_n 2, 1) := by decide +kernel
theorem dX5_bytesIn_12 : decode cX5_bytesIn 12 = .ok (.iushr, 1) := by decide +kernel
theorem dX5_bytesIn_13 : decode cX5_bytesIn 13 = .ok (.sipush 255, 3) := by decide +kernel
theorem dX5_bytesIn_16 : decode cX5_bytesIn 16 = .ok (.iand, 1) := by decide +kernel
theorem dX5_bytesIn_17 : decode cX5_bytesIn 17 = .ok (.ifCond .eq 7, 3) := by decide +kernel
theorem dX5_bytesIn_20 : decode cX5_bytesIn 20 = .ok (.iconst 1, 1) := by decide +kernel
theorem dX5_bytesIn_21 : decode cX5_bytesIn 21 = .ok (.goto 4, 3) := by decide +kernel
theorem dX5_bytesIn_24 : decode cX5_bytesIn 24 = .ok (.iconst 0, 1) := by decide +kernel
theorem dX5_bytesIn_25 : decode cX5_bytesIn 25 = .ok (.iadd, 1) := by decide +kernel
theorem dX5_bytesIn_26 : decode cX5_bytesIn 26 = .ok (.istore_n 1, 1) := by decide +kernel
theorem dX5_bytesIn_27 : decode cX5_bytesIn 27 = .ok (.iinc 2 (-8), 3) := by decide +kernel
theorem dX5_bytesIn_30 : decode cX5_bytesIn 30 = .ok (.goto (-25), 3) := by decide +kernel
theorem dX5_bytesIn_33 : decode cX5_bytesIn 33 = .ok (.iload_n 1, 1) := by decide +kernel
theorem dX5_bytesIn_34 : decode cX5_bytesIn 34 = .ok (.ireturn, 1) := by decide +kernel
theorem dX6_init_0 : decode cX6_init 0 = .ok (.aload_n 0, 1) := by decide +kernel
theorem dX6_init_1 : decode cX6_init 1 = .ok (.invokespecial 1, 3) := by decide +kernel
theorem dX6_init_4 : decode cX6_init 4 = .ok (.aload_n 0, 1) := by decide +kernel
theorem dX6_init_5 : decode cX6_init 5 = .ok (.sipush 362, 3) := by decide +kernel
theorem dX6_init_8 : decode cX6_init 8 = .ok (.newarray .int, 2) := by decide +kernel
theorem dX6_init_10 : decode cX6_init 10 = .ok (.putfield 7, 3) := by decide +kernel
theorem dX6_init_13 : decode cX6_init 13 = .ok (.aload_n 0, 1) := by decide +kernel
theorem dX6_init_14 : decode cX6_init 14 = .ok (.sipush 362, 3) := by decide +kernel
theorem dX6_init_17 : decode cX6_init 17 = .ok (.newarray .int, 2) := by decide +kernel
theorem dX6_init_19 : decode cX6_init 19 = .ok (.putfield 13, 3) := by decide +kernel
theorem dX6_init_22 : decode cX6_init 22 = .ok (.aload_n 0, 1) := by decide +kernel
theorem dX6_init_23 : decode cX6_init 23 = .ok (.sipush 362, 3) := by decide +kernel
theorem dX6_init_26 : decode cX6_init 26 = .ok (.newarray .int, 2) := by decide +kernel
theorem dX6_init_28 : decode cX6_init 28 = .ok (.putfield 16, 3) := by decide +kernel
theorem dX6_init_31 : decode cX6_init 31 = .ok (.aload_n 0, 1) := by decide +kernel
theorem dX6_init_32 : decode cX6_init 32 = .ok (.sipush 2896, 3) := by decide +kernel
theorem dX6_init_35 : decode cX6_init 35 = .ok (.newarray .int, 2) := by decide +kernel
theorem dX6_init_37 : decode cX6_init 37 = .ok (.putfield 19, 3) := by decide +kernel
theorem dX6_init_40 : decode cX6_init 40 = .ok (.aload_n 0, 1) := by decide +kernel
theorem dX6_init_41 : decode cX6_init 41 = .ok (.sipush 724, 3) := by decide +kernel
theorem dX6_init_44 : decode cX6_init 44 = .ok (.newarray .int, 2) := by decide +kernel
theorem dX6_init_46 : decode cX6_init 46 = .ok (.putfield 22, 3) := by decide +kernel
theorem dX6_init_49 : decode cX6_init 49 = .ok (.aload_n 0, 1) := by decide +kernel
theorem dX6_init_50 : decode cX6_init 50 = .ok (.iconst 2, 1) := by decide +kernel
theorem dX6_init_51 : decode cX6_init 51 = .ok (.newarray .boolean, 2) := by decide +kernel
theorem dX6_init_53 : decode cX6_init 53 = .ok (.putfield 25, 3) := by decide +kernel
theorem dX6_init_56 : decode cX6_init 56 = .ok (.aload_n 0, 1) := by decide +kernel
theorem dX6_init_57 : decode cX6_init 57 = .ok (.sipush 600, 3) := by decide +kernel
theorem dX6_init_60 : decode cX6_init 60 = .ok (.newarray .int, 2) := by decide +kernel
theorem dX6_init_62 : decode cX6_init 62 = .ok (.putfield 29, 3) := by decide +kernel
theorem dX6_init_65 : decode cX6_init 65 = .ok (.aload_n 0, 1) := by decide +kernel
theorem dX6_init_66 : decode cX6_init 66 = .ok (.iconst (-1), 1) := by decide +kernel
theorem dX6_init_67 : decode cX6_init 67 = .ok (.putfield 32, 3) := by decide +kernel
theorem dX6_init_70 : decode cX6_init 70 = .ok (.aload_n 0, 1) := by decide +kernel
theorem dX6_init_71 : decode cX6_init 71 = .ok (.iconst 3, 1) := by decide +kernel
theorem dX6_init_72 : decode cX6_init 72 = .ok (.newarray .int, 2) := by decide +kernel
theorem dX6_init_74 : decode cX6_init 74 = .ok (.putfield 36, 3) := by decide +kernel
theorem dX6_init_77 : decode cX6_init 77 = .ok (.aload_n 0, 1) := by decide +kernel
theorem dX6_init_78 : decode cX6_init 78 = .ok (.sipush 400, 3) := by decide +kernel
theorem dX6_init_81 : decode cX6_init 81 = .ok (.newarray .int, 2) := by decide +kernel
theorem dX6_init_83 : decode cX6_init 83 = .ok (.putfield 39, 3) := by decide +kernel
theorem dX6_init_86 : decode cX6_init 86 = .ok (.aload_n 0, 1) := by decide +kernel
theorem dX6_init_87 : decode cX6_init 87 = .ok (.sipush 400, 3) := by decide +kernel
theorem dX6_init_90 : decode cX6_init 90 = .ok (.newarray .int, 2) := by decide +kernel
theorem dX6_init_92 : decode cX6_init 92 = .ok (.putfield 42, 3) := by decide +kernel
theorem dX6_init_95 : decode cX6_init 95 = .ok (.aload_n 0, 1) := by decide +kernel
theorem dX6_init_96 : decode cX6_init 96 = .ok (.bipush 40, 2) := by decide +kernel
theorem dX6_init_98 : decode cX6_init 98 = .ok (.newarray .int, 2) := by decide +kernel
theorem dX6_init_100 : decode cX6_init 100 = .ok (.putfield 45, 3) := by decide +kernel
theorem dX6_init_103 : decode cX6_init 103 = .ok (.aload_n 0, 1) := by decide +kernel
theorem dX6_init_104 : decode cX6_init 104 = .ok (.bipush 40, 2) := by decide +kernel
theorem dX6_init_106 : decode cX6_init 106 = .ok (.newarray .int, 2) := by decide +kernel
theorem dX6_init_108 : decode cX6_init 108 = .ok (.putfield 48, 3) := by decide +kernel
theorem dX6_init_111 : decode cX6_init 111 = .ok (.aload_n 0, 1) := by decide +kernel
theorem dX6_init_112 : decode cX6_init 112 = .ok (.sipush 400, 3) := by decide +kernel
theorem dX6_init_115 : decode cX6_init 115 = .ok (.newarray .int, 2) := by decide +kernel
theorem dX6_init_117 : decode cX6_init 117 = .ok (.putfield 51, 3) := by decide +kernel
theorem dX6_init_120 : decode cX6_init 120 = .ok (.aload_n 0, 1) := by decide +kernel
theorem dX6_init_121 : decode cX6_init 121 = .ok (.sipush 400, 3) := by decide +kernel
theorem dX6_init_124 : decode cX6_init 124 = .ok (.newarray .int, 2) := by decide +kernel
theorem dX6_init_126 : decode cX6_init 126 = .ok (.putfield 54, 3) := by decide +kernel
theorem dX6_init_129 : decode cX6_init 129 = .ok (.aload_n 0, 1) := by decide +kernel
theorem dX6_init_130 : decode cX6_init 130 = .ok (.sipush 400, 3) := by decide +kernel
theorem dX6_init_133 : decode cX6_init 133 = .ok (.newarray .long, 2) := by decide +kernel
theorem dX6_init_135 : decode cX6_init 135 = .ok (.putfield 57, 3) := by decide +kernel
theorem dX6_init_138 : decode cX6_init 138 = .ok (.aload_n 0, 1) := by decide +kernel
theorem dX6_init_139 : decode cX6_init 139 = .ok (.sipush 400, 3) := by decide +kernel
theorem dX6_init_142 : decode cX6_init 142 = .ok (.newarray .long, 2) := by decide +kernel
theorem dX6_init_144 : decode cX6_init 144 = .ok (.putfield 61, 3) := by decide +kernel
theorem dX6_init_147 : decode cX6_init 147 = .ok (.aload_n 0, 1) := by decide +kernel
theorem dX6_init_148 : decode cX6_init 148 = .ok (.bipush 40, 2) := by decide +kernel
theorem dX6_init_150 : decode cX6_init 150 = .ok (.newarray .int, 2) := by decide +kernel
theorem dX6_init_152 : decode cX6_init 152 = .ok (.putfield 64, 3) := by decide +kernel
theorem dX6_init_155 : decode cX6_init 155 = .ok (.aload_n 0, 1) := by decide +kernel
theorem dX6_init_156 : decode cX6_init 156 = .ok (.sipush 250, 3) := by decide +kernel
theorem dX6_init_159 : decode cX6_init 159 = .ok (.newarray .int, 2) := by decide +kernel
theorem dX6_init_161 : decode cX6_init 161 = .ok (.putfield 67, 3) := by decide +kernel
theorem dX6_init_164 : decode cX6_init 164 = .ok (.aload_n 0, 1) := by decide +kernel
theorem dX6_init_165 : decode cX6_init 165 = .ok (.invokevirtual 70, 3) := by decide +kernel
theorem dX6_init_168 : decode cX6_init 168 = .ok (.return_, 1) := by decide +kernel
theorem dX6_putsWeights_0 : decode cX6_putsWeights 0 = .ok (.aload_n 0, 1) := by decide +kernel
theorem dX6_putsWeights_1 : decode cX6_putsWeights 1 = .ok (.getfield 7, 3) := by decide +kernel
theorem dX6_putsWeights_4 : decode cX6_putsWeights 4 = .ok (.iconst 2, 1) := by decide +kernel
theorem dX6_putsWeights_5 : decode cX6_putsWeights 5 = .ok (.aload_n 0, 1) := by decide +kernel
theorem dX6_putsWeights_6 : decode cX6_putsWeights 6 = .ok (.getfield 73, 3) := by decide +kernel
theorem dX6_putsWeights_9 : decode cX6_putsWeights 9 = .ok (.iadd, 1) := by decide +kernel
theorem dX6_putsWeights_10 : decode cX6_putsWeights 10 = .ok (.iload_n 1, 1) := by decide +kernel
theorem dX6_putsWeights_11 : decode cX6_putsWeights 11 = .ok (.iastore, 1) := by decide +kernel
theorem dX6_putsWeights_12 : decode cX6_putsWeights 12 = .ok (.aload_n 0, 1) := by decide +kernel
theorem dX6_putsWeights_13 : decode cX6_putsWeights 13 = .ok (.getfield 7, 3) := by decide +kernel
theorem dX6_putsWeights_16 : decode cX6_putsWeights 16 = .ok (.iconst 2, 1) := by decide +kernel
theorem dX6_putsWeights_17 : decode cX6_putsWeights 17 = .ok (.aload_n 0, 1) := by decide +kernel
theorem dX6_putsWeights_18 : decode cX6_putsWeights 18 = .ok (.getfield 73, 3) := by decide +kernel
theorem dX6_putsWeights_21 : decode cX6_putsWeights 21 = .ok (.iadd, 1) := by decide +kernel
theorem dX6_putsWeights_22 : decode cX6_putsWeights 22 = .ok (.iconst 1, 1) := by decide +kernel
theorem dX6_putsWeights_23 : decode cX6_putsWeights 23 = .ok (.iadd, 1) := by decide +kernel
theorem dX6_putsWeights_24 : decode cX6_putsWeights 24 = .ok (.iload_n 2, 1) := by decide +kernel
theorem dX6_putsWeights_25 : decode cX6_putsWeights 25 = .ok (.iastore, 1) := by decide +kernel
theorem dX6_putsWeights_26 : decode cX6_putsWeights 26 = .ok (.aload_n 0, 1) := by decide +kernel
theorem dX6_putsWeights_27 : decode cX6_putsWeights 27 = .ok (.getfield 7, 3) := by decide +kernel
theorem dX6_putsWeights_30 : decode cX6_putsWeights 30 = .ok (.iconst 2, 1) := by decide +kernel
theorem dX6_putsWeights_31 : decode cX6_putsWeights 31 = .ok (.aload_n 0, 1) := by decide +kernel
theorem dX6_putsWeights_32 : decode cX6_putsWeights 32 = .ok (.getfield 73, 3) := by decide +kernel
theorem dX6_putsWeights_35 : decode cX6_putsWeights 35 = .ok (.iadd, 1) := by decide +kernel
theorem dX6_putsWeights_36 : decode cX6_putsWeights 36 = .ok (.iconst 2, 1) := by decide +kernel
theorem dX6_putsWeights_37 : decode cX6_putsWeights 37 = .ok (.iadd, 1) := by decide +kernel
theorem dX6_putsWeights_38 : decode cX6_putsWeights 38 = .ok (.iload_n 3, 1) := by decide +kernel
theorem dX6_putsWeights_39 : decode cX6_putsWeights 39 = .ok (.iastore, 1) := by decide +kernel
theorem dX6_putsWeights_40 : decode cX6_putsWeights 40 = .ok (.aload_n 0, 1) := by decide +kernel
theorem dX6_putsWeights_41 : decode cX6_putsWeights 41 = .ok (.getfield 7, 3) := by decide +kernel
theorem dX6_putsWeights_44 : decode cX6_putsWeights 44 = .ok (.iconst 2, 1) := by decide +kernel
theorem dX6_putsWeights_45 : decode cX6_putsWeights 45 = .ok (.aload_n 0, 1) := by decide +kernel
theorem dX6_putsWeights_46 : decode cX6_putsWeights 46 = .ok (.getfield 73, 3) := by decide +kernel
theorem dX6_putsWeights_49 : decode cX6_putsWeights 49 = .ok (.iadd, 1) := by decide +kernel
theorem dX6_putsWeights_50 : decode cX6_putsWeights 50 = .ok (.iconst 3, 1) := by decide +kernel
theorem dX6_putsWeights_51 : decode cX6_putsWeights 51 = .ok (.iadd, 1) := by decide +kernel
theorem dX6_putsWeights_52 : decode cX6_putsWeights 52 = .ok (.iload 4, 2) := by decide +kernel
theorem dX6_putsWeights_54 : decode cX6_putsWeights 54 = .ok (.iastore, 1) := by decide +kernel
theorem dX6_putsWeights_55 : decode cX6_putsWeights 55 = .ok (.aload_n 0, 1) := by decide +kernel
theorem dX6_putsWeights_56 : decode cX6_putsWeights 56 = .ok (.getfield 7, 3) := by decide +kernel
theorem dX6_putsWeights_59 : decode cX6_putsWeights 59 = .ok (.iconst 2, 1) := by decide +kernel
theorem dX6_putsWeights_60 : decode cX6_putsWeights 60 = .ok (.aload_n 0, 1) := by decide +kernel
theorem dX6_putsWeights_61 : decode cX6_putsWeights 61 = .ok (.getfield 73, 3) := by decide +kernel
theorem dX6_putsWeights_64 : decode cX6_putsWeights 64 = .ok (.iadd, 1) := by decide +kernel
theorem dX6_putsWeights_65 : decode cX6_putsWeights 65 = .ok (.iconst 4, 1) := by decide +kernel
theorem dX6_putsWeights_66 : decode cX6_putsWeights 66 = .ok (.iadd, 1) := by decide +kernel
theorem dX6_putsWeights_67 : decode cX6_putsWeights 67 = .ok (.iload 5, 2) := by decide +kernel
theorem dX6_putsWeights_69 : decode cX6_putsWeights 69 = .ok (.iastore, 1) := by decide +kernel
theorem dX6_putsWeights_70 : decode cX6_putsWeights 70 = .ok (.return_, 1) := by decide +kernel
theorem dX6_putsSpan_0 : decode cX6_putsSpan 0 = .ok (.iload_n 1, 1) := by decide +kernel
theorem dX6_putsSpan_1 : decode cX6_putsSpan 1 = .ok (.iload_n 2, 1) := by decide +kernel
theorem dX6_putsSpan_2 : decode cX6_putsSpan 2 = .ok (.invokestatic 76, 3) := by decide +kernel
theorem dX6_putsSpan_5 : decode cX6_putsSpan 5 = .ok (.istore 6, 2) := by decide +kernel
theorem dX6_putsSpan_7 : decode cX6_putsSpan 7 = .ok (.aload_n 0, 1) := by decide +kernel
theorem dX6_putsSpan_8 : decode cX6_putsSpan 8 = .ok (.getfield 7, 3) := by decide +kernel
theorem dX6_putsSpan_11 : decode cX6_putsSpan 11 = .ok (.iload 6, 2) := by decide +kernel
theorem dX6_putsSpan_13 : decode cX6_putsSpan 13 = .ok (.iload_n 3, 1) := by decide +kernel
theorem dX6_putsSpan_14 : decode cX6_putsSpan 14 = .ok (.iastore, 1) := by decide +kernel
theorem dX6_putsSpan_15 : decode cX6_putsSpan 15 = .ok (.aload_n 0, 1) := by decide +kernel
theorem dX6_putsSpan_16 : decode cX6_putsSpan 16 = .ok (.getfield 7, 3) := by decide +kernel
theorem dX6_putsSpan_19 : decode cX6_putsSpan 19 = .ok (.iload 6, 2) := by decide +kernel
theorem dX6_putsSpan_21 : decode cX6_putsSpan 21 = .ok (.iconst 1, 1) := by decide +kernel
theorem dX6_putsSpan_22 : decode cX6_putsSpan 22 = .ok (.iadd, 1) := by decide +kernel
theorem dX6_putsSpan_23 : decode cX6_putsSpan 23 = .ok (.iload 4, 2) := by decide +kernel
theorem dX6_putsSpan_25 : decode cX6_putsSpan 25 = .ok (.iastore, 1) := by decide +kernel
theorem dX6_putsSpan_26 : decode cX6_putsSpan 26 = .ok (.aload_n 0, 1) := by decide +kernel
theorem dX6_putsSpan_27 : decode cX6_putsSpan 27 = .ok (.getfield 7, 3) := by decide +kernel
theorem dX6_putsSpan_30 : decode cX6_putsSpan 30 = .ok (.iload 6, 2) := by decide +kernel
theorem dX6_putsSpan_32 : decode cX6_putsSpan 32 = .ok (.iconst 2, 1) := by decide +kernel
theorem dX6_putsSpan_33 : decode cX6_putsSpan 33 = .ok (.iadd, 1) := by decide +kernel
theorem dX6_putsSpan_34 : decode cX6_putsSpan 34 = .ok (.iload 5, 2) := by decide +kernel
theorem dX6_putsSpan_36 : decode cX6_putsSpan 36 = .ok (.iastore, 1) := by decide +kernel
theorem dX6_putsSpan_37 : decode cX6_putsSpan 37 = .ok (.return_, 1) := by decide +kernel
theorem dX6_begins_0 : decode cX6_begins 0 = .ok (.iconst 0, 1) := by decide +kernel
theorem dX6_begins_1 : decode cX6_begins 1 = .ok (.istore_n 1, 1) := by decide +kernel
theorem dX6_begins_2 : decode cX6_begins 2 = .ok (.iload_n 1, 1) := by decide +kernel
theorem dX6_begins_3 : decode cX6_begins 3 = .ok (.sipush 362, 3) := by decide +kernel
theorem dX6_begins_6 : decode cX6_begins 6 = .ok (.if_icmp .ge 16, 3) := by decide +kernel
theorem dX6_begins_9 : decode cX6_begins 9 = .ok (.aload_n 0, 1) := by decide +kernel
theorem dX6_begins_10 : decode cX6_begins 10 = .ok (.getfield 7, 3) := by decide +kernel
theorem dX6_begins_13 : decode cX6_begins 13 = .ok (.iload_n 1, 1) := by decide +kernel
theorem dX6_begins_14 : decode cX6_begins 14 = .ok (.iconst 0, 1) := by decide +kernel
theorem dX6_begins_15 : decode cX6_begins 15 = .ok (.iastore, 1) := by decide +kernel
theorem dX6_begins_16 : decode cX6_begins 16 = .ok (.iinc 1 1, 3) := by decide +kernel
theorem dX6_begins_19 : decode cX6_begins 19 = .ok (.goto (-17), 3) := by decide +kernel
theorem dX6_begins_22 : decode cX6_begins 22 = .ok (.aload_n 0, 1) := by decide +kernel
theorem dX6_begins_23 : decode cX6_begins 23 = .ok (.getfield 7, 3) := by decide +kernel
theorem dX6_begins_26 : decode cX6_begins 26 = .ok (.iconst 1, 1) := by decide +kernel
theorem dX6_begins_27 : decode cX6_begins 27 = .ok (.iconst 1, 1) := by decide +kernel
theorem dX6_begins_28 : decode cX6_begins 28 = .ok (.iastore, 1) := by decide +kernel
theorem dX6_begins_29 : decode cX6_begins 29 = .ok (.aload_n 0, 1) := by decide +kernel
theorem dX6_begins_30 : decode cX6_begins 30 = .ok (.iconst 0, 1) := by decide +kernel
theorem dX6_begins_31 : decode cX6_begins 31 = .ok (.putfield 73, 3) := by decide +kernel
theorem dX6_begins_34 : decode cX6_begins 34 = .ok (.aload_n 0, 1) := by decide +kernel
theorem dX6_begins_35 : decode cX6_begins 35 = .ok (.iconst 2, 1) := by decide +kernel
theorem dX6_begins_36 : decode cX6_begins 36 = .ok (.iconst 5, 1) := by decide +kernel
theorem dX6_begins_37 : decode cX6_begins 37 = .ok (.iconst 3, 1) := by decide +kernel
theorem dX6_begins_38 : decode cX6_begins 38 = .ok (.iconst 1, 1) := by decide +kernel
theorem dX6_begins_39 : decode cX6_begins 39 = .ok (.iconst 2, 1) := by decide +kernel
theorem dX6_begins_40 : decode cX6_begins 40 = .ok (.invokevirtual 80, 3) := by decide +kernel
theorem dX6_begins_43 : decode cX6_begins 43 = .ok (.aload_n 0, 1) := by decide +kernel
theorem dX6_begins_44 : decode cX6_begins 44 = .ok (.iconst 5, 1) := by decide +kernel
theorem dX6_begins_45 : decode cX6_begins 45 = .ok (.putfield 73, 3) := by decide +kernel
theorem dX6_begins_48 : decode cX6_begins 48 = .ok (.aload_n 0, 1) := by decide +kernel
theorem dX6_begins_49 : decode cX6_begins 49 = .ok (.iconst 4, 1) := by decide +kernel
theorem dX6_begins_50 : decode cX6_begins 50 = .ok (.iconst 1, 1) := by decide +kernel
theorem dX6_begins_51 : decode cX6_begins 51 = .ok (.iconst 2, 1) := by decide +kernel
theorem dX6_begins_52 : decode cX6_begins 52 = .ok (.iconst 4, 1) := by decide +kernel
theorem dX6_begins_53 : decode cX6_begins 53 = .ok (.iconst 5, 1) := by decide +kernel
theorem dX6_begins_54 : decode cX6_begins 54 = .ok (.invokevirtual 80, 3) := by decide +kernel
theorem dX6_begins_57 : decode cX6_begins 57 = .ok (.aload_n 0, 1) := by decide +kernel
theorem dX6_begins_58 : decode cX6_begins 58 = .ok (.iconst 1, 1) := by decide +kernel
theorem dX6_begins_59 : decode cX6_begins 59 = .ok (.iconst 2, 1) := by decide +kernel
theorem dX6_begins_60 : decode cX6_begins 60 = .ok (.iconst 1, 1) := by decide +kernel
theorem dX6_begins_61 : decode cX6_begins 61 = .ok (.iconst 5, 1) := by decide +kernel
theorem dX6_begins_62 : decode cX6_begins 62 = .ok (.bipush 8, 2) := by decide +kernel
theorem dX6_begins_64 : decode cX6_begins 64 = .ok (.invokevirtual 84, 3) := by decide +kernel
theorem dX6_begins_67 : decode cX6_begins 67 = .ok (.aload_n 0, 1) := by decide +kernel
theorem dX6_begins_68 : decode cX6_begins 68 = .ok (.iconst 1, 1) := by decide +kernel
theorem dX6_begins_69 : decode cX6_begins 69 = .ok (.iconst 3, 1) := by decide +kernel
theorem dX6_begins_70 : decode cX6_begins 70 = .ok (.iconst 3, 1) := by decide +kernel
theorem dX6_begins_71 : decode cX6_begins 71 = .ok (.bipush 7, 2) := by decide +kernel
theorem dX6_begins_73 : decode cX6_begins 73 = .ok (.bipush 10, 2) := by decide +kernel
theorem dX6_begins_75 : decode cX6_begins 75 = .ok (.invokevirtual 84, 3) := by decide +kernel
theorem dX6_begins_78 : decode cX6_begins 78 = .ok (.aload_n 0, 1) := by decide +kernel
theorem dX6_begins_79 : decode cX6_begins 79 = .ok (.iconst 1, 1) := by decide +kernel
theorem dX6_begins_80 : decode cX6_begins 80 = .ok (.iconst 4, 1) := by decide +kernel
theorem dX6_begins_81 : decode cX6_begins 81 = .ok (.iconst 5, 1) := by decide +kernel
theorem dX6_begins_82 : decode cX6_begins 82 = .ok (.bipush 9, 2) := by decide +kernel
theorem dX6_begins_84 : decode cX6_begins 84 = .ok (.bipush 12, 2) := by decide +kernel
theorem dX6_begins_86 : decode cX6_begins 86 = .ok (.invokevirtual 84, 3) := by decide +kernel
theorem dX6_begins_89 : decode cX6_begins 89 = .ok (.aload_n 0, 1) := by decide +kernel
theorem dX6_begins_90 : decode cX6_begins 90 = .ok (.iconst 1, 1) := by decide +kernel
theorem dX6_begins_91 : decode cX6_begins 91 = .ok (.iconst 5, 1) := by decide +kernel
theorem dX6_begins_92 : decode cX6_begins 92 = .ok (.bipush 7, 2) := by decide +kernel
theorem dX6_begins_94 : decode cX6_begins 94 = .ok (.bipush 11, 2) := by decide +kernel
theorem dX6_begins_96 : decode cX6_begins 96 = .ok (.bipush 14, 2) := by decide +kernel
theorem dX6_begins_98 : decode cX6_begins 98 = .ok (.invokevirtual 84, 3) := by decide +kernel
theorem dX6_begins_101 : decode cX6_begins 101 = .ok (.aload_n 0, 1) := by decide +kernel
theorem dX6_begins_102 : decode cX6_begins 102 = .ok (.iconst 2, 1) := by decide +kernel
theorem dX6_begins_103 : decode cX6_begins 103 = .ok (.iconst 3, 1) := by decide +kernel
theorem dX6_begins_104 : decode cX6_begins 104 = .ok (.iconst 1, 1) := by decide +kernel
theorem dX6_begins_105 : decode cX6_begins 105 = .ok (.iconst 2, 1) := by decide +kernel
theorem dX6_begins_106 : decode cX6_begins 106 = .ok (.iconst 5, 1) := by decide +kernel
theorem dX6_begins_107 : decode cX6_begins 107 = .ok (.invokevirtual 84, 3) := by decide +kernel
theorem dX6_begins_110 : decode cX6_begins 110 = .ok (.aload_n 0, 1) := by decide +kernel
theorem dX6_begins_111 : decode cX6_begins 111 = .ok (.iconst 2, 1) := by decide +kernel
theorem dX6_begins_112 : decode cX6_begins 112 = .ok (.iconst 4, 1) := by decide +kernel
theorem dX6_begins_113 : decode cX6_begins 113 = .ok (.iconst 3, 1) := by decide +kernel
theorem dX6_begins_114 : decode cX6_begins 114 = .ok (.iconst 4, 1) := by decide +kernel
theorem dX6_begins_115 : decode cX6_begins 115 = .ok (.bipush 7, 2) := by decide +kernel
theorem dX6_begins_117 : decode cX6_begins 117 = .ok (.invokevirtual 84, 3) := by decide +kernel
theorem dX6_begins_120 : decode cX6_begins 120 = .ok (.aload_n 0, 1) := by decide +kernel
theorem dX6_begins_121 : decode cX6_begins 121 = .ok (.iconst 2, 1) := by decide +kernel
theorem dX6_begins_122 : decode cX6_begins 122 = .ok (.iconst 5, 1) := by decide +kernel
theorem dX6_begins_123 : decode cX6_begins 123 = .ok (.iconst 5, 1) := by decide +kernel
theorem dX6_begins_124 : decode cX6_begins 124 = .ok (.bipush 7, 2) := by decide +kernel
theorem dX6_begins_126 : decode cX6_begins 126 = .ok (.bipush 10, 2) := by decide +kernel
theorem dX6_begins_128 : decode cX6_begins 128 = .ok (.invokevirtual 84, 3) := by decide +kernel
theorem dX6_begins_131 : decode cX6_begins 131 = .ok (.aload_n 0, 1) := by decide +kernel
theorem dX6_begins_132 : decode cX6_begins 132 = .ok (.iconst 3, 1) := by decide +kernel
theorem dX6_begins_133 : decode cX6_begins 133 = .ok (.iconst 4, 1) := by decide +kernel
theorem dX6_begins_134 : decode cX6_begins 134 = .ok (.iconst 1, 1) := by decide +kernel
theorem dX6_begins_135 : decode cX6_begins 135 = .ok (.iconst 2, 1) := by decide +kernel
theorem dX6_begins_136 : decode cX6_begins 136 = .ok (.iconst 4, 1) := by decide +kernel
theorem dX6_begins_137 : decode cX6_begins 137 = .ok (.invokevirtual 84, 3) := by decide +kernel
theorem dX6_begins_140 : decode cX6_begins 140 = .ok (.aload_n 0, 1) := by decide +kernel
theorem dX6_begins_141 : decode cX6_begins 141 = .ok (.iconst 3, 1) := by decide +kernel
theorem dX6_begins_142 : decode cX6_begins 142 = .ok (.iconst 5, 1) := by decide +kernel
theorem dX6_begins_143 : decode cX6_begins 143 = .ok (.iconst 3, 1) := by decide +kernel
theorem dX6_begins_144 : decode cX6_begins 144 = .ok (.iconst 4, 1) := by decide +kernel
theorem dX6_begins_145 : decode cX6_begins 145 = .ok (.bipush 7, 2) := by decide +kernel
theorem dX6_begins_147 : decode cX6_begins 147 = .ok (.invokevirtual 84, 3) := by decide +kernel
theorem dX6_begins_150 : decode cX6_begins 150 = .ok (.aload_n 0, 1) := by decide +kernel
theorem dX6_begins_151 : decode cX6_begins 151 = .ok (.iconst 4, 1) := by decide +kernel
theorem dX6_begins_152 : decode cX6_begins 152 = .ok (.iconst 5, 1) := by decide +kernel
theorem dX6_begins_153 : decode cX6_begins 153 = .ok (.iconst 1, 1) := by decide +kernel
theorem dX6_begins_154 : decode cX6_begins 154 = .ok (.iconst 2, 1) := by decide +kernel
theorem dX6_begins_155 : decode cX6_begins 155 = .ok (.iconst 5, 1) := by decide +kernel
theorem dX6_begins_156 : decode cX6_begins 156 = .ok (.invokevirtual 84, 3) := by decide +kernel
theorem dX6_begins_159 : decode cX6_begins 159 = .ok (.return_, 1) := by decide +kernel
theorem dX6_pairOf_0 : decode cX6_pairOf 0 = .ok (.iload_n 0, 1) := by decide +kernel
theorem dX6_pairOf_1 : decode cX6_pairOf 1 = .ok (.iload_n 1, 1) := by decide +kernel
theorem dX6_pairOf_2 : decode cX6_pairOf 2 = .ok (.invokestatic 87, 3) := by decide +kernel
theorem dX6_pairOf_5 : decode cX6_pairOf 5 = .ok (.istore_n 2, 1) := by decide +kernel
theorem dX6_pairOf_6 : decode cX6_pairOf 6 = .ok (.iload_n 0, 1) := by decide +kernel
theorem dX6_pairOf_7 : decode cX6_pairOf 7 = .ok (.iload_n 1, 1) := by decide +kernel
theorem dX6_pairOf_8 : decode cX6_pairOf 8 = .ok (.invokestatic 92, 3) := by decide +kernel
theorem dX6_pairOf_11 : decode cX6_pairOf 11 = .ok (.istore_n 3, 1) := by decide +kernel
theorem dX6_pairOf_12 : decode cX6_pairOf 12 = .ok (.iload_n 2, 1) := by decide +kernel
theorem dX6_pairOf_13 : decode cX6_pairOf 13 = .ok (.iconst 1, 1) := by decide +kernel
theorem dX6_pairOf_14 : decode cX6_pairOf 14 = .ok (.if_icmp .ne 7, 3) := by decide +kernel
theorem dX6_pairOf_17 : decode cX6_pairOf 17 = .ok (.iconst 0, 1) := by decide +kernel
theorem dX6_pairOf_18 : decode cX6_pairOf 18 = .ok (.goto 24, 3) := by decide +kernel
theorem dX6_pairOf_21 : decode cX6_pairOf 21 = .ok (.iload_n 2, 1) := by decide +kernel
theorem dX6_pairOf_22 : decode cX6_pairOf 22 = .ok (.iconst 2, 1) := by decide +kernel
theorem dX6_pairOf_23 : decode cX6_pairOf 23 = .ok (.if_icmp .ne 7, 3) := by decide +kernel
theorem dX6_pairOf_26 : decode cX6_pairOf 26 = .ok (.iconst 4, 1) := by decide +kernel
theorem dX6_pairOf_27 : decode cX6_pairOf 27 = .ok (.goto 15, 3) := by decide +kernel
theorem dX6_pairOf_30 : decode cX6_pairOf 30 = .ok (.iload_n 2, 1) := by decide +kernel
theorem dX6_pairOf_31 : decode cX6_pairOf 31 = .ok (.iconst 3, 1) := by decide +kernel
theorem dX6_pairOf_32 : decode cX6_pairOf 32 = .ok (.if_icmp .ne 8, 3) := by decide +kernel
theorem dX6_pairOf_35 : decode cX6_pairOf 35 = .ok (.bipush 7, 2) := by decide +kernel
theorem dX6_pairOf_37 : decode cX6_pairOf 37 = .ok (.goto 5, 3) := by decide +kernel
theorem dX6_pairOf_40 : decode cX6_pairOf 40 = .ok (.bipush 9, 2) := by decide +kernel
theorem dX6_pairOf_42 : decode cX6_pairOf 42 = .ok (.istore 4, 2) := by decide +kernel
theorem dX6_pairOf_44 : decode cX6_pairOf 44 = .ok (.bipush 12, 2) := by decide +kernel
theorem dX6_pairOf_46 : decode cX6_pairOf 46 = .ok (.iconst 3, 1) := by decide +kernel
theorem dX6_pairOf_47 : decode cX6_pairOf 47 = .ok (.iload 4, 2) := by decide +kernel
theorem dX6_pairOf_49 : decode cX6_pairOf 49 = .ok (.iload_n 3, 1) := by decide +kernel
theorem dX6_pairOf_50 : decode cX6_pairOf 50 = .ok (.iadd, 1) := by decide +kernel
theorem dX6_pairOf_51 : decode cX6_pairOf 51 = .ok (.iload_n 2, 1) := by decide +kernel
theorem dX6_pairOf_52 : decode cX6_pairOf 52 = .ok (.isub, 1) := by decide +kernel
theorem dX6_pairOf_53 : decode cX6_pairOf 53 = .ok (.iconst 1, 1) := by decide +kernel
theorem dX6_pairOf_54 : decode cX6_pairOf 54 = .ok (.isub, 1) := by decide +kernel
theorem dX6_pairOf_55 : decode cX6_pairOf 55 = .ok (.imul, 1) := by decide +kernel
theorem dX6_pairOf_56 : decode cX6_pairOf 56 = .ok (.iadd, 1) := by decide +kernel
theorem dX6_pairOf_57 : decode cX6_pairOf 57 = .ok (.ireturn, 1) := by decide +kernel
theorem dX6_thrown_0 : decode cX6_thrown 0 = .ok (.aload_n 0, 1) := by decide +kernel
theorem dX6_thrown_1 : decode cX6_thrown 1 = .ok (.getfield 95, 3) := by decide +kernel
theorem dX6_thrown_4 : decode cX6_thrown 4 = .ok (.ireturn, 1) := by decide +kernel
theorem dX6_isIn_0 : decode cX6_isIn 0 = .ok (.iload_n 0, 1) := by decide +kernel
theorem dX6_isIn_1 : decode cX6_isIn 1 = .ok (.iload_n 1, 1) := by decide +kernel
theorem dX6_isIn_2 : decode cX6_isIn 2 = .ok (.if_icmp .lt 12, 3) := by decide +kernel
theorem dX6_isIn_5 : decode cX6_isIn 5 = .ok (.iload_n 0, 1) := by decide +kernel
theorem dX6_isIn_6 : decode cX6_isIn 6 = .ok (.iload_n 2, 1) := by decide +kernel
theorem dX6_isIn_7 : decode cX6_isIn 7 = .ok (.if_icmp .gt 7, 3) := by decide +kernel
theorem dX6_isIn_10 : decode cX6_isIn 10 = .ok (.iconst 1, 1) := by decide +kernel
theorem dX6_isIn_11 : decode cX6_isIn 11 = .ok (.goto 4, 3) := by decide +kernel
theorem dX6_isIn_14 : decode cX6_isIn 14 = .ok (.iconst 0, 1) := by decide +kernel
theorem dX6_isIn_15 : decode cX6_isIn 15 = .ok (.ireturn, 1) := by decide +kernel
theorem dX6_copies_0 : decode cX6_copies 0 = .ok (.iconst 0, 1) := by decide +kernel
theorem dX6_copies_1 : decode cX6_copies 1 = .ok (.istore 4, 2) := by decide +kernel
theorem dX6_copies_3 : decode cX6_copies 3 = .ok (.iload 4, 2) := by decide +kernel
theorem dX6_copies_5 : decode cX6_copies 5 = .ok (.sipush 362, 3) := by decide +kernel
theorem dX6_copies_8 : decode cX6_copies 8 = .ok (.if_icmp .ge 21, 3) := by decide +kernel
theorem dX6_copies_11 : decode cX6_copies 11 = .ok (.aload_n 0, 1) := by decide +kernel
theorem dX6_copies_12 : decode cX6_copies 12 = .ok (.iload_n 1, 1) := by decide +kernel
theorem dX6_copies_13 : decode cX6_copies 13 = .ok (.iload 4, 2) := by decide +kernel
theorem dX6_copies_15 : decode cX6_copies 15 = .ok (.iadd, 1) := by decide +kernel
theorem dX6_copies_16 : decode cX6_copies 16 = .ok (.aload_n 2, 1) := by decide +kernel
theorem dX6_copies_17 : decode cX6_copies 17 = .ok (.iload_n 3, 1) := by decide +kernel
theorem dX6_copies_18 : decode cX6_copies 18 = .ok (.iload 4, 2) := by decide +kernel
theorem dX6_copies_20 : decode cX6_copies 20 = .ok (.iadd, 1) := by decide +kernel
theorem dX6_copies_21 : decode cX6_copies 21 = .ok (.iaload, 1) := by decide +kernel
theorem dX6_copies_22 : decode cX6_copies 22 = .ok (.iastore, 1) := by decide +kernel
theorem dX6_copies_23 : decode cX6_copies 23 = .ok (.iinc 4 1, 3) := by decide +kernel
theorem dX6_copies_26 : decode cX6_copies 26 = .ok (.goto (-23), 3) := by decide +kernel
theorem dX6_copies_29 : decode cX6_copies 29 = .ok (.return_, 1) := by decide +kernel
theorem dX6_keeps_0 : decode cX6_keeps 0 = .ok (.aload_n 0, 1) := by decide +kernel
theorem dX6_keeps_1 : decode cX6_keeps 1 = .ok (.getfield 98, 3) := by decide +kernel
theorem dX6_keeps_4 : decode cX6_keeps 4 = .ok (.bipush 8, 2) := by decide +kernel
theorem dX6_keeps_6 : decode cX6_keeps 6 = .ok (.if_icmp .ne 44, 3) := by decide +kernel
theorem dX6_keeps_9 : decode cX6_keeps 9 = .ok (.iconst 0, 1) := by decide +kernel
theorem dX6_keeps_10 : decode cX6_keeps 10 = .ok (.istore_n 2, 1) := by decide +kernel
theorem dX6_keeps_11 : decode cX6_keeps 11 = .ok (.iload_n 2, 1) := by decide +kernel
theorem dX6_keeps_12 : decode cX6_keeps 12 = .ok (.sipush 2534, 3) := by decide +kernel
theorem dX6_keeps_15 : decode cX6_keeps 15 = .ok (.if_icmp .ge 25, 3) := by decide +kernel
theorem dX6_keeps_18 : decode cX6_keeps 18 = .ok (.aload_n 0, 1) := by decide +kernel
theorem dX6_keeps_19 : decode cX6_keeps 19 = .ok (.getfield 19, 3) := by decide +kernel
theorem dX6_keeps_22 : decode cX6_keeps 22 = .ok (.iload_n 2, 1) := by decide +kernel
theorem dX6_keeps_23 : decode cX6_keeps 23 = .ok (.aload_n 0, 1) := by decide +kernel
theorem dX6_keeps_24 : decode cX6_keeps 24 = .ok (.getfield 19, 3) := by decide +kernel
theorem dX6_keeps_27 : decode cX6_keeps 27 = .ok (.iload_n 2, 1) := by decide +kernel
theorem dX6_keeps_28 : decode cX6_keeps 28 = .ok (.sipush 362, 3) := by decide +kernel
theorem dX6_keeps_31 : decode cX6_keeps 31 = .ok (.iadd, 1) := by decide +kernel
theorem dX6_keeps_32 : decode cX6_keeps 32 = .ok (.iaload, 1) := by decide +kernel
theorem dX6_keeps_33 : decode cX6_keeps 33 = .ok (.iastore, 1) := by decide +kernel
theorem dX6_keeps_34 : decode cX6_keeps 34 = .ok (.iinc 2 1, 3) := by decide +kernel
theorem dX6_keeps_37 : decode cX6_keeps 37 = .ok (.goto (-26), 3) := by decide +kernel
theorem dX6_keeps_40 : decode cX6_keeps 40 = .ok (.aload_n 0, 1) := by decide +kernel
theorem dX6_keeps_41 : decode cX6_keeps 41 = .ok (.dup, 1) := by decide +kernel
theorem dX6_keeps_42 : decode cX6_keeps 42 = .ok (.getfield 98, 3) := by decide +kernel
theorem dX6_keeps_45 : decode cX6_keeps 45 = .ok (.iconst 1, 1) := by decide +kernel
theorem dX6_keeps_46 : decode cX6_keeps 46 = .ok (.isub, 1) := by decide +kernel
theorem dX6_keeps_47 : decode cX6_keeps 47 = .ok (.putfield 98, 3) := by decide +kernel
theorem dX6_keeps_50 : decode cX6_keeps 50 = .ok (.aload_n 0, 1) := by decide +kernel
theorem dX6_keeps_51 : decode cX6_keeps 51 = .ok (.getfield 19, 3) := by decide +kernel
theorem dX6_keeps_54 : decode cX6_keeps 54 = .ok (.sipush 362, 3) := by decide +kernel
theorem dX6_keeps_57 : decode cX6_keeps 57 = .ok (.aload_n 0, 1) := by decide +kernel
theorem dX6_keeps_58 : decode cX6_keeps 58 = .ok (.getfield 98, 3) := by decide +kernel
theorem dX6_keeps_61 : decode cX6_keeps 61 = .ok (.imul, 1) := by decide +kernel
theorem dX6_keeps_62 : decode cX6_keeps 62 = .ok (.aload_n 1, 1) := by decide +kernel
theorem dX6_keeps_63 : decode cX6_keeps 63 = .ok (.iconst 0, 1) := by decide +kernel
theorem dX6_keeps_64 : decode cX6_keeps 64 = .ok (.invokestatic 101, 3) := by decide +kernel
theorem dX6_keeps_67 : decode cX6_keeps 67 = .ok (.aload_n 0, 1) := by decide +kernel
theorem dX6_keeps_68 : decode cX6_keeps 68 = .ok (.dup, 1) := by decide +kernel
theorem dX6_keeps_69 : decode cX6_keeps 69 = .ok (.getfield 98, 3) := by decide +kernel
theorem dX6_keeps_72 : decode cX6_keeps 72 = .ok (.iconst 1, 1) := by decide +kernel
theorem dX6_keeps_73 : decode cX6_keeps 73 = .ok (.iadd, 1) := by decide +kernel
theorem dX6_keeps_74 : decode cX6_keeps 74 = .ok (.putfield 98, 3) := by decide +kernel
theorem dX6_keeps_77 : decode cX6_keeps 77 = .ok (.return_, 1) := by decide +kernel
theorem dX6_undo_0 : decode cX6_undo 0 = .ok (.aload_n 0, 1) := by decide +kernel
theorem dX6_undo_1 : decode cX6_undo 1 = .ok (.aload_n 0, 1) := by decide +kernel
theorem dX6_undo_2 : decode cX6_undo 2 = .ok (.getfield 98, 3) := by decide +kernel
theorem dX6_undo_5 : decode cX6_undo 5 = .ok (.ifCond .ne 7, 3) := by decide +kernel
theorem dX6_undo_8 : decode cX6_undo 8 = .ok (.iconst 1, 1) := by decide +kernel
theorem dX6_undo_9 : decode cX6_undo 9 = .ok (.goto 4, 3) := by decide +kernel
theorem dX6_undo_12 : decode cX6_undo 12 = .ok (.iconst 0, 1) := by decide +kernel
theorem dX6_undo_13 : decode cX6_undo 13 = .ok (.putfield 95, 3) := by decide +kernel
theorem dX6_undo_16 : decode cX6_undo 16 = .ok (.aload_n 0, 1) := by decide +kernel
theorem dX6_undo_17 : decode cX6_undo 17 = .ok (.getfield 95, 3) := by decide +kernel
theorem dX6_undo_20 : decode cX6_undo 20 = .ok (.ifCond .le 5, 3) := by decide +kernel
theorem dX6_undo_23 : decode cX6_undo 23 = .ok (.iconst 0, 1) := by decide +kernel
theorem dX6_undo_24 : decode cX6_undo 24 = .ok (.ireturn, 1) := by decide +kernel
theorem dX6_undo_25 : decode cX6_undo 25 = .ok (.aload_n 0, 1) := by decide +kernel
theorem dX6_undo_26 : decode cX6_undo 26 = .ok (.dup, 1) := by decide +kernel
theorem dX6_undo_27 : decode cX6_undo 27 = .ok (.getfield 98, 3) := by decide +kernel
theorem dX6_undo_30 : decode cX6_undo 30 = .ok (.iconst 1, 1) := by decide +kernel
theorem dX6_undo_31 : decode cX6_undo 31 = .ok (.isub, 1) := by decide +kernel
theorem dX6_undo_32 : decode cX6_undo 32 = .ok (.putfield 98, 3) := by decide +kernel
theorem dX6_undo_35 : decode cX6_undo 35 = .ok (.aload_n 0, 1) := by decide +kernel
theorem dX6_undo_36 : decode cX6_undo 36 = .ok (.getfield 7, 3) := by decide +kernel
theorem dX6_undo_39 : decode cX6_undo 39 = .ok (.iconst 0, 1) := by decide +kernel
theorem dX6_undo_40 : decode cX6_undo 40 = .ok (.aload_n 0, 1) := by decide +kernel
theorem dX6_undo_41 : decode cX6_undo 41 = .ok (.getfield 19, 3) := by decide +kernel
theorem dX6_undo_44 : decode cX6_undo 44 = .ok (.sipush 362, 3) := by decide +kernel
theorem dX6_undo_47 : decode cX6_undo 47 = .ok (.aload_n 0, 1) := by decide +kernel
theorem dX6_undo_48 : decode cX6_undo 48 = .ok (.getfield 98, 3) := by decide +kernel
theorem dX6_undo_51 : decode cX6_undo 51 = .ok (.imul, 1) := by decide +kernel
theorem dX6_undo_52 : decode cX6_undo 52 = .ok (.invokestatic 101, 3) := by decide +kernel
theorem dX6_undo_55 : decode cX6_undo 55 = .ok (.aload_n 0, 1) := by decide +kernel
theorem dX6_undo_56 : decode cX6_undo 56 = .ok (.getfield 98, 3) := by decide +kernel
theorem dX6_undo_59 : decode cX6_undo 59 = .ok (.ireturn, 1) := by decide +kernel
theorem dX6_save_0 : decode cX6_save 0 = .ok (.aload_n 0, 1) := by decide +kernel
theorem dX6_save_1 : decode cX6_save 1 = .ok (.iload_n 1, 1) := by decide +kernel
theorem dX6_save_2 : decode cX6_save 2 = .ok (.iconst 0, 1) := by decide +kernel
theorem dX6_save_3 : decode cX6_save 3 = .ok (.iconst 1, 1) := by decide +kernel
theorem dX6_save_4 : decode cX6_save 4 = .ok (.invokestatic 105, 3) := by decide +kernel
theorem dX6_save_7 : decode cX6_save 7 = .ok (.ifCond .eq 7, 3) := by decide +kernel
theorem dX6_save_10 : decode cX6_save 10 = .ok (.iconst 0, 1) := by decide +kernel
theorem dX6_save_11 : decode cX6_save 11 = .ok (.goto 4, 3) := by decide +kernel
theorem dX6_save_14 : decode cX6_save 14 = .ok (.iconst 1, 1) := by decide +kernel
theorem dX6_save_15 : decode cX6_save 15 = .ok (.putfield 95, 3) := by decide +kernel
theorem dX6_save_18 : decode cX6_save 18 = .ok (.aload_n 0, 1) := by decide +kernel
theorem dX6_save_19 : decode cX6_save 19 = .ok (.getfield 95, 3) := by decide +kernel
theorem dX6_save_22 : decode cX6_save 22 = .ok (.ifCond .le 4, 3) := by decide +kernel
theorem dX6_save_25 : decode cX6_save 25 = .ok (.return_, 1) := by decide +kernel
theorem dX6_save_26 : decode cX6_save 26 = .ok (.aload_n 0, 1) := by decide +kernel
theorem dX6_save_27 : decode cX6_save 27 = .ok (.getfield 22, 3) := by decide +kernel
theorem dX6_save_30 : decode cX6_save 30 = .ok (.sipush 362, 3) := by decide +kernel
theorem dX6_save_33 : decode cX6_save 33 = .ok (.iload_n 1, 1) := by decide +kernel
theorem dX6_save_34 : decode cX6_save 34 = .ok (.imul, 1) := by decide +kernel
theorem dX6_save_35 : decode cX6_save 35 = .ok (.aload_n 0, 1) := by decide +kernel
theorem dX6_save_36 : decode cX6_save 36 = .ok (.getfield 7, 3) := by decide +kernel
theorem dX6_save_39 : decode cX6_save 39 = .ok (.iconst 0, 1) := by decide +kernel
theorem dX6_save_40 : decode cX6_save 40 = .ok (.invokestatic 101, 3) := by decide +kernel
theorem dX6_save_43 : decode cX6_save 43 = .ok (.aload_n 0, 1) := by decide +kernel
theorem dX6_save_44 : decode cX6_save 44 = .ok (.getfield 25, 3) := by decide +kernel
theorem dX6_save_47 : decode cX6_save 47 = .ok (.iload_n 1, 1) := by decide +kernel
theorem dX6_save_48 : decode cX6_save 48 = .ok (.iconst 1, 1) := by decide +kernel
theorem dX6_save_49 : decode cX6_save 49 = .ok (.bastore, 1) := by decide +kernel
theorem dX6_save_50 : decode cX6_save 50 = .ok (.return_, 1) := by decide +kernel
theorem dX6_restore_0 : decode cX6_restore 0 = .ok (.aload_n 0, 1) := by decide +kernel
theorem dX6_restore_1 : decode cX6_restore 1 = .ok (.iload_n 1, 1) := by decide +kernel
theorem dX6_restore_2 : decode cX6_restore 2 = .ok (.iconst 0, 1) := by decide +kernel
theorem dX6_restore_3 : decode cX6_restore 3 = .ok (.iconst 1, 1) := by decide +kernel
theorem dX6_restore_4 : decode cX6_restore 4 = .ok (.invokestatic 105, 3) := by decide +kernel
theorem dX6_restore_7 : decode cX6_restore 7 = .ok (.ifCond .ne 7, 3) := by decide +kernel
theorem dX6_restore_10 : decode cX6_restore 10 = .ok (.iconst 1, 1) := by decide +kernel
theorem dX6_restore_11 : decode cX6_restore 11 = .ok (.goto 17, 3) := by decide +kernel
theorem dX6_restore_14 : decode cX6_restore 14 = .ok (.aload_n 0, 1) := by decide +kernel
theorem dX6_restore_15 : decode cX6_restore 15 = .ok (.getfield 25, 3) := by decide +kernel
theorem dX6_restore_18 : decode cX6_restore 18 = .ok (.iload_n 1, 1) := by decide +kernel
theorem dX6_restore_19 : decode cX6_restore 19 = .ok (.baload, 1) := by decide +kernel
theorem dX6_restore_20 : decode cX6_restore 20 = .ok (.ifCond .eq 7, 3) := by decide +kernel
theorem dX6_restore_23 : decode cX6_restore 23 = .ok (.iconst 0, 1) := by decide +kernel
theorem dX6_restore_24 : decode cX6_restore 24 = .ok (.goto 4, 3) := by decide +kernel
theorem dX6_restore_27 : decode cX6_restore 27 = .ok (.iconst 2, 1) := by decide +kernel
theorem dX6_restore_28 : decode cX6_restore 28 = .ok (.putfield 95, 3) := by decide +kernel
theorem dX6_restore_31 : decode cX6_restore 31 = .ok (.aload_n 0, 1) := by decide +kernel
theorem dX6_restore_32 : decode cX6_restore 32 = .ok (.getfield 95, 3) := by decide +kernel
theorem dX6_restore_35 : decode cX6_restore 35 = .ok (.ifCond .le 5, 3) := by decide +kernel
theorem dX6_restore_38 : decode cX6_restore 38 = .ok (.iconst 0, 1) := by decide +kernel
theorem dX6_restore_39 : decode cX6_restore 39 = .ok (.ireturn, 1) := by decide +kernel
theorem dX6_restore_40 : decode cX6_restore 40 = .ok (.aload_n 0, 1) := by decide +kernel
theorem dX6_restore_41 : decode cX6_restore 41 = .ok (.aload_n 0, 1) := by decide +kernel
theorem dX6_restore_42 : decode cX6_restore 42 = .ok (.getfield 7, 3) := by decide +kernel
theorem dX6_restore_45 : decode cX6_restore 45 = .ok (.invokevirtual 109, 3) := by decide +kernel
theorem dX6_restore_48 : decode cX6_restore 48 = .ok (.aload_n 0, 1) := by decide +kernel
theorem dX6_restore_49 : decode cX6_restore 49 = .ok (.getfield 7, 3) := by decide +kernel
theorem dX6_restore_52 : decode cX6_restore 52 = .ok (.iconst 0, 1) := by decide +kernel
theorem dX6_restore_53 : decode cX6_restore 53 = .ok (.aload_n 0, 1) := by decide +kernel
theorem dX6_restore_54 : decode cX6_restore 54 = .ok (.getfield 22, 3) := by decide +kernel
theorem dX6_restore_57 : decode cX6_restore 57 = .ok (.sipush 362, 3) := by decide +kernel
theorem dX6_restore_60 : decode cX6_restore 60 = .ok (.iload_n 1, 1) := by decide +kernel
theorem dX6_restore_61 : decode cX6_restore 61 = .ok (.imul, 1) := by decide +kernel
theorem dX6_restore_62 : decode cX6_restore 62 = .ok (.invokestatic 101, 3) := by decide +kernel
theorem dX6_restore_65 : decode cX6_restore 65 = .ok (.aload_n 0, 1) := by decide +kernel
theorem dX6_restore_66 : decode cX6_restore 66 = .ok (.invokevirtual 113, 3) := by decide +kernel
theorem dX6_restore_69 : decode cX6_restore 69 = .ok (.ireturn, 1) := by decide +kernel
theorem dX6_byteOf_0 : decode cX6_byteOf 0 = .ok (.iload_n 0, 1) := by decide +kernel
theorem dX6_byteOf_1 : decode cX6_byteOf 1 = .ok (.iconst 4, 1) := by decide +kernel
theorem dX6_byteOf_2 : decode cX6_byteOf 2 = .ok (.if_icmp .ge 7, 3) := by decide +kernel
theorem dX6_byteOf_5 : decode cX6_byteOf 5 = .ok (.iload_n 1, 1) := by decide +kernel
theorem dX6_byteOf_6 : decode cX6_byteOf 6 = .ok (.goto 36, 3) := by decide +kernel
theorem dX6_byteOf_9 : decode cX6_byteOf 9 = .ok (.iload_n 0, 1) := by decide +kernel
theorem dX6_byteOf_10 : decode cX6_byteOf 10 = .ok (.bipush 8, 2) := by decide +kernel
theorem dX6_byteOf_12 : decode cX6_byteOf 12 = .ok (.if_icmp .ge 7, 3) := by decide +kernel
theorem dX6_byteOf_15 : decode cX6_byteOf 15 = .ok (.iload_n 2, 1) := by decide +kernel
theorem dX6_byteOf_16 : decode cX6_byteOf 16 = .ok (.goto 26, 3) := by decide +kernel
theorem dX6_byteOf_19 : decode cX6_byteOf 19 = .ok (.iload_n 0, 1) := by decide +kernel
theorem dX6_byteOf_20 : decode cX6_byteOf 20 = .ok (.bipush 12, 2) := by decide +kernel
theorem dX6_byteOf_22 : decode cX6_byteOf 22 = .ok (.if_icmp .ge 7, 3) := by decide +kernel
theorem dX6_byteOf_25 : decode cX6_byteOf 25 = .ok (.iload_n 3, 1) := by decide +kernel
theorem dX6_byteOf_26 : decode cX6_byteOf 26 = .ok (.goto 16, 3) := by decide +kernel
theorem dX6_byteOf_29 : decode cX6_byteOf 29 = .ok (.iload_n 0, 1) := by decide +kernel
theorem dX6_byteOf_30 : decode cX6_byteOf 30 = .ok (.bipush 16, 2) := by decide +kernel
theorem dX6_byteOf_32 : decode cX6_byteOf 32 = .ok (.if_icmp .ge 8, 3) := by decide +kernel
theorem dX6_byteOf_35 : decode cX6_byteOf 35 = .ok (.iload 4, 2) := by decide +kernel
theorem dX6_byteOf_37 : decode cX6_byteOf 37 = .ok (.goto 5, 3) := by decide +kernel
theorem dX6_byteOf_40 : decode cX6_byteOf 40 = .ok (.iload 5, 2) := by decide +kernel
theorem dX6_byteOf_42 : decode cX6_byteOf 42 = .ok (.istore 6, 2) := by decide +kernel
theorem dX6_byteOf_44 : decode cX6_byteOf 44 = .ok (.iload 6, 2) := by decide +kernel
theorem dX6_byteOf_46 : decode cX6_byteOf 46 = .ok (.bipush 24, 2) := by decide +kernel
theorem dX6_byteOf_48 : decode cX6_byteOf 48 = .ok (.bipush 8, 2) := by decide +kernel
theorem dX6_byteOf_50 : decode cX6_byteOf 50 = .ok (.iload_n 0, 1) := by decide +kernel
theorem dX6_byteOf_51 : decode cX6_byteOf 51 = .ok (.iconst 4, 1) := by decide +kernel
theorem dX6_byteOf_52 : decode cX6_byteOf 52 = .ok (.irem, 1) := by decide +kernel
theorem dX6_byteOf_53 : decode cX6_byteOf 53 = .ok (.imul, 1) := by decide +kernel
theorem dX6_byteOf_54 : decode cX6_byteOf 54 = .ok (.isub, 1) := by decide +kernel
theorem dX6_byteOf_55 : decode cX6_byteOf 55 = .ok (.ishr, 1) := by decide +kernel
theorem dX6_byteOf_56 : decode cX6_byteOf 56 = .ok (.sipush 255, 3) := by decide +kernel
theorem dX6_byteOf_59 : decode cX6_byteOf 59 = .ok (.iand, 1) := by decide +kernel
theorem dX6_byteOf_60 : decode cX6_byteOf 60 = .ok (.ireturn, 1) := by decide +kernel
theorem dX6_append_0 : decode cX6_append 0 = .ok (.iconst 0, 1) := by decide +kernel
theorem dX6_append_1 : decode cX6_append 1 = .ok (.istore 6, 2) := by decide +kernel
theorem dX6_append_3 : decode cX6_append 3 = .ok (.iconst 0, 1) := by decide +kernel
theorem dX6_append_4 : decode cX6_append 4 = .ok (.istore 7, 2) := by decide +kernel
theorem dX6_append_6 : decode cX6_append 6 = .ok (.iload 7, 2) := by decide +kernel
theorem dX6_append_8 : decode cX6_append 8 = .ok (.bipush 20, 2) := by decide +kernel
theorem dX6_append_10 : decode cX6_append 10 = .ok (.if_icmp .ge 34, 3) := by decide +kernel
theorem dX6_append_13 : decode cX6_append 13 = .ok (.iload 6, 2) := by decide +kernel
theorem dX6_append_15 : decode cX6_append 15 = .ok (.iload 7, 2) := by decide +kernel
theorem dX6_append_17 : decode cX6_append 17 = .ok (.iload_n 1, 1) := by decide +kernel
theorem dX6_append_18 : decode cX6_append 18 = .ok (.iload_n 2, 1) := by decide +kernel
theorem dX6_append_19 : decode cX6_append 19 = .ok (.iload_n 3, 1) := by decide +kernel
theorem dX6_append_20 : decode cX6_append 20 = .ok (.iload 4, 2) := by decide +kernel
theorem dX6_append_22 : decode cX6_append 22 = .ok (.iload 5, 2) := by decide +kernel
theorem dX6_append_24 : decode cX6_append 24 = .ok (.invokestatic 117, 3) := by decide +kernel
theorem dX6_append_27 : decode cX6_append 27 = .ok (.ifCond .ne 7, 3) := by decide +kernel
theorem dX6_append_30 : decode cX6_append 30 = .ok (.iconst 0, 1) := by decide +kernel
theorem dX6_append_31 : decode cX6_append 31 = .ok (.goto 4, 3) := by decide +kernel
theorem dX6_append_34 : decode cX6_append 34 = .ok (.iconst 1, 1) := by decide +kernel
theorem dX6_append_35 : decode cX6_append 35 = .ok (.iadd, 1) := by decide +kernel
theorem dX6_append_36 : decode cX6_append 36 = .ok (.istore 6, 2) := by decide +kernel
theorem dX6_append_38 : decode cX6_append 38 = .ok (.iinc 7 1, 3) := by decide +kernel
theorem dX6_append_41 : decode cX6_append 41 = .ok (.goto (-35), 3) := by decide +kernel
theorem dX6_append_44 : decode cX6_append 44 = .ok (.aload_n 0, 1) := by decide +kernel
theorem dX6_append_45 : decode cX6_append 45 = .ok (.aload_n 0, 1) := by decide +kernel
theorem dX6_append_46 : decode cX6_append 46 = .ok (.getfield 121, 3) := by decide +kernel
theorem dX6_append_49 : decode cX6_append 49 = .ok (.iload 6, 2) := by decide +kernel
theorem dX6_append_51 : decode cX6_append 51 = .ok (.iadd, 1) := by decide +kernel
theorem dX6_append_52 : decode cX6_append 52 = .ok (.sipush 600, 3) := by decide +kernel
theorem dX6_append_55 : decode cX6_append 55 = .ok (.if_icmp .le 7, 3) := by decide +kernel
theorem dX6_append_58 : decode cX6_append 58 = .ok (.iconst 1, 1) := by decide +kernel
theorem dX6_append_59 : decode cX6_append 59 = .ok (.goto 4, 3) := by decide +kernel
theorem dX6_append_62 : decode cX6_append 62 = .ok (.iconst 0, 1) := by decide +kernel
theorem dX6_append_63 : decode cX6_append 63 = .ok (.putfield 95, 3) := by decide +kernel
theorem dX6_append_66 : decode cX6_append 66 = .ok (.aload_n 0, 1) := by decide +kernel
theorem dX6_append_67 : decode cX6_append 67 = .ok (.getfield 95, 3) := by decide +kernel
theorem dX6_append_70 : decode cX6_append 70 = .ok (.ifCond .le 5, 3) := by decide +kernel
theorem dX6_append_73 : decode cX6_append 73 = .ok (.iconst 0, 1) := by decide +kernel
theorem dX6_append_74 : decode cX6_append 74 = .ok (.ireturn, 1) := by decide +kernel
theorem dX6_append_75 : decode cX6_append 75 = .ok (.iconst 0, 1) := by decide +kernel
theorem dX6_append_76 : decode cX6_append 76 = .ok (.istore 7, 2) := by decide +kernel
theorem dX6_append_78 : decode cX6_append 78 = .ok (.iload 7, 2) := by decide +kernel
theorem dX6_append_80 : decode cX6_append 80 = .ok (.bipush 20, 2) := by decide +kernel
theorem dX6_append_82 : decode cX6_append 82 = .ok (.if_icmp .ge 52, 3) := by decide +kernel
theorem dX6_append_85 : decode cX6_append 85 = .ok (.iload 7, 2) := by decide +kernel
theorem dX6_append_87 : decode cX6_append 87 = .ok (.iload_n 1, 1) := by decide +kernel
theorem dX6_append_88 : decode cX6_append 88 = .ok (.iload_n 2, 1) := by decide +kernel
theorem dX6_append_89 : decode cX6_append 89 = .ok (.iload_n 3, 1) := by decide +kernel
theorem dX6_append_90 : decode cX6_append 90 = .ok (.iload 4, 2) := by decide +kernel
theorem dX6_append_92 : decode cX6_append 92 = .ok (.iload 5, 2) := by decide +kernel
theorem dX6_append_94 : decode cX6_append 94 = .ok (.invokestatic 117, 3) := by decide +kernel
theorem dX6_append_97 : decode cX6_append 97 = .ok (.istore 8, 2) := by decide +kernel
theorem dX6_append_99 : decode cX6_append 99 = .ok (.iload 8, 2) := by decide +kernel
theorem dX6_append_101 : decode cX6_append 101 = .ok (.ifCond .ne 6, 3) := by decide +kernel
theorem dX6_append_104 : decode cX6_append 104 = .ok (.goto 24, 3) := by decide +kernel
theorem dX6_append_107 : decode cX6_append 107 = .ok (.aload_n 0, 1) := by decide +kernel
theorem dX6_append_108 : decode cX6_append 108 = .ok (.getfield 29, 3) := by decide +kernel
theorem dX6_append_111 : decode cX6_append 111 = .ok (.aload_n 0, 1) := by decide +kernel
theorem dX6_append_112 : decode cX6_append 112 = .ok (.getfield 121, 3) := by decide +kernel
theorem dX6_append_115 : decode cX6_append 115 = .ok (.iload 8, 2) := by decide +kernel
theorem dX6_append_117 : decode cX6_append 117 = .ok (.iastore, 1) := by decide +kernel
theorem dX6_append_118 : decode cX6_append 118 = .ok (.aload_n 0, 1) := by decide +kernel
theorem dX6_append_119 : decode cX6_append 119 = .ok (.dup, 1) := by decide +kernel
theorem dX6_append_120 : decode cX6_append 120 = .ok (.getfield 121, 3) := by decide +kernel
theorem dX6_append_123 : decode cX6_append 123 = .ok (.iconst 1, 1) := by decide +kernel
theorem dX6_append_124 : decode cX6_append 124 = .ok (.iadd, 1) := by decide +kernel
theorem dX6_append_125 : decode cX6_append 125 = .ok (.putfield 121, 3) := by decide +kernel
theorem dX6_append_128 : decode cX6_append 128 = .ok (.iinc 7 1, 3) := by decide +kernel
theorem dX6_append_131 : decode cX6_append 131 = .ok (.goto (-53), 3) := by decide +kernel
theorem dX6_append_134 : decode cX6_append 134 = .ok (.aload_n 0, 1) := by decide +kernel
theorem dX6_append_135 : decode cX6_append 135 = .ok (.getfield 121, 3) := by decide +kernel
theorem dX6_append_138 : decode cX6_append 138 = .ok (.ireturn, 1) := by decide +kernel
theorem dX6_see_0 : decode cX6_see 0 = .ok (.iload_n 1, 1) := by decide +kernel
theorem dX6_see_1 : decode cX6_see 1 = .ok (.aload_n 0, 1) := by decide +kernel
theorem dX6_see_2 : decode cX6_see 2 = .ok (.getfield 121, 3) := by decide +kernel
theorem dX6_see_5 : decode cX6_see 5 = .ok (.if_icmp .ge 12, 3) := by decide +kernel
theorem dX6_see_8 : decode cX6_see 8 = .ok (.aload_n 0, 1) := by decide +kernel
theorem dX6_see_9 : decode cX6_see 9 = .ok (.getfield 29, 3) := by decide +kernel
theorem dX6_see_12 : decode cX6_see 12 = .ok (.iload_n 1, 1) := by decide +kernel
theorem dX6_see_13 : decode cX6_see 13 = .ok (.iaload, 1) := by decide +kernel
theorem dX6_see_14 : decode cX6_see 14 = .ok (.goto 4, 3) := by decide +kernel
theorem dX6_see_17 : decode cX6_see 17 = .ok (.iconst (-1), 1) := by decide +kernel
theorem dX6_see_18 : decode cX6_see 18 = .ok (.ireturn, 1) := by decide +kernel
theorem dX6_isLetter_0 : decode cX6_isLetter 0 = .ok (.aload_n 0, 1) := by decide +kernel
theorem dX6_isLetter_1 : decode cX6_isLetter 1 = .ok (.iload_n 1, 1) := by decide +kernel
theorem dX6_isLetter_2 : decode cX6_isLetter 2 = .ok (.invokevirtual 124, 3) := by decide +kernel
theorem dX6_isLetter_5 : decode cX6_isLetter 5 = .ok (.bipush 97, 2) := by decide +kernel
theorem dX6_isLetter_7 : decode cX6_isLetter 7 = .ok (.bipush 122, 2) := by decide +kernel
theorem dX6_isLetter_9 : decode cX6_isLetter 9 = .ok (.invokestatic 105, 3) := by decide +kernel
theorem dX6_isLetter_12 : decode cX6_isLetter 12 = .ok (.ireturn, 1) := by decide +kernel
theorem dX6_isDigit_0 : decode cX6_isDigit 0 = .ok (.aload_n 0, 1) := by decide +kernel
theorem dX6_isDigit_1 : decode cX6_isDigit 1 = .ok (.iload_n 1, 1) := by decide +kernel
theorem dX6_isDigit_2 : decode cX6_isDigit 2 = .ok (.invokevirtual 124, 3) := by decide +kernel
theorem dX6_isDigit_5 : decode cX6_isDigit 5 = .ok (.bipush 48, 2) := by decide +kernel
theorem dX6_isDigit_7 : decode cX6_isDigit 7 = .ok (.bipush 57, 2) := by decide +kernel
theorem dX6_isDigit_9 : decode cX6_isDigit 9 = .ok (.invokestatic 105, 3) := by decide +kernel
theorem dX6_isDigit_12 : decode cX6_isDigit 12 = .ok (.ireturn, 1) := by decide +kernel
theorem dX6_next_0 : decode cX6_next 0 = .ok (.aload_n 0, 1) := by decide +kernel
theorem dX6_next_1 : decode cX6_next 1 = .ok (.aload_n 0, 1) := by decide +kernel
theorem dX6_next_2 : decode cX6_next 2 = .ok (.getfield 128, 3) := by decide +kernel
theorem dX6_next_5 : decode cX6_next 5 = .ok (.putfield 73, 3) := by decide +kernel
theorem dX6_next_8 : decode cX6_next 8 = .ok (.aload_n 0, 1) := by decide +kernel
theorem dX6_next_9 : decode cX6_next 9 = .ok (.aload_n 0, 1) := by decide +kernel
theorem dX6_next_10 : decode cX6_next 10 = .ok (.getfield 73, 3) := by decide +kernel
theorem dX6_next_13 : decode cX6_next 13 = .ok (.invokevirtual 124, 3) := by decide +kernel
theorem dX6_next_16 : decode cX6_next 16 = .ok (.bipush 32, 2) := by decide +kernel
theorem dX6_next_18 : decode cX6_next 18 = .ok (.if_icmp .ne 16, 3) := by decide +kernel
theorem dX6_next_21 : decode cX6_next 21 = .ok (.aload_n 0, 1) := by decide +kernel
theorem dX6_next_22 : decode cX6_next 22 = .ok (.dup, 1) := by decide +kernel
theorem dX6_next_23 : decode cX6_next 23 = .ok (.getfield 73, 3) := by decide +kernel
theorem dX6_next_26 : decode cX6_next 26 = .ok (.iconst 1, 1) := by decide +kernel
theorem dX6_next_27 : decode cX6_next 27 = .ok (.iadd, 1) := by decide +kernel
theorem dX6_next_28 : decode cX6_next 28 = .ok (.putfield 73, 3) := by decide +kernel
theorem dX6_next_31 : decode cX6_next 31 = .ok (.goto (-23), 3) := by decide +kernel
theorem dX6_next_34 : decode cX6_next 34 = .ok (.aload_n 0, 1) := by decide +kernel
theorem dX6_next_35 : decode cX6_next 35 = .ok (.aload_n 0, 1) := by decide +kernel
theorem dX6_next_36 : decode cX6_next 36 = .ok (.getfield 73, 3) := by decide +kernel
theorem dX6_next_39 : decode cX6_next 39 = .ok (.putfield 128, 3) := by decide +kernel
theorem dX6_next_42 : decode cX6_next 42 = .ok (.aload_n 0, 1) := by decide +kernel
theorem dX6_next_43 : decode cX6_next 43 = .ok (.iconst 0, 1) := by decide +kernel
theorem dX6_next_44 : decode cX6_next 44 = .ok (.putfield 131, 3) := by decide +kernel
theorem dX6_next_47 : decode cX6_next 47 = .ok (.aload_n 0, 1) := by decide +kernel
theorem dX6_next_48 : decode cX6_next 48 = .ok (.getfield 73, 3) := by decide +kernel
theorem dX6_next_51 : decode cX6_next 51 = .ok (.aload_n 0, 1) := by decide +kernel
theorem dX6_next_52 : decode cX6_next 52 = .ok (.getfield 121, 3) := by decide +kernel
theorem dX6_next_55 : decode cX6_next 55 = .ok (.if_icmp .lt 11, 3) := by decide +kernel
theorem dX6_next_58 : decode cX6_next 58 = .ok (.aload_n 0, 1) := by decide +kernel
theorem dX6_next_59 : decode cX6_next 59 = .ok (.iconst 3, 1) := by decide +kernel
theorem dX6_next_60 : decode cX6_next 60 = .ok (.putfield 134, 3) := by decide +kernel
theorem dX6_next_63 : decode cX6_next 63 = .ok (.goto 133, 3) := by decide +kernel
theorem dX6_next_66 : decode cX6_next 66 = .ok (.aload_n 0, 1) := by decide +kernel
theorem dX6_next_67 : decode cX6_next 67 = .ok (.aload_n 0, 1) := by decide +kernel
theorem dX6_next_68 : decode cX6_next 68 = .ok (.getfield 73, 3) := by decide +kernel
theorem dX6_next_71 : decode cX6_next 71 = .ok (.invokevirtual 137, 3) := by decide +kernel
theorem dX6_next_74 : decode cX6_next 74 = .ok (.ifCond .eq 35, 3) := by decide +kernel
theorem dX6_next_77 : decode cX6_next 77 = .ok (.aload_n 0, 1) := by decide +kernel
theorem dX6_next_78 : decode cX6_next 78 = .ok (.aload_n 0, 1) := by decide +kernel
theorem dX6_next_79 : decode cX6_next 79 = .ok (.getfield 128, 3) := by decide +kernel
theorem dX6_next_82 : decode cX6_next 82 = .ok (.invokevirtual 137, 3) := by decide +kernel
theorem dX6_next_85 : decode cX6_next 85 = .ok (.ifCond .eq 16, 3) := by decide +kernel
theorem dX6_next_88 : decode cX6_next 88 = .ok (.aload_n 0, 1) := by decide +kernel
theorem dX6_next_89 : decode cX6_next 89 = .ok (.dup, 1) := by decide +kernel
theorem dX6_next_90 : decode cX6_next 90 = .ok (.getfield 128, 3) := by decide +kernel
theorem dX6_next_93 : decode cX6_next 93 = .ok (.iconst 1, 1) := by decide +kernel
theorem dX6_next_94 : decode cX6_next 94 = .ok (.iadd, 1) := by decide +kernel
theorem dX6_next_95 : decode cX6_next 95 = .ok (.putfield 128, 3) := by decide +kernel
theorem dX6_next_98 : decode cX6_next 98 = .ok (.goto (-21), 3) := by decide +kernel
theorem dX6_next_101 : decode cX6_next 101 = .ok (.aload_n 0, 1) := by decide +kernel
theorem dX6_next_102 : decode cX6_next 102 = .ok (.iconst 0, 1) := by decide +kernel
theorem dX6_next_103 : decode cX6_next 103 = .ok (.putfield 134, 3) := by decide +kernel
theorem dX6_next_106 : decode cX6_next 106 = .ok (.goto 90, 3) := by decide +kernel
theorem dX6_next_109 : decode cX6_next 109 = .ok (.aload_n 0, 1) := by decide +kernel
theorem dX6_next_110 : decode cX6_next 110 = .ok (.aload_n 0, 1) := by decide +kernel
theorem dX6_next_111 : decode cX6_next 111 = .ok (.getfield 73, 3) := by decide +kernel
theorem dX6_next_114 : decode cX6_next 114 = .ok (.invokevirtual 141, 3) := by decide +kernel
theorem dX6_next_117 : decode cX6_next 117 = .ok (.ifCond .eq 64, 3) := by decide +kernel
theorem dX6_next_120 : decode cX6_next 120 = .ok (.aload_n 0, 1) := by decide +kernel
theorem dX6_next_121 : decode cX6_next 121 = .ok (.aload_n 0, 1) := by decide +kernel
theorem dX6_next_122 : decode cX6_next 122 = .ok (.getfield 128, 3) := by decide +kernel
theorem dX6_next_125 : decode cX6_next 125 = .ok (.invokevirtual 141, 3) := by decide +kernel
theorem dX6_next_128 : decode cX6_next 128 = .ok (.ifCond .eq 45, 3) := by decide +kernel
theorem dX6_next_131 : decode cX6_next 131 = .ok (.aload_n 0, 1) := by decide +kernel
theorem dX6_next_132 : decode cX6_next 132 = .ok (.sipush 1000, 3) := by decide +kernel
theorem dX6_next_135 : decode cX6_next 135 = .ok (.bipush 10, 2) := by decide +kernel
theorem dX6_next_137 : decode cX6_next 137 = .ok (.aload_n 0, 1) := by decide +kernel
theorem dX6_next_138 : decode cX6_next 138 = .ok (.getfield 131, 3) := by decide +kernel
theorem dX6_next_141 : decode cX6_next 141 = .ok (.imul, 1) := by decide +kernel
theorem dX6_next_142 : decode cX6_next 142 = .ok (.aload_n 0, 1) := by decide +kernel
theorem dX6_next_143 : decode cX6_next 143 = .ok (.aload_n 0, 1) := by decide +kernel
theorem dX6_next_144 : decode cX6_next 144 = .ok (.getfield 128, 3) := by decide +kernel
theorem dX6_next_147 : decode cX6_next 147 = .ok (.invokevirtual 124, 3) := by decide +kernel
theorem dX6_next_150 : decode cX6_next 150 = .ok (.iadd, 1) := by decide +kernel
theorem dX6_next_151 : decode cX6_next 151 = .ok (.bipush 48, 2) := by decide +kernel
theorem dX6_next_153 : decode cX6_next 153 = .ok (.isub, 1) := by decide +kernel
theorem dX6_next_154 : decode cX6_next 154 = .ok (.invokestatic 87, 3) := by decide +kernel
theorem dX6_next_157 : decode cX6_next 157 = .ok (.putfield 131, 3) := by decide +kernel
theorem dX6_next_160 : decode cX6_next 160 = .ok (.aload_n 0, 1) := by decide +kernel
theorem dX6_next_161 : decode cX6_next 161 = .ok (.dup, 1) := by decide +kernel
theorem dX6_next_162 : decode cX6_next 162 = .ok (.getfield 128, 3) := by decide +kernel
theorem dX6_next_165 : decode cX6_next 165 = .ok (.iconst 1, 1) := by decide +kernel
theorem dX6_next_166 : decode cX6_next 166 = .ok (.iadd, 1) := by decide +kernel
theorem dX6_next_167 : decode cX6_next 167 = .ok (.putfield 128, 3) := by decide +kernel
theorem dX6_next_170 : decode cX6_next 170 = .ok (.goto (-50), 3) := by decide +kernel
theorem dX6_next_173 : decode cX6_next 173 = .ok (.aload_n 0, 1) := by decide +kernel
theorem dX6_next_174 : decode cX6_next 174 = .ok (.iconst 1, 1) := by decide +kernel
theorem dX6_next_175 : decode cX6_next 175 = .ok (.putfield 134, 3) := by decide +kernel
theorem dX6_next_178 : decode cX6_next 178 = .ok (.goto 18, 3) := by decide +kernel
theorem dX6_next_181 : decode cX6_next 181 = .ok (.aload_n 0, 1) := by decide +kernel
theorem dX6_next_182 : decode cX6_next 182 = .ok (.dup, 1) := by decide +kernel
theorem dX6_next_183 : decode cX6_next 183 = .ok (.getfield 128, 3) := by decide +kernel
theorem dX6_next_186 : decode cX6_next 186 = .ok (.iconst 1, 1) := by decide +kernel
theorem dX6_next_187 : decode cX6_next 187 = .ok (.iadd, 1) := by decide +kernel
theorem dX6_next_188 : decode cX6_next 188 = .ok (.putfield 128, 3) := by decide +kernel
theorem dX6_next_191 : decode cX6_next 191 = .ok (.aload_n 0, 1) := by decide +kernel
theorem dX6_next_192 : decode cX6_next 192 = .ok (.iconst 2, 1) := by decide +kernel
theorem dX6_next_193 : decode cX6_next 193 = .ok (.putfield 134, 3) := by decide +kernel
theorem dX6_next_196 : decode cX6_next 196 = .ok (.return_, 1) := by decide +kernel
theorem dX6_starts_0 : decode cX6_starts 0 = .ok (.aload_n 0, 1) := by decide +kernel
theorem dX6_starts_1 : decode cX6_starts 1 = .ok (.iconst 0, 1) := by decide +kernel
theorem dX6_starts_2 : decode cX6_starts 2 = .ok (.putfield 95, 3) := by decide +kernel
theorem dX6_starts_5 : decode cX6_starts 5 = .ok (.aload_n 0, 1) := by decide +kernel
theorem dX6_starts_6 : decode cX6_starts 6 = .ok (.iconst 0, 1) := by decide +kernel
theorem dX6_starts_7 : decode cX6_starts 7 = .ok (.putfield 128, 3) := by decide +kernel
theorem dX6_starts_10 : decode cX6_starts 10 = .ok (.aload_n 0, 1) := by decide +kernel
theorem dX6_starts_11 : decode cX6_starts 11 = .ok (.iconst 0, 1) := by decide +kernel
theorem dX6_starts_12 : decode cX6_starts 12 = .ok (.putfield 144, 3) := by decide +kernel
theorem dX6_starts_15 : decode cX6_starts 15 = .ok (.aload_n 0, 1) := by decide +kernel
theorem dX6_starts_16 : decode cX6_starts 16 = .ok (.invokevirtual 147, 3) := by decide +kernel
theorem dX6_starts_19 : decode cX6_starts 19 = .ok (.return_, 1) := by decide +kernel
theorem dX6_ends_0 : decode cX6_ends 0 = .ok (.aload_n 0, 1) := by decide +kernel
theorem dX6_ends_1 : decode cX6_ends 1 = .ok (.aload_n 0, 1) := by decide +kernel
theorem dX6_ends_2 : decode cX6_ends 2 = .ok (.getfield 144, 3) := by decide +kernel
theorem dX6_ends_5 : decode cX6_ends 5 = .ok (.ifCond .ne 7, 3) := by decide +kernel
theorem dX6_ends_8 : decode cX6_ends 8 = .ok (.iconst (-1), 1) := by decide +kernel
theorem dX6_ends_9 : decode cX6_ends 9 = .ok (.goto 7, 3) := by decide +kernel
theorem dX6_ends_12 : decode cX6_ends 12 = .ok (.aload_n 0, 1) := by decide +kernel
theorem dX6_ends_13 : decode cX6_ends 13 = .ok (.getfield 150, 3) := by decide +kernel
theorem dX6_ends_16 : decode cX6_ends 16 = .ok (.putfield 32, 3) := by decide +kernel
theorem dX6_ends_19 : decode cX6_ends 19 = .ok (.aload_n 0, 1) := by decide +kernel
theorem dX6_ends_20 : decode cX6_ends 20 = .ok (.iconst 0, 1) := by decide +kernel
theorem dX6_ends_21 : decode cX6_ends 21 = .ok (.putfield 121, 3) := by decide +kernel
theorem dX6_ends_24 : decode cX6_ends 24 = .ok (.return_, 1) := by decide +kernel
theorem dX6_isWord_0 : decode cX6_isWord 0 = .ok (.aload_n 0, 1) := by decide +kernel
theorem dX6_isWord_1 : decode cX6_isWord 1 = .ok (.getfield 144, 3) := by decide +kernel
theorem dX6_isWord_4 : decode cX6_isWord 4 = .ok (.ifCond .ne 26, 3) := by decide +kernel
theorem dX6_isWord_7 : decode cX6_isWord 7 = .ok (.aload_n 0, 1) := by decide +kernel
theorem dX6_isWord_8 : decode cX6_isWord 8 = .ok (.getfield 134, 3) := by decide +kernel
theorem dX6_isWord_11 : decode cX6_isWord 11 = .ok (.ifCond .ne 19, 3) := by decide +kernel
theorem dX6_isWord_14 : decode cX6_isWord 14 = .ok (.aload_n 0, 1) := by decide +kernel
theorem dX6_isWord_15 : decode cX6_isWord 15 = .ok (.getfield 128, 3) := by decide +kernel
theorem dX6_isWord_18 : decode cX6_isWord 18 = .ok (.aload_n 0, 1) := by decide +kernel
theorem dX6_isWord_19 : decode cX6_isWord 19 = .ok (.getfield 73, 3) := by decide +kernel
theorem dX6_isWord_22 : decode cX6_isWord 22 = .ok (.isub, 1) := by decide +kernel
theorem dX6_isWord_23 : decode cX6_isWord 23 = .ok (.aload_n 1, 1) := by decide +kernel
theorem dX6_isWord_24 : decode cX6_isWord 24 = .ok (.invokevirtual 153, 3) := by decide +kernel
theorem dX6_isWord_27 : decode cX6_isWord 27 = .ok (.if_icmp .eq 5, 3) := by decide +kernel
theorem dX6_isWord_30 : decode cX6_isWord 30 = .ok (.iconst 0, 1) := by decide +kernel
theorem dX6_isWord_31 : decode cX6_isWord 31 = .ok (.ireturn, 1) := by decide +kernel
theorem dX6_isWord_32 : decode cX6_isWord 32 = .ok (.iconst 0, 1) := by decide +kernel
theorem dX6_isWord_33 : decode cX6_isWord 33 = .ok (.istore_n 2, 1) := by decide +kernel
theorem dX6_isWord_34 : decode cX6_isWord 34 = .ok (.iload_n 2, 1) := by decide +kernel
theorem dX6_isWord_35 : decode cX6_isWord 35 = .ok (.aload_n 1, 1) := by decide +kernel
theorem dX6_isWord_36 : decode cX6_isWord 36 = .ok (.invokevirtual 153, 3) := by decide +kernel
theorem dX6_isWord_39 : decode cX6_isWord 39 = .ok (.if_icmp .ge 30, 3) := by decide +kernel
theorem dX6_isWord_42 : decode cX6_isWord 42 = .ok (.aload_n 0, 1) := by decide +kernel
theorem dX6_isWord_43 : decode cX6_isWord 43 = .ok (.getfield 29, 3) := by decide +kernel
theorem dX6_isWord_46 : decode cX6_isWord 46 = .ok (.aload_n 0, 1) := by decide +kernel
theorem dX6_isWord_47 : decode cX6_isWord 47 = .ok (.getfield 73, 3) := by decide +kernel
theorem dX6_isWord_50 : decode cX6_isWord 50 = .ok (.iload_n 2, 1) := by decide +kernel
theorem dX6_isWord_51 : decode cX6_isWord 51 = .ok (.iadd, 1) := by decide +kernel
theorem dX6_isWord_52 : decode cX6_isWord 52 = .ok (.iaload, 1) := by decide +kernel
theorem dX6_isWord_53 : decode cX6_isWord 53 = .ok (.aload_n 1, 1) := by decide +kernel
theorem dX6_isWord_54 : decode cX6_isWord 54 = .ok (.iload_n 2, 1) := by decide +kernel
theorem dX6_isWord_55 : decode cX6_isWord 55 = .ok (.invokevirtual 158, 3) := by decide +kernel
theorem dX6_isWord_58 : decode cX6_isWord 58 = .ok (.if_icmp .eq 5, 3) := by decide +kernel
theorem dX6_isWord_61 : decode cX6_isWord 61 = .ok (.iconst 0, 1) := by decide +kernel
theorem dX6_isWord_62 : decode cX6_isWord 62 = .ok (.ireturn, 1) := by decide +kernel
theorem dX6_isWord_63 : decode cX6_isWord 63 = .ok (.iinc 2 1, 3) := by decide +kernel
theorem dX6_isWord_66 : decode cX6_isWord 66 = .ok (.goto (-32), 3) := by decide +kernel
theorem dX6_isWord_69 : decode cX6_isWord 69 = .ok (.iconst 1, 1) := by decide +kernel
theorem dX6_isWord_70 : decode cX6_isWord 70 = .ok (.ireturn, 1) := by decide +kernel
theorem dX6_fails_0 : decode cX6_fails 0 = .ok (.aload_n 0, 1) := by decide +kernel
theorem dX6_fails_1 : decode cX6_fails 1 = .ok (.getfield 144, 3) := by decide +kernel
theorem dX6_fails_4 : decode cX6_fails 4 = .ok (.ifCond .eq 4, 3) := by decide +kernel
theorem dX6_fails_7 : decode cX6_fails 7 = .ok (.return_, 1) := by decide +kernel
theorem dX6_fails_8 : decode cX6_fails 8 = .ok (.aload_n 0, 1) := by decide +kernel
theorem dX6_fails_9 : decode cX6_fails 9 = .ok (.iload_n 1, 1) := by decide +kernel
theorem dX6_fails_10 : decode cX6_fails 10 = .ok (.putfield 144, 3) := by decide +kernel
theorem dX6_fails_13 : decode cX6_fails 13 = .ok (.aload_n 0, 1) := by decide +kernel
theorem dX6_fails_14 : decode cX6_fails 14 = .ok (.aload_n 0, 1) := by decide +kernel
theorem dX6_fails_15 : decode cX6_fails 15 = .ok (.getfield 73, 3) := by decide +kernel
theorem dX6_fails_18 : decode cX6_fails 18 = .ok (.putfield 150, 3) := by decide +kernel
theorem dX6_fails_21 : decode cX6_fails 21 = .ok (.return_, 1) := by decide +kernel
theorem dX6_must_0 : decode cX6_must 0 = .ok (.iload_n 1, 1) := by decide +kernel
theorem dX6_must_1 : decode cX6_must 1 = .ok (.ifCond .ne 9, 3) := by decide +kernel
theorem dX6_must_4 : decode cX6_must 4 = .ok (.aload_n 0, 1) := by decide +kernel
theorem dX6_must_5 : decode cX6_must 5 = .ok (.bipush (-2), 2) := by decide +kernel
theorem dX6_must_7 : decode cX6_must 7 = .ok (.invokevirtual 162, 3) := by decide +kernel
theorem dX6_must_10 : decode cX6_must 10 = .ok (.aload_n 0, 1) := by decide +kernel
theorem dX6_must_11 : decode cX6_must 11 = .ok (.getfield 144, 3) := by decide +kernel
theorem dX6_must_14 : decode cX6_must 14 = .ok (.ifCond .ne 7, 3) := by decide +kernel
theorem dX6_must_17 : decode cX6_must 17 = .ok (.aload_n 0, 1) := by decide +kernel
theorem dX6_must_18 : decode cX6_must 18 = .ok (.invokevirtual 147, 3) := by decide +kernel
theorem dX6_must_21 : decode cX6_must 21 = .ok (.return_, 1) := by decide +kernel
theorem dX6_mustEnd_0 : decode cX6_mustEnd 0 = .ok (.aload_n 0, 1) := by decide +kernel
theorem dX6_mustEnd_1 : decode cX6_mustEnd 1 = .ok (.aload_n 0, 1) := by decide +kernel
theorem dX6_mustEnd_2 : decode cX6_mustEnd 2 = .ok (.getfield 134, 3) := by decide +kernel
theorem dX6_mustEnd_5 : decode cX6_mustEnd 5 = .ok (.iconst 2, 1) := by decide +kernel
theorem dX6_mustEnd_6 : decode cX6_mustEnd 6 = .ok (.if_icmp .ne 20, 3) := by decide +kernel
theorem dX6_mustEnd_9 : decode cX6_mustEnd 9 = .ok (.aload_n 0, 1) := by decide +kernel
theorem dX6_mustEnd_10 : decode cX6_mustEnd 10 = .ok (.aload_n 0, 1) := by decide +kernel
theorem dX6_mustEnd_11 : decode cX6_mustEnd 11 = .ok (.getfield 73, 3) := by decide +kernel
theorem dX6_mustEnd_14 : decode cX6_mustEnd 14 = .ok (.invokevirtual 124, 3) := by decide +kernel
theorem dX6_mustEnd_17 : decode cX6_mustEnd 17 = .ok (.bipush 59, 2) := by decide +kernel
theorem dX6_mustEnd_19 : decode cX6_mustEnd 19 = .ok (.if_icmp .ne 7, 3) := by decide +kernel
theorem dX6_mustEnd_22 : decode cX6_mustEnd 22 = .ok (.iconst 1, 1) := by decide +kernel
theorem dX6_mustEnd_23 : decode cX6_mustEnd 23 = .ok (.goto 4, 3) := by decide +kernel
theorem dX6_mustEnd_26 : decode cX6_mustEnd 26 = .ok (.iconst 0, 1) := by decide +kernel
theorem dX6_mustEnd_27 : decode cX6_mustEnd 27 = .ok (.invokevirtual 166, 3) := by decide +kernel
theorem dX6_mustEnd_30 : decode cX6_mustEnd 30 = .ok (.return_, 1) := by decide +kernel
theorem dX6_takes_0 : decode cX6_takes 0 = .ok (.aload_n 0, 1) := by decide +kernel
theorem dX6_takes_1 : decode cX6_takes 1 = .ok (.getfield 144, 3) := by decide +kernel
theorem dX6_takes_4 : decode cX6_takes 4 = .ok (.ifCond .ne 17, 3) := by decide +kernel
theorem dX6_takes_7 : decode cX6_takes 7 = .ok (.aload_n 0, 1) := by decide +kernel
theorem dX6_takes_8 : decode cX6_takes 8 = .ok (.getfield 134, 3) := by decide +kernel
theorem dX6_takes_11 : decode cX6_takes 11 = .ok (.iconst 1, 1) := by decide +kernel
theorem dX6_takes_12 : decode cX6_takes 12 = .ok (.if_icmp .eq 9, 3) := by decide +kernel
theorem dX6_takes_15 : decode cX6_takes 15 = .ok (.aload_n 0, 1) := by decide +kernel
theorem dX6_takes_16 : decode cX6_takes 16 = .ok (.bipush (-2), 2) := by decide +kernel
theorem dX6_takes_18 : decode cX6_takes 18 = .ok (.invokevirtual 162, 3) := by decide +kernel
theorem dX6_takes_21 : decode cX6_takes 21 = .ok (.aload_n 0, 1) := by decide +kernel
theorem dX6_takes_22 : decode cX6_takes 22 = .ok (.getfield 144, 3) := by decide +kernel
theorem dX6_takes_25 : decode cX6_takes 25 = .ok (.ifCond .ne 21, 3) := by decide +kernel
theorem dX6_takes_28 : decode cX6_takes 28 = .ok (.aload_n 0, 1) := by decide +kernel
theorem dX6_takes_29 : decode cX6_takes 29 = .ok (.getfield 131, 3) := by decide +kernel
theorem dX6_takes_32 : decode cX6_takes 32 = .ok (.iload_n 1, 1) := by decide +kernel
theorem dX6_takes_33 : decode cX6_takes 33 = .ok (.iload_n 2, 1) := by decide +kernel
theorem dX6_takes_34 : decode cX6_takes 34 = .ok (.invokestatic 105, 3) := by decide +kernel
theorem dX6_takes_37 : decode cX6_takes 37 = .ok (.ifCond .ne 9, 3) := by decide +kernel
theorem dX6_takes_40 : decode cX6_takes 40 = .ok (.aload_n 0, 1) := by decide +kernel
theorem dX6_takes_41 : decode cX6_takes 41 = .ok (.bipush (-3), 2) := by decide +kernel
theorem dX6_takes_43 : decode cX6_takes 43 = .ok (.invokevirtual 162, 3) := by decide +kernel
theorem dX6_takes_46 : decode cX6_takes 46 = .ok (.aload_n 0, 1) := by decide +kernel
theorem dX6_takes_47 : decode cX6_takes 47 = .ok (.getfield 144, 3) := by decide +kernel
theorem dX6_takes_50 : decode cX6_takes 50 = .ok (.ifCond .ne 17, 3) := by decide +kernel
theorem dX6_takes_53 : decode cX6_takes 53 = .ok (.aload_n 0, 1) := by decide +kernel
theorem dX6_takes_54 : decode cX6_takes 54 = .ok (.getfield 131, 3) := by decide +kernel
theorem dX6_takes_57 : decode cX6_takes 57 = .ok (.iload_n 3, 1) := by decide +kernel
theorem dX6_takes_58 : decode cX6_takes 58 = .ok (.if_icmp .ge 9, 3) := by decide +kernel
theorem dX6_takes_61 : decode cX6_takes 61 = .ok (.aload_n 0, 1) := by decide +kernel
theorem dX6_takes_62 : decode cX6_takes 62 = .ok (.bipush (-4), 2) := by decide +kernel
theorem dX6_takes_64 : decode cX6_takes 64 = .ok (.invokevirtual 162, 3) := by decide +kernel
theorem dX6_takes_67 : decode cX6_takes 67 = .ok (.aload_n 0, 1) := by decide +kernel
theorem dX6_takes_68 : decode cX6_takes 68 = .ok (.getfield 144, 3) := by decide +kernel
theorem dX6_takes_71 : decode cX6_takes 71 = .ok (.ifCond .ne 10, 3) := by decide +kernel
theorem dX6_takes_74 : decode cX6_takes 74 = .ok (.aload_n 0, 1) := by decide +kernel
theorem dX6_takes_75 : decode cX6_takes 75 = .ok (.getfield 131, 3) := by decide +kernel
theorem dX6_takes_78 : decode cX6_takes 78 = .ok (.goto 4, 3) := by decide +kernel
theorem dX6_takes_81 : decode cX6_takes 81 = .ok (.iconst 0, 1) := by decide +kernel
theorem dX6_takes_82 : decode cX6_takes 82 = .ok (.istore 4, 2) := by decide +kernel
theorem dX6_takes_84 : decode cX6_takes 84 = .ok (.aload_n 0, 1) := by decide +kernel
theorem dX6_takes_85 : decode cX6_takes 85 = .ok (.getfield 144, 3) := by decide +kernel
theorem dX6_takes_88 : decode cX6_takes 88 = .ok (.ifCond .ne 7, 3) := by decide +kernel
theorem dX6_takes_91 : decode cX6_takes 91 = .ok (.aload_n 0, 1) := by decide +kernel
theorem dX6_takes_92 : decode cX6_takes 92 = .ok (.invokevirtual 147, 3) := by decide +kernel
theorem dX6_takes_95 : decode cX6_takes 95 = .ok (.iload 4, 2) := by decide +kernel
theorem dX6_takes_97 : decode cX6_takes 97 = .ok (.ireturn, 1) := by decide +kernel
theorem dX6_nameOf_0 : decode cX6_nameOf 0 = .ok (.iload_n 0, 1) := by decide +kernel
theorem dX6_nameOf_1 : decode cX6_nameOf 1 = .ok (.tableswitch 78 0 8 #[51, 54, 57, 60, 63, 66, 69, 72, 75], 51) := by decide +kernel
theorem dX6_nameOf_52 : decode cX6_nameOf 52 = .ok (.ldc 170, 2) := by decide +kernel
theorem dX6_nameOf_54 : decode cX6_nameOf 54 = .ok (.areturn, 1) := by decide +kernel
theorem dX6_nameOf_55 : decode cX6_nameOf 55 = .ok (.ldc 172, 2) := by decide +kernel
theorem dX6_nameOf_57 : decode cX6_nameOf 57 = .ok (.areturn, 1) := by decide +kernel
theorem dX6_nameOf_58 : decode cX6_nameOf 58 = .ok (.ldc 174, 2) := by decide +kernel
theorem dX6_nameOf_60 : decode cX6_nameOf 60 = .ok (.areturn, 1) := by decide +kernel
theorem dX6_nameOf_61 : decode cX6_nameOf 61 = .ok (.ldc 176, 2) := by decide +kernel
theorem dX6_nameOf_63 : decode cX6_nameOf 63 = .ok (.areturn, 1) := by decide +kernel
theorem dX6_nameOf_64 : decode cX6_nameOf 64 = .ok (.ldc 178, 2) := by decide +kernel
theorem dX6_nameOf_66 : decode cX6_nameOf 66 = .ok (.areturn, 1) := by decide +kernel
theorem dX6_nameOf_67 : decode cX6_nameOf 67 = .ok (.ldc 180, 2) := by decide +kernel
theorem dX6_nameOf_69 : decode cX6_nameOf 69 = .ok (.areturn, 1) := by decide +kernel
theorem dX6_nameOf_70 : decode cX6_nameOf 70 = .ok (.ldc 182, 2) := by decide +kernel
theorem dX6_nameOf_72 : decode cX6_nameOf 72 = .ok (.areturn, 1) := by decide +kernel
theorem dX6_nameOf_73 : decode cX6_nameOf 73 = .ok (.ldc 184, 2) := by decide +kernel
theorem dX6_nameOf_75 : decode cX6_nameOf 75 = .ok (.areturn, 1) := by decide +kernel
theorem dX6_nameOf_76 : decode cX6_nameOf 76 = .ok (.ldc 186, 2) := by decide +kernel
theorem dX6_nameOf_78 : decode cX6_nameOf 78 = .ok (.areturn, 1) := by decide +kernel
theorem dX6_nameOf_79 : decode cX6_nameOf 79 = .ok (.ldc 188, 2) := by decide +kernel
theorem dX6_nameOf_81 : decode cX6_nameOf 81 = .ok (.areturn, 1) := by decide +kernel
theorem dX6_readsWeight_0 : decode cX6_readsWeight 0 = .ok (.aload_n 0, 1) := by decide +kernel
theorem dX6_readsWeight_1 : decode cX6_readsWeight 1 = .ok (.iconst 1, 1) := by decide +kernel
theorem dX6_readsWeight_2 : decode cX6_readsWeight 2 = .ok (.invokevirtual 166, 3) := by decide +kernel
theorem dX6_readsWeight_5 : decode cX6_readsWeight 5 = .ok (.iconst 0, 1) := by decide +kernel
theorem dX6_readsWeight_6 : decode cX6_readsWeight 6 = .ok (.istore_n 1, 1) := by decide +kernel
theorem dX6_readsWeight_7 : decode cX6_readsWeight 7 = .ok (.iload_n 1, 1) := by decide +kernel
theorem dX6_readsWeight_8 : decode cX6_readsWeight 8 = .ok (.bipush 10, 2) := by decide +kernel
theorem dX6_readsWeight_10 : decode cX6_readsWeight 10 = .ok (.if_icmp .ge 20, 3) := by decide +kernel
theorem dX6_readsWeight_13 : decode cX6_readsWeight 13 = .ok (.aload_n 0, 1) := by decide +kernel
theorem dX6_readsWeight_14 : decode cX6_readsWeight 14 = .ok (.iload_n 1, 1) := by decide +kernel
theorem dX6_readsWeight_15 : decode cX6_readsWeight 15 = .ok (.invokestatic 190, 3) := by decide +kernel
theorem dX6_readsWeight_18 : decode cX6_readsWeight 18 = .ok (.invokevirtual 194, 3) := by decide +kernel
theorem dX6_readsWeight_21 : decode cX6_readsWeight 21 = .ok (.ifCond .ne 9, 3) := by decide +kernel
theorem dX6_readsWeight_24 : decode cX6_readsWeight 24 = .ok (.iinc 1 1, 3) := by decide +kernel
theorem dX6_readsWeight_27 : decode cX6_readsWeight 27 = .ok (.goto (-20), 3) := by decide +kernel
theorem dX6_readsWeight_30 : decode cX6_readsWeight 30 = .ok (.aload_n 0, 1) := by decide +kernel
theorem dX6_readsWeight_31 : decode cX6_readsWeight 31 = .ok (.iload_n 1, 1) := by decide +kernel
theorem dX6_readsWeight_32 : decode cX6_readsWeight 32 = .ok (.bipush 10, 2) := by decide +kernel
theorem dX6_readsWeight_34 : decode cX6_readsWeight 34 = .ok (.if_icmp .ge 7, 3) := by decide +kernel
theorem dX6_readsWeight_37 : decode cX6_readsWeight 37 = .ok (.iconst 1, 1) := by decide +kernel
theorem dX6_readsWeight_38 : decode cX6_readsWeight 38 = .ok (.goto 4, 3) := by decide +kernel
theorem dX6_readsWeight_41 : decode cX6_readsWeight 41 = .ok (.iconst 0, 1) := by decide +kernel
theorem dX6_readsWeight_42 : decode cX6_readsWeight 42 = .ok (.invokevirtual 166, 3) := by decide +kernel
theorem dX6_readsWeight_45 : decode cX6_readsWeight 45 = .ok (.aload_n 0, 1) := by decide +kernel
theorem dX6_readsWeight_46 : decode cX6_readsWeight 46 = .ok (.iconst 0, 1) := by decide +kernel
theorem dX6_readsWeight_47 : decode cX6_readsWeight 47 = .ok (.bipush 99, 2) := by decide +kernel
theorem dX6_readsWeight_49 : decode cX6_readsWeight 49 = .ok (.iconst 0, 1) := by decide +kernel
theorem dX6_readsWeight_50 : decode cX6_readsWeight 50 = .ok (.invokevirtual 198, 3) := by decide +kernel
theorem dX6_readsWeight_53 : decode cX6_readsWeight 53 = .ok (.istore_n 2, 1) := by decide +kernel
theorem dX6_readsWeight_54 : decode cX6_readsWeight 54 = .ok (.aload_n 0, 1) := by decide +kernel
theorem dX6_readsWeight_55 : decode cX6_readsWeight 55 = .ok (.invokevirtual 202, 3) := by decide +kernel
theorem dX6_readsWeight_58 : decode cX6_readsWeight 58 = .ok (.aload_n 0, 1) := by decide +kernel
theorem dX6_readsWeight_59 : decode cX6_readsWeight 59 = .ok (.getfield 144, 3) := by decide +kernel
theorem dX6_readsWeight_62 : decode cX6_readsWeight 62 = .ok (.ifCond .ne 12, 3) := by decide +kernel
theorem dX6_readsWeight_65 : decode cX6_readsWeight 65 = .ok (.aload_n 0, 1) := by decide +kernel
theorem dX6_readsWeight_66 : decode cX6_readsWeight 66 = .ok (.getfield 7, 3) := by decide +kernel
theorem dX6_readsWeight_69 : decode cX6_readsWeight 69 = .ok (.iconst 2, 1) := by decide +kernel
theorem dX6_readsWeight_70 : decode cX6_readsWeight 70 = .ok (.iload_n 1, 1) := by decide +kernel
theorem dX6_readsWeight_71 : decode cX6_readsWeight 71 = .ok (.iadd, 1) := by decide +kernel
theorem dX6_readsWeight_72 : decode cX6_readsWeight 72 = .ok (.iload_n 2, 1) := by decide +kernel
theorem dX6_readsWeight_73 : decode cX6_readsWeight 73 = .ok (.iastore, 1) := by decide +kernel
theorem dX6_readsWeight_74 : decode cX6_readsWeight 74 = .ok (.return_, 1) := by decide +kernel
theorem dX6_readsSpan_0 : decode cX6_readsSpan 0 = .ok (.aload_n 0, 1) := by decide +kernel
theorem dX6_readsSpan_1 : decode cX6_readsSpan 1 = .ok (.iconst 1, 1) := by decide +kernel
theorem dX6_readsSpan_2 : decode cX6_readsSpan 2 = .ok (.invokevirtual 166, 3) := by decide +kernel
theorem dX6_readsSpan_5 : decode cX6_readsSpan 5 = .ok (.aload_n 0, 1) := by decide +kernel
theorem dX6_readsSpan_6 : decode cX6_readsSpan 6 = .ok (.iconst 1, 1) := by decide +kernel
theorem dX6_readsSpan_7 : decode cX6_readsSpan 7 = .ok (.iconst 5, 1) := by decide +kernel
theorem dX6_readsSpan_8 : decode cX6_readsSpan 8 = .ok (.iconst 1, 1) := by decide +kernel
theorem dX6_readsSpan_9 : decode cX6_readsSpan 9 = .ok (.invokevirtual 198, 3) := by decide +kernel
theorem dX6_readsSpan_12 : decode cX6_readsSpan 12 = .ok (.istore_n 1, 1) := by decide +kernel
theorem dX6_readsSpan_13 : decode cX6_readsSpan 13 = .ok (.aload_n 0, 1) := by decide +kernel
theorem dX6_readsSpan_14 : decode cX6_readsSpan 14 = .ok (.iconst 1, 1) := by decide +kernel
theorem dX6_readsSpan_15 : decode cX6_readsSpan 15 = .ok (.iconst 5, 1) := by decide +kernel
theorem dX6_readsSpan_16 : decode cX6_readsSpan 16 = .ok (.iload_n 1, 1) := by decide +kernel
theorem dX6_readsSpan_17 : decode cX6_readsSpan 17 = .ok (.iconst 1, 1) := by decide +kernel
theorem dX6_readsSpan_18 : decode cX6_readsSpan 18 = .ok (.iadd, 1) := by decide +kernel
theorem dX6_readsSpan_19 : decode cX6_readsSpan 19 = .ok (.invokevirtual 198, 3) := by decide +kernel
theorem dX6_readsSpan_22 : decode cX6_readsSpan 22 = .ok (.istore_n 2, 1) := by decide +kernel
theorem dX6_readsSpan_23 : decode cX6_readsSpan 23 = .ok (.aload_n 0, 1) := by decide +kernel
theorem dX6_readsSpan_24 : decode cX6_readsSpan 24 = .ok (.iconst 1, 1) := by decide +kernel
theorem dX6_readsSpan_25 : decode cX6_readsSpan 25 = .ok (.bipush 24, 2) := by decide +kernel
theorem dX6_readsSpan_27 : decode cX6_readsSpan 27 = .ok (.iconst 1, 1) := by decide +kernel
theorem dX6_readsSpan_28 : decode cX6_readsSpan 28 = .ok (.invokevirtual 198, 3) := by decide +kernel
theorem dX6_readsSpan_31 : decode cX6_readsSpan 31 = .ok (.istore_n 3, 1) := by decide +kernel
theorem dX6_readsSpan_32 : decode cX6_readsSpan 32 = .ok (.aload_n 0, 1) := by decide +kernel
theorem dX6_readsSpan_33 : decode cX6_readsSpan 33 = .ok (.iconst 1, 1) := by decide +kernel
theorem dX6_readsSpan_34 : decode cX6_readsSpan 34 = .ok (.bipush 24, 2) := by decide +kernel
theorem dX6_readsSpan_36 : decode cX6_readsSpan 36 = .ok (.iload_n 3, 1) := by decide +kernel
theorem dX6_readsSpan_37 : decode cX6_readsSpan 37 = .ok (.invokevirtual 198, 3) := by decide +kernel
theorem dX6_readsSpan_40 : decode cX6_readsSpan 40 = .ok (.istore 4, 2) := by decide +kernel
theorem dX6_readsSpan_42 : decode cX6_readsSpan 42 = .ok (.aload_n 0, 1) := by decide +kernel
theorem dX6_readsSpan_43 : decode cX6_readsSpan 43 = .ok (.iconst 1, 1) := by decide +kernel
theorem dX6_readsSpan_44 : decode cX6_readsSpan 44 = .ok (.bipush 24, 2) := by decide +kernel
theorem dX6_readsSpan_46 : decode cX6_readsSpan 46 = .ok (.iload 4, 2) := by decide +kernel
theorem dX6_readsSpan_48 : decode cX6_readsSpan 48 = .ok (.invokevirtual 198, 3) := by decide +kernel
theorem dX6_readsSpan_51 : decode cX6_readsSpan 51 = .ok (.istore 5, 2) := by decide +kernel
theorem dX6_readsSpan_53 : decode cX6_readsSpan 53 = .ok (.aload_n 0, 1) := by decide +kernel
theorem dX6_readsSpan_54 : decode cX6_readsSpan 54 = .ok (.invokevirtual 202, 3) := by decide +kernel
theorem dX6_readsSpan_57 : decode cX6_readsSpan 57 = .ok (.aload_n 0, 1) := by decide +kernel
theorem dX6_readsSpan_58 : decode cX6_readsSpan 58 = .ok (.getfield 144, 3) := by decide +kernel
theorem dX6_readsSpan_61 : decode cX6_readsSpan 61 = .ok (.ifCond .ne 14, 3) := by decide +kernel
theorem dX6_readsSpan_64 : decode cX6_readsSpan 64 = .ok (.aload_n 0, 1) := by decide +kernel
theorem dX6_readsSpan_65 : decode cX6_readsSpan 65 = .ok (.iload_n 1, 1) := by decide +kernel
theorem dX6_readsSpan_66 : decode cX6_readsSpan 66 = .ok (.iload_n 2, 1) := by decide +kernel
theorem dX6_readsSpan_67 : decode cX6_readsSpan 67 = .ok (.iload_n 3, 1) := by decide +kernel
theorem dX6_readsSpan_68 : decode cX6_readsSpan 68 = .ok (.iload 4, 2) := by decide +kernel
theorem dX6_readsSpan_70 : decode cX6_readsSpan 70 = .ok (.iload 5, 2) := by decide +kernel
theorem dX6_readsSpan_72 : decode cX6_readsSpan 72 = .ok (.invokevirtual 84, 3) := by decide +kernel
theorem dX6_readsSpan_75 : decode cX6_readsSpan 75 = .ok (.return_, 1) := by decide +kernel
theorem dX6_readsEvent_0 : decode cX6_readsEvent 0 = .ok (.aload_n 0, 1) := by decide +kernel
theorem dX6_readsEvent_1 : decode cX6_readsEvent 1 = .ok (.invokevirtual 113, 3) := by decide +kernel
theorem dX6_readsEvent_4 : decode cX6_readsEvent 4 = .ok (.bipush 40, 2) := by decide +kernel
theorem dX6_readsEvent_6 : decode cX6_readsEvent 6 = .ok (.if_icmp .ne 9, 3) := by decide +kernel
theorem dX6_readsEvent_9 : decode cX6_readsEvent 9 = .ok (.aload_n 0, 1) := by decide +kernel
theorem dX6_readsEvent_10 : decode cX6_readsEvent 10 = .ok (.bipush (-5), 2) := by decide +kernel
theorem dX6_readsEvent_12 : decode cX6_readsEvent 12 = .ok (.invokevirtual 162, 3) := by decide +kernel
theorem dX6_readsEvent_15 : decode cX6_readsEvent 15 = .ok (.aload_n 0, 1) := by decide +kernel
theorem dX6_readsEvent_16 : decode cX6_readsEvent 16 = .ok (.getfield 144, 3) := by decide +kernel
theorem dX6_readsEvent_19 : decode cX6_readsEvent 19 = .ok (.ifCond .eq 4, 3) := by decide +kernel
theorem dX6_readsEvent_22 : decode cX6_readsEvent 22 = .ok (.return_, 1) := by decide +kernel
theorem dX6_readsEvent_23 : decode cX6_readsEvent 23 = .ok (.aload_n 0, 1) := by decide +kernel
theorem dX6_readsEvent_24 : decode cX6_readsEvent 24 = .ok (.iconst 1, 1) := by decide +kernel
theorem dX6_readsEvent_25 : decode cX6_readsEvent 25 = .ok (.invokevirtual 166, 3) := by decide +kernel
theorem dX6_readsEvent_28 : decode cX6_readsEvent 28 = .ok (.bipush 42, 2) := by decide +kernel
theorem dX6_readsEvent_30 : decode cX6_readsEvent 30 = .ok (.bipush 8, 2) := by decide +kernel
theorem dX6_readsEvent_32 : decode cX6_readsEvent 32 = .ok (.aload_n 0, 1) := by decide +kernel
theorem dX6_readsEvent_33 : decode cX6_readsEvent 33 = .ok (.invokevirtual 113, 3) := by decide +kernel
theorem dX6_readsEvent_36 : decode cX6_readsEvent 36 = .ok (.imul, 1) := by decide +kernel
theorem dX6_readsEvent_37 : decode cX6_readsEvent 37 = .ok (.iadd, 1) := by decide +kernel
theorem dX6_readsEvent_38 : decode cX6_readsEvent 38 = .ok (.istore_n 1, 1) := by decide +kernel
theorem dX6_readsEvent_39 : decode cX6_readsEvent 39 = .ok (.iconst 0, 1) := by decide +kernel
theorem dX6_readsEvent_40 : decode cX6_readsEvent 40 = .ok (.istore_n 2, 1) := by decide +kernel
theorem dX6_readsEvent_41 : decode cX6_readsEvent 41 = .ok (.aload_n 0, 1) := by decide +kernel
theorem dX6_readsEvent_42 : decode cX6_readsEvent 42 = .ok (.getfield 7, 3) := by decide +kernel
theorem dX6_readsEvent_45 : decode cX6_readsEvent 45 = .ok (.iload_n 1, 1) := by decide +kernel
theorem dX6_readsEvent_46 : decode cX6_readsEvent 46 = .ok (.iconst 1, 1) := by decide +kernel
theorem dX6_readsEvent_47 : decode cX6_readsEvent 47 = .ok (.iadd, 1) := by decide +kernel
theorem dX6_readsEvent_48 : decode cX6_readsEvent 48 = .ok (.iconst 0, 1) := by decide +kernel
theorem dX6_readsEvent_49 : decode cX6_readsEvent 49 = .ok (.iastore, 1) := by decide +kernel
theorem dX6_readsEvent_50 : decode cX6_readsEvent 50 = .ok (.iload_n 2, 1) := by decide +kernel
theorem dX6_readsEvent_51 : decode cX6_readsEvent 51 = .ok (.iconst 3, 1) := by decide +kernel
theorem dX6_readsEvent_52 : decode cX6_readsEvent 52 = .ok (.if_icmp .ne 9, 3) := by decide +kernel
theorem dX6_readsEvent_55 : decode cX6_readsEvent 55 = .ok (.aload_n 0, 1) := by decide +kernel
theorem dX6_readsEvent_56 : decode cX6_readsEvent 56 = .ok (.bipush (-5), 2) := by decide +kernel
theorem dX6_readsEvent_58 : decode cX6_readsEvent 58 = .ok (.invokevirtual 162, 3) := by decide +kernel
theorem dX6_readsEvent_61 : decode cX6_readsEvent 61 = .ok (.aload_n 0, 1) := by decide +kernel
theorem dX6_readsEvent_62 : decode cX6_readsEvent 62 = .ok (.bipush 21, 2) := by decide +kernel
theorem dX6_readsEvent_64 : decode cX6_readsEvent 64 = .ok (.bipush 108, 2) := by decide +kernel
theorem dX6_readsEvent_66 : decode cX6_readsEvent 66 = .ok (.iload_n 2, 1) := by decide +kernel
theorem dX6_readsEvent_67 : decode cX6_readsEvent 67 = .ok (.ifCond .ne 8, 3) := by decide +kernel
theorem dX6_readsEvent_70 : decode cX6_readsEvent 70 = .ok (.bipush 21, 2) := by decide +kernel
theorem dX6_readsEvent_72 : decode cX6_readsEvent 72 = .ok (.goto 15, 3) := by decide +kernel
theorem dX6_readsEvent_75 : decode cX6_readsEvent 75 = .ok (.aload_n 0, 1) := by decide +kernel
theorem dX6_readsEvent_76 : decode cX6_readsEvent 76 = .ok (.getfield 7, 3) := by decide +kernel
theorem dX6_readsEvent_79 : decode cX6_readsEvent 79 = .ok (.iload_n 1, 1) := by decide +kernel
theorem dX6_readsEvent_80 : decode cX6_readsEvent 80 = .ok (.iconst 1, 1) := by decide +kernel
theorem dX6_readsEvent_81 : decode cX6_readsEvent 81 = .ok (.iadd, 1) := by decide +kernel
theorem dX6_readsEvent_82 : decode cX6_readsEvent 82 = .ok (.iload_n 2, 1) := by decide +kernel
theorem dX6_readsEvent_83 : decode cX6_readsEvent 83 = .ok (.iadd, 1) := by decide +kernel
theorem dX6_readsEvent_84 : decode cX6_readsEvent 84 = .ok (.iaload, 1) := by decide +kernel
theorem dX6_readsEvent_85 : decode cX6_readsEvent 85 = .ok (.iconst 1, 1) := by decide +kernel
theorem dX6_readsEvent_86 : decode cX6_readsEvent 86 = .ok (.iadd, 1) := by decide +kernel
theorem dX6_readsEvent_87 : decode cX6_readsEvent 87 = .ok (.invokevirtual 198, 3) := by decide +kernel
theorem dX6_readsEvent_90 : decode cX6_readsEvent 90 = .ok (.istore_n 3, 1) := by decide +kernel
theorem dX6_readsEvent_91 : decode cX6_readsEvent 91 = .ok (.aload_n 0, 1) := by decide +kernel
theorem dX6_readsEvent_92 : decode cX6_readsEvent 92 = .ok (.getfield 144, 3) := by decide +kernel
theorem dX6_readsEvent_95 : decode cX6_readsEvent 95 = .ok (.ifCond .eq 4, 3) := by decide +kernel
theorem dX6_readsEvent_98 : decode cX6_readsEvent 98 = .ok (.return_, 1) := by decide +kernel
theorem dX6_readsEvent_99 : decode cX6_readsEvent 99 = .ok (.aload_n 0, 1) := by decide +kernel
theorem dX6_readsEvent_100 : decode cX6_readsEvent 100 = .ok (.getfield 7, 3) := by decide +kernel
theorem dX6_readsEvent_103 : decode cX6_readsEvent 103 = .ok (.iload_n 1, 1) := by decide +kernel
theorem dX6_readsEvent_104 : decode cX6_readsEvent 104 = .ok (.iconst 2, 1) := by decide +kernel
theorem dX6_readsEvent_105 : decode cX6_readsEvent 105 = .ok (.iadd, 1) := by decide +kernel
theorem dX6_readsEvent_106 : decode cX6_readsEvent 106 = .ok (.iload_n 2, 1) := by decide +kernel
theorem dX6_readsEvent_107 : decode cX6_readsEvent 107 = .ok (.iadd, 1) := by decide +kernel
theorem dX6_readsEvent_108 : decode cX6_readsEvent 108 = .ok (.iload_n 3, 1) := by decide +kernel
theorem dX6_readsEvent_109 : decode cX6_readsEvent 109 = .ok (.iastore, 1) := by decide +kernel
theorem dX6_readsEvent_110 : decode cX6_readsEvent 110 = .ok (.aload_n 0, 1) := by decide +kernel
theorem dX6_readsEvent_111 : decode cX6_readsEvent 111 = .ok (.getfield 7, 3) := by decide +kernel
theorem dX6_readsEvent_114 : decode cX6_readsEvent 114 = .ok (.iload_n 1, 1) := by decide +kernel
theorem dX6_readsEvent_115 : decode cX6_readsEvent 115 = .ok (.iconst 5, 1) := by decide +kernel
theorem dX6_readsEvent_116 : decode cX6_readsEvent 116 = .ok (.iadd, 1) := by decide +kernel
theorem dX6_readsEvent_117 : decode cX6_readsEvent 117 = .ok (.iload_n 2, 1) := by decide +kernel
theorem dX6_readsEvent_118 : decode cX6_readsEvent 118 = .ok (.iadd, 1) := by decide +kernel
theorem dX6_readsEvent_119 : decode cX6_readsEvent 119 = .ok (.bipush 31, 2) := by decide +kernel
theorem dX6_readsEvent_121 : decode cX6_readsEvent 121 = .ok (.iastore, 1) := by decide +kernel
theorem dX6_readsEvent_122 : decode cX6_readsEvent 122 = .ok (.iinc 2 1, 3) := by decide +kernel
theorem dX6_readsEvent_125 : decode cX6_readsEvent 125 = .ok (.aload_n 0, 1) := by decide +kernel
theorem dX6_readsEvent_126 : decode cX6_readsEvent 126 = .ok (.getfield 134, 3) := by decide +kernel
theorem dX6_readsEvent_129 : decode cX6_readsEvent 129 = .ok (.iconst 1, 1) := by decide +kernel
theorem dX6_readsEvent_130 : decode cX6_readsEvent 130 = .ok (.if_icmp .eq (-80), 3) := by decide +kernel
theorem dX6_readsEvent_133 : decode cX6_readsEvent 133 = .ok (.aload_n 0, 1) := by decide +kernel
theorem dX6_readsEvent_134 : decode cX6_readsEvent 134 = .ok (.getfield 7, 3) := by decide +kernel
theorem dX6_readsEvent_137 : decode cX6_readsEvent 137 = .ok (.iload_n 1, 1) := by decide +kernel
theorem dX6_readsEvent_138 : decode cX6_readsEvent 138 = .ok (.iload_n 2, 1) := by decide +kernel
theorem dX6_readsEvent_139 : decode cX6_readsEvent 139 = .ok (.iastore, 1) := by decide +kernel
theorem dX6_readsEvent_140 : decode cX6_readsEvent 140 = .ok (.aload_n 0, 1) := by decide +kernel
theorem dX6_readsEvent_141 : decode cX6_readsEvent 141 = .ok (.ldc 205, 2) := by decide +kernel
theorem dX6_readsEvent_143 : decode cX6_readsEvent 143 = .ok (.invokevirtual 194, 3) := by decide +kernel
theorem dX6_readsEvent_146 : decode cX6_readsEvent 146 = .ok (.ifCond .eq 23, 3) := by decide +kernel
theorem dX6_readsEvent_149 : decode cX6_readsEvent 149 = .ok (.aload_n 0, 1) := by decide +kernel
theorem dX6_readsEvent_150 : decode cX6_readsEvent 150 = .ok (.invokevirtual 147, 3) := by decide +kernel
theorem dX6_readsEvent_153 : decode cX6_readsEvent 153 = .ok (.aload_n 0, 1) := by decide +kernel
theorem dX6_readsEvent_154 : decode cX6_readsEvent 154 = .ok (.getfield 7, 3) := by decide +kernel
theorem dX6_readsEvent_157 : decode cX6_readsEvent 157 = .ok (.iload_n 1, 1) := by decide +kernel
theorem dX6_readsEvent_158 : decode cX6_readsEvent 158 = .ok (.iconst 1, 1) := by decide +kernel
theorem dX6_readsEvent_159 : decode cX6_readsEvent 159 = .ok (.iadd, 1) := by decide +kernel
theorem dX6_readsEvent_160 : decode cX6_readsEvent 160 = .ok (.aload_n 0, 1) := by decide +kernel
theorem dX6_readsEvent_161 : decode cX6_readsEvent 161 = .ok (.iconst 0, 1) := by decide +kernel
theorem dX6_readsEvent_162 : decode cX6_readsEvent 162 = .ok (.bipush 9, 2) := by decide +kernel
theorem dX6_readsEvent_164 : decode cX6_readsEvent 164 = .ok (.iconst 0, 1) := by decide +kernel
theorem dX6_readsEvent_165 : decode cX6_readsEvent 165 = .ok (.invokevirtual 198, 3) := by decide +kernel
theorem dX6_readsEvent_168 : decode cX6_readsEvent 168 = .ok (.iastore, 1) := by decide +kernel
theorem dX6_readsEvent_169 : decode cX6_readsEvent 169 = .ok (.aload_n 0, 1) := by decide +kernel
theorem dX6_readsEvent_170 : decode cX6_readsEvent 170 = .ok (.ldc 207, 2) := by decide +kernel
theorem dX6_readsEvent_172 : decode cX6_readsEvent 172 = .ok (.invokevirtual 194, 3) := by decide +kernel
theorem dX6_readsEvent_175 : decode cX6_readsEvent 175 = .ok (.ifCond .eq 76, 3) := by decide +kernel
theorem dX6_readsEvent_178 : decode cX6_readsEvent 178 = .ok (.aload_n 0, 1) := by decide +kernel
theorem dX6_readsEvent_179 : decode cX6_readsEvent 179 = .ok (.invokevirtual 147, 3) := by decide +kernel
theorem dX6_readsEvent_182 : decode cX6_readsEvent 182 = .ok (.iconst 0, 1) := by decide +kernel
theorem dX6_readsEvent_183 : decode cX6_readsEvent 183 = .ok (.istore_n 3, 1) := by decide +kernel
theorem dX6_readsEvent_184 : decode cX6_readsEvent 184 = .ok (.iload_n 3, 1) := by decide +kernel
theorem dX6_readsEvent_185 : decode cX6_readsEvent 185 = .ok (.iload_n 2, 1) := by decide +kernel
theorem dX6_readsEvent_186 : decode cX6_readsEvent 186 = .ok (.if_icmp .ge 44, 3) := by decide +kernel
theorem dX6_readsEvent_189 : decode cX6_readsEvent 189 = .ok (.aload_n 0, 1) := by decide +kernel
theorem dX6_readsEvent_190 : decode cX6_readsEvent 190 = .ok (.iconst 0, 1) := by decide +kernel
theorem dX6_readsEvent_191 : decode cX6_readsEvent 191 = .ok (.iconst 5, 1) := by decide +kernel
theorem dX6_readsEvent_192 : decode cX6_readsEvent 192 = .ok (.iconst 0, 1) := by decide +kernel
theorem dX6_readsEvent_193 : decode cX6_readsEvent 193 = .ok (.invokevirtual 198, 3) := by decide +kernel
theorem dX6_readsEvent_196 : decode cX6_readsEvent 196 = .ok (.istore 4, 2) := by decide +kernel
theorem dX6_readsEvent_198 : decode cX6_readsEvent 198 = .ok (.aload_n 0, 1) := by decide +kernel
theorem dX6_readsEvent_199 : decode cX6_readsEvent 199 = .ok (.getfield 7, 3) := by decide +kernel
theorem dX6_readsEvent_202 : decode cX6_readsEvent 202 = .ok (.iload_n 1, 1) := by decide +kernel
theorem dX6_readsEvent_203 : decode cX6_readsEvent 203 = .ok (.iconst 5, 1) := by decide +kernel
theorem dX6_readsEvent_204 : decode cX6_readsEvent 204 = .ok (.iadd, 1) := by decide +kernel
theorem dX6_readsEvent_205 : decode cX6_readsEvent 205 = .ok (.iload_n 3, 1) := by decide +kernel
theorem dX6_readsEvent_206 : decode cX6_readsEvent 206 = .ok (.iadd, 1) := by decide +kernel
theorem dX6_readsEvent_207 : decode cX6_readsEvent 207 = .ok (.iload 4, 2) := by decide +kernel
theorem dX6_readsEvent_209 : decode cX6_readsEvent 209 = .ok (.ifCond .ne 8, 3) := by decide +kernel
theorem dX6_readsEvent_212 : decode cX6_readsEvent 212 = .ok (.bipush 31, 2) := by decide +kernel
theorem dX6_readsEvent_214 : decode cX6_readsEvent 214 = .ok (.goto 9, 3) := by decide +kernel
theorem dX6_readsEvent_217 : decode cX6_readsEvent 217 = .ok (.iconst 1, 1) := by decide +kernel
theorem dX6_readsEvent_218 : decode cX6_readsEvent 218 = .ok (.iload 4, 2) := by decide +kernel
theorem dX6_readsEvent_220 : decode cX6_readsEvent 220 = .ok (.iconst 1, 1) := by decide +kernel
theorem dX6_readsEvent_221 : decode cX6_readsEvent 221 = .ok (.isub, 1) := by decide +kernel
theorem dX6_readsEvent_222 : decode cX6_readsEvent 222 = .ok (.ishl, 1) := by decide +kernel
theorem dX6_readsEvent_223 : decode cX6_readsEvent 223 = .ok (.iastore, 1) := by decide +kernel
theorem dX6_readsEvent_224 : decode cX6_readsEvent 224 = .ok (.iinc 3 1, 3) := by decide +kernel
theorem dX6_readsEvent_227 : decode cX6_readsEvent 227 = .ok (.goto (-43), 3) := by decide +kernel
theorem dX6_readsEvent_230 : decode cX6_readsEvent 230 = .ok (.aload_n 0, 1) := by decide +kernel
theorem dX6_readsEvent_231 : decode cX6_readsEvent 231 = .ok (.getfield 144, 3) := by decide +kernel
theorem dX6_readsEvent_234 : decode cX6_readsEvent 234 = .ok (.ifCond .ne 17, 3) := by decide +kernel
theorem dX6_readsEvent_237 : decode cX6_readsEvent 237 = .ok (.aload_n 0, 1) := by decide +kernel
theorem dX6_readsEvent_238 : decode cX6_readsEvent 238 = .ok (.getfield 134, 3) := by decide +kernel
theorem dX6_readsEvent_241 : decode cX6_readsEvent 241 = .ok (.iconst 1, 1) := by decide +kernel
theorem dX6_readsEvent_242 : decode cX6_readsEvent 242 = .ok (.if_icmp .ne 9, 3) := by decide +kernel
theorem dX6_readsEvent_245 : decode cX6_readsEvent 245 = .ok (.aload_n 0, 1) := by decide +kernel
theorem dX6_readsEvent_246 : decode cX6_readsEvent 246 = .ok (.bipush (-5), 2) := by decide +kernel
theorem dX6_readsEvent_248 : decode cX6_readsEvent 248 = .ok (.invokevirtual 162, 3) := by decide +kernel
theorem dX6_readsEvent_251 : decode cX6_readsEvent 251 = .ok (.aload_n 0, 1) := by decide +kernel
theorem dX6_readsEvent_252 : decode cX6_readsEvent 252 = .ok (.invokevirtual 202, 3) := by decide +kernel
theorem dX6_readsEvent_255 : decode cX6_readsEvent 255 = .ok (.aload_n 0, 1) := by decide +kernel
theorem dX6_readsEvent_256 : decode cX6_readsEvent 256 = .ok (.getfield 7, 3) := by decide +kernel
theorem dX6_readsEvent_259 : decode cX6_readsEvent 259 = .ok (.iconst 0, 1) := by decide +kernel
theorem dX6_readsEvent_260 : decode cX6_readsEvent 260 = .ok (.dup2, 1) := by decide +kernel
theorem dX6_readsEvent_261 : decode cX6_readsEvent 261 = .ok (.iaload, 1) := by decide +kernel
theorem dX6_readsEvent_262 : decode cX6_readsEvent 262 = .ok (.iconst 1, 1) := by decide +kernel
theorem dX6_readsEvent_263 : decode cX6_readsEvent 263 = .ok (.iadd, 1) := by decide +kernel
theorem dX6_readsEvent_264 : decode cX6_readsEvent 264 = .ok (.iastore, 1) := by decide +kernel
theorem dX6_readsEvent_265 : decode cX6_readsEvent 265 = .ok (.return_, 1) := by decide +kernel
theorem dX6_load_0 : decode cX6_load 0 = .ok (.aload_n 0, 1) := by decide +kernel
theorem dX6_load_1 : decode cX6_load 1 = .ok (.getfield 13, 3) := by decide +kernel
theorem dX6_load_4 : decode cX6_load 4 = .ok (.iconst 0, 1) := by decide +kernel
theorem dX6_load_5 : decode cX6_load 5 = .ok (.aload_n 0, 1) := by decide +kernel
theorem dX6_load_6 : decode cX6_load 6 = .ok (.getfield 7, 3) := by decide +kernel
theorem dX6_load_9 : decode cX6_load 9 = .ok (.iconst 0, 1) := by decide +kernel
theorem dX6_load_10 : decode cX6_load 10 = .ok (.invokestatic 101, 3) := by decide +kernel
theorem dX6_load_13 : decode cX6_load 13 = .ok (.aload_n 0, 1) := by decide +kernel
theorem dX6_load_14 : decode cX6_load 14 = .ok (.invokevirtual 70, 3) := by decide +kernel
theorem dX6_load_17 : decode cX6_load 17 = .ok (.aload_n 0, 1) := by decide +kernel
theorem dX6_load_18 : decode cX6_load 18 = .ok (.invokevirtual 209, 3) := by decide +kernel
theorem dX6_load_21 : decode cX6_load 21 = .ok (.aload_n 0, 1) := by decide +kernel
theorem dX6_load_22 : decode cX6_load 22 = .ok (.aload_n 0, 1) := by decide +kernel
theorem dX6_load_23 : decode cX6_load 23 = .ok (.ldc 212, 2) := by decide +kernel
theorem dX6_load_25 : decode cX6_load 25 = .ok (.invokevirtual 194, 3) := by decide +kernel
theorem dX6_load_28 : decode cX6_load 28 = .ok (.invokevirtual 166, 3) := by decide +kernel
theorem dX6_load_31 : decode cX6_load 31 = .ok (.aload_n 0, 1) := by decide +kernel
theorem dX6_load_32 : decode cX6_load 32 = .ok (.getfield 7, 3) := by decide +kernel
theorem dX6_load_35 : decode cX6_load 35 = .ok (.iconst 1, 1) := by decide +kernel
theorem dX6_load_36 : decode cX6_load 36 = .ok (.aload_n 0, 1) := by decide +kernel
theorem dX6_load_37 : decode cX6_load 37 = .ok (.ldc 214, 2) := by decide +kernel
theorem dX6_load_39 : decode cX6_load 39 = .ok (.invokevirtual 194, 3) := by decide +kernel
theorem dX6_load_42 : decode cX6_load 42 = .ok (.ifCond .eq 7, 3) := by decide +kernel
theorem dX6_load_45 : decode cX6_load 45 = .ok (.iconst 1, 1) := by decide +kernel
theorem dX6_load_46 : decode cX6_load 46 = .ok (.goto 4, 3) := by decide +kernel
theorem dX6_load_49 : decode cX6_load 49 = .ok (.iconst 0, 1) := by decide +kernel
theorem dX6_load_50 : decode cX6_load 50 = .ok (.iastore, 1) := by decide +kernel
theorem dX6_load_51 : decode cX6_load 51 = .ok (.aload_n 0, 1) := by decide +kernel
theorem dX6_load_52 : decode cX6_load 52 = .ok (.aload_n 0, 1) := by decide +kernel
theorem dX6_load_53 : decode cX6_load 53 = .ok (.ldc 214, 2) := by decide +kernel
theorem dX6_load_55 : decode cX6_load 55 = .ok (.invokevirtual 194, 3) := by decide +kernel
theorem dX6_load_58 : decode cX6_load 58 = .ok (.ifCond .ne 12, 3) := by decide +kernel
theorem dX6_load_61 : decode cX6_load 61 = .ok (.aload_n 0, 1) := by decide +kernel
theorem dX6_load_62 : decode cX6_load 62 = .ok (.ldc 216, 2) := by decide +kernel
theorem dX6_load_64 : decode cX6_load 64 = .ok (.invokevirtual 194, 3) := by decide +kernel
theorem dX6_load_67 : decode cX6_load 67 = .ok (.ifCond .eq 7, 3) := by decide +kernel
theorem dX6_load_70 : decode cX6_load 70 = .ok (.iconst 1, 1) := by decide +kernel
theorem dX6_load_71 : decode cX6_load 71 = .ok (.goto 4, 3) := by decide +kernel
theorem dX6_load_74 : decode cX6_load 74 = .ok (.iconst 0, 1) := by decide +kernel
theorem dX6_load_75 : decode cX6_load 75 = .ok (.invokevirtual 166, 3) := by decide +kernel
theorem dX6_load_78 : decode cX6_load 78 = .ok (.aload_n 0, 1) := by decide +kernel
theorem dX6_load_79 : decode cX6_load 79 = .ok (.invokevirtual 202, 3) := by decide +kernel
theorem dX6_load_82 : decode cX6_load 82 = .ok (.aload_n 0, 1) := by decide +kernel
theorem dX6_load_83 : decode cX6_load 83 = .ok (.ldc 218, 2) := by decide +kernel
theorem dX6_load_85 : decode cX6_load 85 = .ok (.invokevirtual 194, 3) := by decide +kernel
theorem dX6_load_88 : decode cX6_load 88 = .ok (.ifCond .eq 10, 3) := by decide +kernel
theorem dX6_load_91 : decode cX6_load 91 = .ok (.aload_n 0, 1) := by decide +kernel
theorem dX6_load_92 : decode cX6_load 92 = .ok (.invokevirtual 220, 3) := by decide +kernel
theorem dX6_load_95 : decode cX6_load 95 = .ok (.goto (-13), 3) := by decide +kernel
theorem dX6_load_98 : decode cX6_load 98 = .ok (.aload_n 0, 1) := by decide +kernel
theorem dX6_load_99 : decode cX6_load 99 = .ok (.ldc 223, 2) := by decide +kernel
theorem dX6_load_101 : decode cX6_load 101 = .ok (.invokevirtual 194, 3) := by decide +kernel
theorem dX6_load_104 : decode cX6_load 104 = .ok (.ifCond .eq 10, 3) := by decide +kernel
theorem dX6_load_107 : decode cX6_load 107 = .ok (.aload_n 0, 1) := by decide +kernel
theorem dX6_load_108 : decode cX6_load 108 = .ok (.invokevirtual 225, 3) := by decide +kernel
theorem dX6_load_111 : decode cX6_load 111 = .ok (.goto (-13), 3) := by decide +kernel
theorem dX6_load_114 : decode cX6_load 114 = .ok (.aload_n 0, 1) := by decide +kernel
theorem dX6_load_115 : decode cX6_load 115 = .ok (.ldc 228, 2) := by decide +kernel
theorem dX6_load_117 : decode cX6_load 117 = .ok (.invokevirtual 194, 3) := by decide +kernel
theorem dX6_load_120 : decode cX6_load 120 = .ok (.ifCond .eq 10, 3) := by decide +kernel
theorem dX6_load_123 : decode cX6_load 123 = .ok (.aload_n 0, 1) := by decide +kernel
theorem dX6_load_124 : decode cX6_load 124 = .ok (.invokevirtual 230, 3) := by decide +kernel
theorem dX6_load_127 : decode cX6_load 127 = .ok (.goto (-13), 3) := by decide +kernel
theorem dX6_load_130 : decode cX6_load 130 = .ok (.aload_n 0, 1) := by decide +kernel
theorem dX6_load_131 : decode cX6_load 131 = .ok (.getfield 144, 3) := by decide +kernel
theorem dX6_load_134 : decode cX6_load 134 = .ok (.ifCond .ne 17, 3) := by decide +kernel
theorem dX6_load_137 : decode cX6_load 137 = .ok (.aload_n 0, 1) := by decide +kernel
theorem dX6_load_138 : decode cX6_load 138 = .ok (.getfield 134, 3) := by decide +kernel
theorem dX6_load_141 : decode cX6_load 141 = .ok (.iconst 3, 1) := by decide +kernel
theorem dX6_load_142 : decode cX6_load 142 = .ok (.if_icmp .eq 9, 3) := by decide +kernel
theorem dX6_load_145 : decode cX6_load 145 = .ok (.aload_n 0, 1) := by decide +kernel
theorem dX6_load_146 : decode cX6_load 146 = .ok (.bipush (-2), 2) := by decide +kernel
theorem dX6_load_148 : decode cX6_load 148 = .ok (.invokevirtual 162, 3) := by decide +kernel
theorem dX6_load_151 : decode cX6_load 151 = .ok (.aload_n 0, 1) := by decide +kernel
theorem dX6_load_152 : decode cX6_load 152 = .ok (.invokevirtual 233, 3) := by decide +kernel
theorem dX6_load_155 : decode cX6_load 155 = .ok (.aload_n 0, 1) := by decide +kernel
theorem dX6_load_156 : decode cX6_load 156 = .ok (.getfield 144, 3) := by decide +kernel
theorem dX6_load_159 : decode cX6_load 159 = .ok (.ifCond .eq 16, 3) := by decide +kernel
theorem dX6_load_162 : decode cX6_load 162 = .ok (.aload_n 0, 1) := by decide +kernel
theorem dX6_load_163 : decode cX6_load 163 = .ok (.getfield 7, 3) := by decide +kernel
theorem dX6_load_166 : decode cX6_load 166 = .ok (.iconst 0, 1) := by decide +kernel
theorem dX6_load_167 : decode cX6_load 167 = .ok (.aload_n 0, 1) := by decide +kernel
theorem dX6_load_168 : decode cX6_load 168 = .ok (.getfield 13, 3) := by decide +kernel
theorem dX6_load_171 : decode cX6_load 171 = .ok (.iconst 0, 1) := by decide +kernel
theorem dX6_load_172 : decode cX6_load 172 = .ok (.invokestatic 101, 3) := by decide +kernel
theorem dX6_load_175 : decode cX6_load 175 = .ok (.aload_n 0, 1) := by decide +kernel
theorem dX6_load_176 : decode cX6_load 176 = .ok (.getfield 144, 3) := by decide +kernel
theorem dX6_load_179 : decode cX6_load 179 = .ok (.ifCond .eq 8, 3) := by decide +kernel
theorem dX6_load_182 : decode cX6_load 182 = .ok (.aload_n 0, 1) := by decide +kernel
theorem dX6_load_183 : decode cX6_load 183 = .ok (.getfield 144, 3) := by decide +kernel
theorem dX6_load_186 : decode cX6_load 186 = .ok (.ireturn, 1) := by decide +kernel
theorem dX6_load_187 : decode cX6_load 187 = .ok (.aload_n 0, 1) := by decide +kernel
theorem dX6_load_188 : decode cX6_load 188 = .ok (.aload_n 0, 1) := by decide +kernel
theorem dX6_load_189 : decode cX6_load 189 = .ok (.getfield 13, 3) := by decide +kernel
theorem dX6_load_192 : decode cX6_load 192 = .ok (.invokevirtual 109, 3) := by decide +kernel
theorem dX6_load_195 : decode cX6_load 195 = .ok (.aload_n 0, 1) := by decide +kernel
theorem dX6_load_196 : decode cX6_load 196 = .ok (.invokevirtual 113, 3) := by decide +kernel
theorem dX6_load_199 : decode cX6_load 199 = .ok (.ireturn, 1) := by decide +kernel
theorem dX6_errorPosition_0 : decode cX6_errorPosition 0 = .ok (.aload_n 0, 1) := by decide +kernel
theorem dX6_errorPosition_1 : decode cX6_errorPosition 1 = .ok (.iconst 0, 1) := by decide +kernel
theorem dX6_errorPosition_2 : decode cX6_errorPosition 2 = .ok (.putfield 95, 3) := by decide +kernel
theorem dX6_errorPosition_5 : decode cX6_errorPosition 5 = .ok (.aload_n 0, 1) := by decide +kernel
theorem dX6_errorPosition_6 : decode cX6_errorPosition 6 = .ok (.getfield 32, 3) := by decide +kernel
theorem dX6_errorPosition_9 : decode cX6_errorPosition 9 = .ok (.ireturn, 1) := by decide +kernel
theorem dX6_events_0 : decode cX6_events 0 = .ok (.aload_n 0, 1) := by decide +kernel
theorem dX6_events_1 : decode cX6_events 1 = .ok (.getfield 7, 3) := by decide +kernel
theorem dX6_events_4 : decode cX6_events 4 = .ok (.iconst 0, 1) := by decide +kernel
theorem dX6_events_5 : decode cX6_events 5 = .ok (.iaload, 1) := by decide +kernel
theorem dX6_events_6 : decode cX6_events 6 = .ok (.ireturn, 1) := by decide +kernel
theorem dX6_notesOf_0 : decode cX6_notesOf 0 = .ok (.aload_n 0, 1) := by decide +kernel
theorem dX6_notesOf_1 : decode cX6_notesOf 1 = .ok (.getfield 7, 3) := by decide +kernel
theorem dX6_notesOf_4 : decode cX6_notesOf 4 = .ok (.bipush 42, 2) := by decide +kernel
theorem dX6_notesOf_6 : decode cX6_notesOf 6 = .ok (.bipush 8, 2) := by decide +kernel
theorem dX6_notesOf_8 : decode cX6_notesOf 8 = .ok (.iload_n 1, 1) := by decide +kernel
theorem dX6_notesOf_9 : decode cX6_notesOf 9 = .ok (.imul, 1) := by decide +kernel
theorem dX6_notesOf_10 : decode cX6_notesOf 10 = .ok (.iadd, 1) := by decide +kernel
theorem dX6_notesOf_11 : decode cX6_notesOf 11 = .ok (.iaload, 1) := by decide +kernel
theorem dX6_notesOf_12 : decode cX6_notesOf 12 = .ok (.ireturn, 1) := by decide +kernel
theorem dX6_restOf_0 : decode cX6_restOf 0 = .ok (.aload_n 0, 1) := by decide +kernel
theorem dX6_restOf_1 : decode cX6_restOf 1 = .ok (.getfield 7, 3) := by decide +kernel
theorem dX6_restOf_4 : decode cX6_restOf 4 = .ok (.bipush 42, 2) := by decide +kernel
theorem dX6_restOf_6 : decode cX6_restOf 6 = .ok (.bipush 8, 2) := by decide +kernel
theorem dX6_restOf_8 : decode cX6_restOf 8 = .ok (.iload_n 1, 1) := by decide +kernel
theorem dX6_restOf_9 : decode cX6_restOf 9 = .ok (.imul, 1) := by decide +kernel
theorem dX6_restOf_10 : decode cX6_restOf 10 = .ok (.iadd, 1) := by decide +kernel
theorem dX6_restOf_11 : decode cX6_restOf 11 = .ok (.iconst 1, 1) := by decide +kernel
theorem dX6_restOf_12 : decode cX6_restOf 12 = .ok (.iadd, 1) := by decide +kernel
theorem dX6_restOf_13 : decode cX6_restOf 13 = .ok (.iaload, 1) := by decide +kernel
theorem dX6_restOf_14 : decode cX6_restOf 14 = .ok (.ireturn, 1) := by decide +kernel
theorem dX6_keyOf_0 : decode cX6_keyOf 0 = .ok (.aload_n 0, 1) := by decide +kernel
theorem dX6_keyOf_1 : decode cX6_keyOf 1 = .ok (.getfield 7, 3) := by decide +kernel
theorem dX6_keyOf_4 : decode cX6_keyOf 4 = .ok (.bipush 42, 2) := by decide +kernel
theorem dX6_keyOf_6 : decode cX6_keyOf 6 = .ok (.bipush 8, 2) := by decide +kernel
theorem dX6_keyOf_8 : decode cX6_keyOf 8 = .ok (.iload_n 1, 1) := by decide +kernel
theorem dX6_keyOf_9 : decode cX6_keyOf 9 = .ok (.imul, 1) := by decide +kernel
theorem dX6_keyOf_10 : decode cX6_keyOf 10 = .ok (.iadd, 1) := by decide +kernel
theorem dX6_keyOf_11 : decode cX6_keyOf 11 = .ok (.iconst 2, 1) := by decide +kernel
theorem dX6_keyOf_12 : decode cX6_keyOf 12 = .ok (.iadd, 1) := by decide +kernel
theorem dX6_keyOf_13 : decode cX6_keyOf 13 = .ok (.iload_n 2, 1) := by decide +kernel
theorem dX6_keyOf_14 : decode cX6_keyOf 14 = .ok (.iadd, 1) := by decide +kernel
theorem dX6_keyOf_15 : decode cX6_keyOf 15 = .ok (.iaload, 1) := by decide +kernel
theorem dX6_keyOf_16 : decode cX6_keyOf 16 = .ok (.ireturn, 1) := by decide +kernel
theorem dX6_setOf_0 : decode cX6_setOf 0 = .ok (.aload_n 0, 1) := by decide +kernel
theorem dX6_setOf_1 : decode cX6_setOf 1 = .ok (.getfield 7, 3) := by decide +kernel
theorem dX6_setOf_4 : decode cX6_setOf 4 = .ok (.bipush 42, 2) := by decide +kernel
theorem dX6_setOf_6 : decode cX6_setOf 6 = .ok (.bipush 8, 2) := by decide +kernel
theorem dX6_setOf_8 : decode cX6_setOf 8 = .ok (.iload_n 1, 1) := by decide +kernel
theorem dX6_setOf_9 : decode cX6_setOf 9 = .ok (.imul, 1) := by decide +kernel
theorem dX6_setOf_10 : decode cX6_setOf 10 = .ok (.iadd, 1) := by decide +kernel
theorem dX6_setOf_11 : decode cX6_setOf 11 = .ok (.iconst 5, 1) := by decide +kernel
theorem dX6_setOf_12 : decode cX6_setOf 12 = .ok (.iadd, 1) := by decide +kernel
theorem dX6_setOf_13 : decode cX6_setOf 13 = .ok (.iload_n 2, 1) := by decide +kernel
theorem dX6_setOf_14 : decode cX6_setOf 14 = .ok (.iadd, 1) := by decide +kernel
theorem dX6_setOf_15 : decode cX6_setOf 15 = .ok (.iaload, 1) := by decide +kernel
theorem dX6_setOf_16 : decode cX6_setOf 16 = .ok (.ireturn, 1) := by decide +kernel
theorem dX6_weightOf_0 : decode cX6_weightOf 0 = .ok (.aload_n 0, 1) := by decide +kernel
theorem dX6_weightOf_1 : decode cX6_weightOf 1 = .ok (.getfield 7, 3) := by decide +kernel
theorem dX6_weightOf_4 : decode cX6_weightOf 4 = .ok (.iconst 2, 1) := by decide +kernel
theorem dX6_weightOf_5 : decode cX6_weightOf 5 = .ok (.iload_n 1, 1) := by decide +kernel
theorem dX6_weightOf_6 : decode cX6_weightOf 6 = .ok (.iadd, 1) := by decide +kernel
theorem dX6_weightOf_7 : decode cX6_weightOf 7 = .ok (.iaload, 1) := by decide +kernel
theorem dX6_weightOf_8 : decode cX6_weightOf 8 = .ok (.ireturn, 1) := by decide +kernel
theorem dX6_isEvent_0 : decode cX6_isEvent 0 = .ok (.iload_n 1, 1) := by decide +kernel
theorem dX6_isEvent_1 : decode cX6_isEvent 1 = .ok (.iconst 0, 1) := by decide +kernel
theorem dX6_isEvent_2 : decode cX6_isEvent 2 = .ok (.aload_n 0, 1) := by decide +kernel
theorem dX6_isEvent_3 : decode cX6_isEvent 3 = .ok (.invokevirtual 113, 3) := by decide +kernel
theorem dX6_isEvent_6 : decode cX6_isEvent 6 = .ok (.iconst 1, 1) := by decide +kernel
theorem dX6_isEvent_7 : decode cX6_isEvent 7 = .ok (.isub, 1) := by decide +kernel
theorem dX6_isEvent_8 : decode cX6_isEvent 8 = .ok (.invokestatic 105, 3) := by decide +kernel
theorem dX6_isEvent_11 : decode cX6_isEvent 11 = .ok (.ireturn, 1) := by decide +kernel
theorem dX6_isNote_0 : decode cX6_isNote 0 = .ok (.aload_n 0, 1) := by decide +kernel
theorem dX6_isNote_1 : decode cX6_isNote 1 = .ok (.iload_n 1, 1) := by decide +kernel
theorem dX6_isNote_2 : decode cX6_isNote 2 = .ok (.invokevirtual 236, 3) := by decide +kernel
theorem dX6_isNote_5 : decode cX6_isNote 5 = .ok (.ifCond .eq 22, 3) := by decide +kernel
theorem dX6_isNote_8 : decode cX6_isNote 8 = .ok (.iload_n 2, 1) := by decide +kernel
theorem dX6_isNote_9 : decode cX6_isNote 9 = .ok (.iconst 0, 1) := by decide +kernel
theorem dX6_isNote_10 : decode cX6_isNote 10 = .ok (.aload_n 0, 1) := by decide +kernel
theorem dX6_isNote_11 : decode cX6_isNote 11 = .ok (.iload_n 1, 1) := by decide +kernel
theorem dX6_isNote_12 : decode cX6_isNote 12 = .ok (.invokevirtual 239, 3) := by decide +kernel
theorem dX6_isNote_15 : decode cX6_isNote 15 = .ok (.iconst 1, 1) := by decide +kernel
theorem dX6_isNote_16 : decode cX6_isNote 16 = .ok (.isub, 1) := by decide +kernel
theorem dX6_isNote_17 : decode cX6_isNote 17 = .ok (.invokestatic 105, 3) := by decide +kernel
theorem dX6_isNote_20 : decode cX6_isNote 20 = .ok (.ifCond .eq 7, 3) := by decide +kernel
theorem dX6_isNote_23 : decode cX6_isNote 23 = .ok (.iconst 1, 1) := by decide +kernel
theorem dX6_isNote_24 : decode cX6_isNote 24 = .ok (.goto 4, 3) := by decide +kernel
theorem dX6_isNote_27 : decode cX6_isNote 27 = .ok (.iconst 0, 1) := by decide +kernel
theorem dX6_isNote_28 : decode cX6_isNote 28 = .ok (.ireturn, 1) := by decide +kernel
theorem dX6_isFinger_0 : decode cX6_isFinger 0 = .ok (.iload_n 0, 1) := by decide +kernel
theorem dX6_isFinger_1 : decode cX6_isFinger 1 = .ok (.iconst 1, 1) := by decide +kernel
theorem dX6_isFinger_2 : decode cX6_isFinger 2 = .ok (.iconst 5, 1) := by decide +kernel
theorem dX6_isFinger_3 : decode cX6_isFinger 3 = .ok (.invokestatic 105, 3) := by decide +kernel
theorem dX6_isFinger_6 : decode cX6_isFinger 6 = .ok (.ireturn, 1) := by decide +kernel
theorem dX6_isBlack_0 : decode cX6_isBlack 0 = .ok (.iload_n 0, 1) := by decide +kernel
theorem dX6_isBlack_1 : decode cX6_isBlack 1 = .ok (.bipush 12, 2) := by decide +kernel
theorem dX6_isBlack_3 : decode cX6_isBlack 3 = .ok (.irem, 1) := by decide +kernel
theorem dX6_isBlack_4 : decode cX6_isBlack 4 = .ok (.istore_n 1, 1) := by decide +kernel
theorem dX6_isBlack_5 : decode cX6_isBlack 5 = .ok (.iload_n 1, 1) := by decide +kernel
theorem dX6_isBlack_6 : decode cX6_isBlack 6 = .ok (.iconst 1, 1) := by decide +kernel
theorem dX6_isBlack_7 : decode cX6_isBlack 7 = .ok (.if_icmp .eq 26, 3) := by decide +kernel
theorem dX6_isBlack_10 : decode cX6_isBlack 10 = .ok (.iload_n 1, 1) := by decide +kernel
theorem dX6_isBlack_11 : decode cX6_isBlack 11 = .ok (.iconst 3, 1) := by decide +kernel
theorem dX6_isBlack_12 : decode cX6_isBlack 12 = .ok (.if_icmp .eq 21, 3) := by decide +kernel
theorem dX6_isBlack_15 : decode cX6_isBlack 15 = .ok (.iload_n 1, 1) := by decide +kernel
theorem dX6_isBlack_16 : decode cX6_isBlack 16 = .ok (.bipush 6, 2) := by decide +kernel
theorem dX6_isBlack_18 : decode cX6_isBlack 18 = .ok (.if_icmp .eq 15, 3) := by decide +kernel
theorem dX6_isBlack_21 : decode cX6_isBlack 21 = .ok (.iload_n 1, 1) := by decide +kernel
theorem dX6_isBlack_22 : decode cX6_isBlack 22 = .ok (.bipush 8, 2) := by decide +kernel
theorem dX6_isBlack_24 : decode cX6_isBlack 24 = .ok (.if_icmp .eq 9, 3) := by decide +kernel
theorem dX6_isBlack_27 : decode cX6_isBlack 27 = .ok (.iload_n 1, 1) := by decide +kernel
theorem dX6_isBlack_28 : decode cX6_isBlack 28 = .ok (.bipush 10, 2) := by decide +kernel
theorem dX6_isBlack_30 : decode cX6_isBlack 30 = .ok (.if_icmp .ne 7, 3) := by decide +kernel
theorem dX6_isBlack_33 : decode cX6_isBlack 33 = .ok (.iconst 1, 1) := by decide +kernel
theorem dX6_isBlack_34 : decode cX6_isBlack 34 = .ok (.goto 4, 3) := by decide +kernel
theorem dX6_isBlack_37 : decode cX6_isBlack 37 = .ok (.iconst 0, 1) := by decide +kernel
theorem dX6_isBlack_38 : decode cX6_isBlack 38 = .ok (.ireturn, 1) := by decide +kernel
theorem dX6_allNotes_0 : decode cX6_allNotes 0 = .ok (.iconst 0, 1) := by decide +kernel
theorem dX6_allNotes_1 : decode cX6_allNotes 1 = .ok (.istore_n 1, 1) := by decide +kernel
theorem dX6_allNotes_2 : decode cX6_allNotes 2 = .ok (.iconst 0, 1) := by decide +kernel
theorem dX6_allNotes_3 : decode cX6_allNotes 3 = .ok (.istore_n 2, 1) := by decide +kernel
theorem dX6_allNotes_4 : decode cX6_allNotes 4 = .ok (.iload_n 2, 1) := by decide +kernel
theorem dX6_allNotes_5 : decode cX6_allNotes 5 = .ok (.aload_n 0, 1) := by decide +kernel
theorem dX6_allNotes_6 : decode cX6_allNotes 6 = .ok (.invokevirtual 113, 3) := by decide +kernel
theorem dX6_allNotes_9 : decode cX6_allNotes 9 = .ok (.if_icmp .ge 17, 3) := by decide +kernel
theorem dX6_allNotes_12 : decode cX6_allNotes 12 = .ok (.iload_n 1, 1) := by decide +kernel
theorem dX6_allNotes_13 : decode cX6_allNotes 13 = .ok (.aload_n 0, 1) := by decide +kernel
theorem dX6_allNotes_14 : decode cX6_allNotes 14 = .ok (.iload_n 2, 1) := by decide +kernel
theorem dX6_allNotes_15 : decode cX6_allNotes 15 = .ok (.invokevirtual 239, 3) := by decide +kernel
theorem dX6_allNotes_18 : decode cX6_allNotes 18 = .ok (.iadd, 1) := by decide +kernel
theorem dX6_allNotes_19 : decode cX6_allNotes 19 = .ok (.istore_n 1, 1) := by decide +kernel
theorem dX6_allNotes_20 : decode cX6_allNotes 20 = .ok (.iinc 2 1, 3) := by decide +kernel
theorem dX6_allNotes_23 : decode cX6_allNotes 23 = .ok (.goto (-19), 3) := by decide +kernel
theorem dX6_allNotes_26 : decode cX6_allNotes 26 = .ok (.iload_n 1, 1) := by decide +kernel
theorem dX6_allNotes_27 : decode cX6_allNotes 27 = .ok (.ireturn, 1) := by decide +kernel
theorem dX6_isFree_0 : decode cX6_isFree 0 = .ok (.aload_n 0, 1) := by decide +kernel
theorem dX6_isFree_1 : decode cX6_isFree 1 = .ok (.iload_n 1, 1) := by decide +kernel
theorem dX6_isFree_2 : decode cX6_isFree 2 = .ok (.invokevirtual 242, 3) := by decide +kernel
theorem dX6_isFree_5 : decode cX6_isFree 5 = .ok (.aload_n 0, 1) := by decide +kernel
theorem dX6_isFree_6 : decode cX6_isFree 6 = .ok (.bipush 8, 2) := by decide +kernel
theorem dX6_isFree_8 : decode cX6_isFree 8 = .ok (.invokevirtual 245, 3) := by decide +kernel
theorem dX6_isFree_11 : decode cX6_isFree 11 = .ok (.if_icmp .lt 7, 3) := by decide +kernel
theorem dX6_isFree_14 : decode cX6_isFree 14 = .ok (.iconst 1, 1) := by decide +kernel
theorem dX6_isFree_15 : decode cX6_isFree 15 = .ok (.goto 4, 3) := by decide +kernel
theorem dX6_isFree_18 : decode cX6_isFree 18 = .ok (.iconst 0, 1) := by decide +kernel
theorem dX6_isFree_19 : decode cX6_isFree 19 = .ok (.ireturn, 1) := by decide +kernel
theorem dX6_offBy_0 : decode cX6_offBy 0 = .ok (.iload_n 1, 1) := by decide +kernel
theorem dX6_offBy_1 : decode cX6_offBy 1 = .ok (.iload_n 2, 1) := by decide +kernel
theorem dX6_offBy_2 : decode cX6_offBy 2 = .ok (.invokestatic 76, 3) := by decide +kernel
theorem dX6_offBy_5 : decode cX6_offBy 5 = .ok (.istore 4, 2) := by decide +kernel
theorem dX6_offBy_7 : decode cX6_offBy 7 = .ok (.iload_n 3, 1) := by decide +kernel
theorem dX6_offBy_8 : decode cX6_offBy 8 = .ok (.aload_n 0, 1) := by decide +kernel
theorem dX6_offBy_9 : decode cX6_offBy 9 = .ok (.getfield 7, 3) := by decide +kernel
theorem dX6_offBy_12 : decode cX6_offBy 12 = .ok (.iload 4, 2) := by decide +kernel
theorem dX6_offBy_14 : decode cX6_offBy 14 = .ok (.iconst 2, 1) := by decide +kernel
theorem dX6_offBy_15 : decode cX6_offBy 15 = .ok (.iadd, 1) := by decide +kernel
theorem dX6_offBy_16 : decode cX6_offBy 16 = .ok (.iaload, 1) := by decide +kernel
theorem dX6_offBy_17 : decode cX6_offBy 17 = .ok (.if_icmp .le 5, 3) := by decide +kernel
theorem dX6_offBy_20 : decode cX6_offBy 20 = .ok (.iconst (-1), 1) := by decide +kernel
theorem dX6_offBy_21 : decode cX6_offBy 21 = .ok (.ireturn, 1) := by decide +kernel
theorem dX6_offBy_22 : decode cX6_offBy 22 = .ok (.iload_n 3, 1) := by decide +kernel
theorem dX6_offBy_23 : decode cX6_offBy 23 = .ok (.aload_n 0, 1) := by decide +kernel
theorem dX6_offBy_24 : decode cX6_offBy 24 = .ok (.getfield 7, 3) := by decide +kernel
theorem dX6_offBy_27 : decode cX6_offBy 27 = .ok (.iload 4, 2) := by decide +kernel
theorem dX6_offBy_29 : decode cX6_offBy 29 = .ok (.iaload, 1) := by decide +kernel
theorem dX6_offBy_30 : decode cX6_offBy 30 = .ok (.if_icmp .ge 15, 3) := by decide +kernel
theorem dX6_offBy_33 : decode cX6_offBy 33 = .ok (.aload_n 0, 1) := by decide +kernel
theorem dX6_offBy_34 : decode cX6_offBy 34 = .ok (.getfield 7, 3) := by decide +kernel
theorem dX6_offBy_37 : decode cX6_offBy 37 = .ok (.iload 4, 2) := by decide +kernel
theorem dX6_offBy_39 : decode cX6_offBy 39 = .ok (.iaload, 1) := by decide +kernel
theorem dX6_offBy_40 : decode cX6_offBy 40 = .ok (.iload_n 3, 1) := by decide +kernel
theorem dX6_offBy_41 : decode cX6_offBy 41 = .ok (.isub, 1) := by decide +kernel
theorem dX6_offBy_42 : decode cX6_offBy 42 = .ok (.goto 31, 3) := by decide +kernel
theorem dX6_offBy_45 : decode cX6_offBy 45 = .ok (.iload_n 3, 1) := by decide +kernel
theorem dX6_offBy_46 : decode cX6_offBy 46 = .ok (.aload_n 0, 1) := by decide +kernel
theorem dX6_offBy_47 : decode cX6_offBy 47 = .ok (.getfield 7, 3) := by decide +kernel
theorem dX6_offBy_50 : decode cX6_offBy 50 = .ok (.iload 4, 2) := by decide +kernel
theorem dX6_offBy_52 : decode cX6_offBy 52 = .ok (.iconst 1, 1) := by decide +kernel
theorem dX6_offBy_53 : decode cX6_offBy 53 = .ok (.iadd, 1) := by decide +kernel
theorem dX6_offBy_54 : decode cX6_offBy 54 = .ok (.iaload, 1) := by decide +kernel
theorem dX6_offBy_55 : decode cX6_offBy 55 = .ok (.if_icmp .le 17, 3) := by decide +kernel
theorem dX6_offBy_58 : decode cX6_offBy 58 = .ok (.iload_n 3, 1) := by decide +kernel
theorem dX6_offBy_59 : decode cX6_offBy 59 = .ok (.aload_n 0, 1) := by decide +kernel
theorem dX6_offBy_60 : decode cX6_offBy 60 = .ok (.getfield 7, 3) := by decide +kernel
theorem dX6_offBy_63 : decode cX6_offBy 63 = .ok (.iload 4, 2) := by decide +kernel
theorem dX6_offBy_65 : decode cX6_offBy 65 = .ok (.iconst 1, 1) := by decide +kernel
theorem dX6_offBy_66 : decode cX6_offBy 66 = .ok (.iadd, 1) := by decide +kernel
theorem dX6_offBy_67 : decode cX6_offBy 67 = .ok (.iaload, 1) := by decide +kernel
theorem dX6_offBy_68 : decode cX6_offBy 68 = .ok (.isub, 1) := by decide +kernel
theorem dX6_offBy_69 : decode cX6_offBy 69 = .ok (.goto 4, 3) := by decide +kernel
theorem dX6_offBy_72 : decode cX6_offBy 72 = .ok (.iconst 0, 1) := by decide +kernel
theorem dX6_offBy_73 : decode cX6_offBy 73 = .ok (.ireturn, 1) := by decide +kernel
theorem dX6_linkOf_0 : decode cX6_linkOf 0 = .ok (.aload_n 0, 1) := by decide +kernel
theorem dX6_linkOf_1 : decode cX6_linkOf 1 = .ok (.getfield 7, 3) := by decide +kernel
theorem dX6_linkOf_4 : decode cX6_linkOf 4 = .ok (.iconst 1, 1) := by decide +kernel
theorem dX6_linkOf_5 : decode cX6_linkOf 5 = .ok (.iaload, 1) := by decide +kernel
theorem dX6_linkOf_6 : decode cX6_linkOf 6 = .ok (.iconst 1, 1) := by decide +kernel
theorem dX6_linkOf_7 : decode cX6_linkOf 7 = .ok (.if_icmp .ne 10, 3) := by decide +kernel
theorem dX6_linkOf_10 : decode cX6_linkOf 10 = .ok (.iload 4, 2) := by decide +kernel
theorem dX6_linkOf_12 : decode cX6_linkOf 12 = .ok (.iload_n 2, 1) := by decide +kernel
theorem dX6_linkOf_13 : decode cX6_linkOf 13 = .ok (.isub, 1) := by decide +kernel
theorem dX6_linkOf_14 : decode cX6_linkOf 14 = .ok (.goto 7, 3) := by decide +kernel
theorem dX6_linkOf_17 : decode cX6_linkOf 17 = .ok (.iload_n 2, 1) := by decide +kernel
theorem dX6_linkOf_18 : decode cX6_linkOf 18 = .ok (.iload 4, 2) := by decide +kernel
theorem dX6_linkOf_20 : decode cX6_linkOf 20 = .ok (.isub, 1) := by decide +kernel
theorem dX6_linkOf_21 : decode cX6_linkOf 21 = .ok (.istore 5, 2) := by decide +kernel
theorem dX6_linkOf_23 : decode cX6_linkOf 23 = .ok (.iload 5, 2) := by decide +kernel
theorem dX6_linkOf_25 : decode cX6_linkOf 25 = .ok (.ifCond .ge 9, 3) := by decide +kernel
theorem dX6_linkOf_28 : decode cX6_linkOf 28 = .ok (.iload 5, 2) := by decide +kernel
theorem dX6_linkOf_30 : decode cX6_linkOf 30 = .ok (.ineg, 1) := by decide +kernel
theorem dX6_linkOf_31 : decode cX6_linkOf 31 = .ok (.goto 5, 3) := by decide +kernel
theorem dX6_linkOf_34 : decode cX6_linkOf 34 = .ok (.iload 5, 2) := by decide +kernel
theorem dX6_linkOf_36 : decode cX6_linkOf 36 = .ok (.istore 6, 2) := by decide +kernel
theorem dX6_linkOf_38 : decode cX6_linkOf 38 = .ok (.iload 5, 2) := by decide +kernel
theorem dX6_linkOf_40 : decode cX6_linkOf 40 = .ok (.ifCond .ne 18, 3) := by decide +kernel
theorem dX6_linkOf_43 : decode cX6_linkOf 43 = .ok (.aload_n 0, 1) := by decide +kernel
theorem dX6_linkOf_44 : decode cX6_linkOf 44 = .ok (.iload_n 1, 1) := by decide +kernel
theorem dX6_linkOf_45 : decode cX6_linkOf 45 = .ok (.iload_n 3, 1) := by decide +kernel
theorem dX6_linkOf_46 : decode cX6_linkOf 46 = .ok (.if_icmp .ne 7, 3) := by decide +kernel
theorem dX6_linkOf_49 : decode cX6_linkOf 49 = .ok (.iconst 2, 1) := by decide +kernel
theorem dX6_linkOf_50 : decode cX6_linkOf 50 = .ok (.goto 4, 3) := by decide +kernel
theorem dX6_linkOf_53 : decode cX6_linkOf 53 = .ok (.iconst 3, 1) := by decide +kernel
theorem dX6_linkOf_54 : decode cX6_linkOf 54 = .ok (.invokevirtual 245, 3) := by decide +kernel
theorem dX6_linkOf_57 : decode cX6_linkOf 57 = .ok (.ireturn, 1) := by decide +kernel
theorem dX6_linkOf_58 : decode cX6_linkOf 58 = .ok (.iload_n 1, 1) := by decide +kernel
theorem dX6_linkOf_59 : decode cX6_linkOf 59 = .ok (.iload_n 3, 1) := by decide +kernel
theorem dX6_linkOf_60 : decode cX6_linkOf 60 = .ok (.if_icmp .ne 12, 3) := by decide +kernel
theorem dX6_linkOf_63 : decode cX6_linkOf 63 = .ok (.aload_n 0, 1) := by decide +kernel
theorem dX6_linkOf_64 : decode cX6_linkOf 64 = .ok (.iconst 4, 1) := by decide +kernel
theorem dX6_linkOf_65 : decode cX6_linkOf 65 = .ok (.invokevirtual 245, 3) := by decide +kernel
theorem dX6_linkOf_68 : decode cX6_linkOf 68 = .ok (.iload 6, 2) := by decide +kernel
theorem dX6_linkOf_70 : decode cX6_linkOf 70 = .ok (.imul, 1) := by decide +kernel
theorem dX6_linkOf_71 : decode cX6_linkOf 71 = .ok (.ireturn, 1) := by decide +kernel
theorem dX6_linkOf_72 : decode cX6_linkOf 72 = .ok (.iload 5, 2) := by decide +kernel
theorem dX6_linkOf_74 : decode cX6_linkOf 74 = .ok (.ifCond .le 7, 3) := by decide +kernel
theorem dX6_linkOf_77 : decode cX6_linkOf 77 = .ok (.iconst 1, 1) := by decide +kernel
theorem dX6_linkOf_78 : decode cX6_linkOf 78 = .ok (.goto 4, 3) := by decide +kernel
theorem dX6_linkOf_81 : decode cX6_linkOf 81 = .ok (.iconst 0, 1) := by decide +kernel
theorem dX6_linkOf_82 : decode cX6_linkOf 82 = .ok (.iload_n 3, 1) := by decide +kernel
theorem dX6_linkOf_83 : decode cX6_linkOf 83 = .ok (.iload_n 1, 1) := by decide +kernel
theorem dX6_linkOf_84 : decode cX6_linkOf 84 = .ok (.if_icmp .le 7, 3) := by decide +kernel
theorem dX6_linkOf_87 : decode cX6_linkOf 87 = .ok (.iconst 1, 1) := by decide +kernel
theorem dX6_linkOf_88 : decode cX6_linkOf 88 = .ok (.goto 4, 3) := by decide +kernel
theorem dX6_linkOf_91 : decode cX6_linkOf 91 = .ok (.iconst 0, 1) := by decide +kernel
theorem dX6_linkOf_92 : decode cX6_linkOf 92 = .ok (.if_icmp .ne 32, 3) := by decide +kernel
theorem dX6_linkOf_95 : decode cX6_linkOf 95 = .ok (.aload_n 0, 1) := by decide +kernel
theorem dX6_linkOf_96 : decode cX6_linkOf 96 = .ok (.iload_n 1, 1) := by decide +kernel
theorem dX6_linkOf_97 : decode cX6_linkOf 97 = .ok (.iload_n 3, 1) := by decide +kernel
theorem dX6_linkOf_98 : decode cX6_linkOf 98 = .ok (.iload 6, 2) := by decide +kernel
theorem dX6_linkOf_100 : decode cX6_linkOf 100 = .ok (.invokevirtual 248, 3) := by decide +kernel
theorem dX6_linkOf_103 : decode cX6_linkOf 103 = .ok (.istore 7, 2) := by decide +kernel
theorem dX6_linkOf_105 : decode cX6_linkOf 105 = .ok (.iload 7, 2) := by decide +kernel
theorem dX6_linkOf_107 : decode cX6_linkOf 107 = .ok (.iconst (-1), 1) := by decide +kernel
theorem dX6_linkOf_108 : decode cX6_linkOf 108 = .ok (.if_icmp .ne 7, 3) := by decide +kernel
theorem dX6_linkOf_111 : decode cX6_linkOf 111 = .ok (.iconst (-1), 1) := by decide +kernel
theorem dX6_linkOf_112 : decode cX6_linkOf 112 = .ok (.goto 11, 3) := by decide +kernel
theorem dX6_linkOf_115 : decode cX6_linkOf 115 = .ok (.aload_n 0, 1) := by decide +kernel
theorem dX6_linkOf_116 : decode cX6_linkOf 116 = .ok (.iconst 0, 1) := by decide +kernel
theorem dX6_linkOf_117 : decode cX6_linkOf 117 = .ok (.invokevirtual 245, 3) := by decide +kernel
theorem dX6_linkOf_120 : decode cX6_linkOf 120 = .ok (.iload 7, 2) := by decide +kernel
theorem dX6_linkOf_122 : decode cX6_linkOf 122 = .ok (.imul, 1) := by decide +kernel
theorem dX6_linkOf_123 : decode cX6_linkOf 123 = .ok (.ireturn, 1) := by decide +kernel
theorem dX6_linkOf_124 : decode cX6_linkOf 124 = .ok (.iload_n 1, 1) := by decide +kernel
theorem dX6_linkOf_125 : decode cX6_linkOf 125 = .ok (.iload_n 3, 1) := by decide +kernel
theorem dX6_linkOf_126 : decode cX6_linkOf 126 = .ok (.invokestatic 87, 3) := by decide +kernel
theorem dX6_linkOf_129 : decode cX6_linkOf 129 = .ok (.iconst 1, 1) := by decide +kernel
theorem dX6_linkOf_130 : decode cX6_linkOf 130 = .ok (.if_icmp .ne 27, 3) := by decide +kernel
theorem dX6_linkOf_133 : decode cX6_linkOf 133 = .ok (.iload_n 1, 1) := by decide +kernel
theorem dX6_linkOf_134 : decode cX6_linkOf 134 = .ok (.iload_n 3, 1) := by decide +kernel
theorem dX6_linkOf_135 : decode cX6_linkOf 135 = .ok (.invokestatic 92, 3) := by decide +kernel
theorem dX6_linkOf_138 : decode cX6_linkOf 138 = .ok (.iconst 5, 1) := by decide +kernel
theorem dX6_linkOf_139 : decode cX6_linkOf 139 = .ok (.if_icmp .ge 18, 3) := by decide +kernel
theorem dX6_linkOf_142 : decode cX6_linkOf 142 = .ok (.iload 6, 2) := by decide +kernel
theorem dX6_linkOf_144 : decode cX6_linkOf 144 = .ok (.aload_n 0, 1) := by decide +kernel
theorem dX6_linkOf_145 : decode cX6_linkOf 145 = .ok (.bipush 9, 2) := by decide +kernel
theorem dX6_linkOf_147 : decode cX6_linkOf 147 = .ok (.invokevirtual 245, 3) := by decide +kernel
theorem dX6_linkOf_150 : decode cX6_linkOf 150 = .ok (.if_icmp .gt 7, 3) := by decide +kernel
theorem dX6_linkOf_153 : decode cX6_linkOf 153 = .ok (.iconst 1, 1) := by decide +kernel
theorem dX6_linkOf_154 : decode cX6_linkOf 154 = .ok (.goto 4, 3) := by decide +kernel
theorem dX6_linkOf_157 : decode cX6_linkOf 157 = .ok (.iconst 0, 1) := by decide +kernel
theorem dX6_linkOf_158 : decode cX6_linkOf 158 = .ok (.istore 7, 2) := by decide +kernel
theorem dX6_linkOf_160 : decode cX6_linkOf 160 = .ok (.iload 7, 2) := by decide +kernel
theorem dX6_linkOf_162 : decode cX6_linkOf 162 = .ok (.ifCond .eq 11, 3) := by decide +kernel
theorem dX6_linkOf_165 : decode cX6_linkOf 165 = .ok (.aload_n 0, 1) := by decide +kernel
theorem dX6_linkOf_166 : decode cX6_linkOf 166 = .ok (.iconst 1, 1) := by decide +kernel
theorem dX6_linkOf_167 : decode cX6_linkOf 167 = .ok (.invokevirtual 245, 3) := by decide +kernel
theorem dX6_linkOf_170 : decode cX6_linkOf 170 = .ok (.goto 4, 3) := by decide +kernel
theorem dX6_linkOf_173 : decode cX6_linkOf 173 = .ok (.iconst (-1), 1) := by decide +kernel
theorem dX6_linkOf_174 : decode cX6_linkOf 174 = .ok (.ireturn, 1) := by decide +kernel
theorem dX6_isInOrder_0 : decode cX6_isInOrder 0 = .ok (.iconst 1, 1) := by decide +kernel
theorem dX6_isInOrder_1 : decode cX6_isInOrder 1 = .ok (.istore_n 2, 1) := by decide +kernel
theorem dX6_isInOrder_2 : decode cX6_isInOrder 2 = .ok (.iload_n 2, 1) := by decide +kernel
theorem dX6_isInOrder_3 : decode cX6_isInOrder 3 = .ok (.iload_n 1, 1) := by decide +kernel
theorem dX6_isInOrder_4 : decode cX6_isInOrder 4 = .ok (.if_icmp .ge 58, 3) := by decide +kernel
theorem dX6_isInOrder_7 : decode cX6_isInOrder 7 = .ok (.aload_n 0, 1) := by decide +kernel
theorem dX6_isInOrder_8 : decode cX6_isInOrder 8 = .ok (.getfield 7, 3) := by decide +kernel
theorem dX6_isInOrder_11 : decode cX6_isInOrder 11 = .ok (.iconst 1, 1) := by decide +kernel
theorem dX6_isInOrder_12 : decode cX6_isInOrder 12 = .ok (.iaload, 1) := by decide +kernel
theorem dX6_isInOrder_13 : decode cX6_isInOrder 13 = .ok (.iconst 1, 1) := by decide +kernel
theorem dX6_isInOrder_14 : decode cX6_isInOrder 14 = .ok (.if_icmp .ne 23, 3) := by decide +kernel
theorem dX6_isInOrder_17 : decode cX6_isInOrder 17 = .ok (.aload_n 0, 1) := by decide +kernel
theorem dX6_isInOrder_18 : decode cX6_isInOrder 18 = .ok (.getfield 36, 3) := by decide +kernel
theorem dX6_isInOrder_21 : decode cX6_isInOrder 21 = .ok (.iload_n 2, 1) := by decide +kernel
theorem dX6_isInOrder_22 : decode cX6_isInOrder 22 = .ok (.iaload, 1) := by decide +kernel
theorem dX6_isInOrder_23 : decode cX6_isInOrder 23 = .ok (.aload_n 0, 1) := by decide +kernel
theorem dX6_isInOrder_24 : decode cX6_isInOrder 24 = .ok (.getfield 36, 3) := by decide +kernel
theorem dX6_isInOrder_27 : decode cX6_isInOrder 27 = .ok (.iload_n 2, 1) := by decide +kernel
theorem dX6_isInOrder_28 : decode cX6_isInOrder 28 = .ok (.iconst 1, 1) := by decide +kernel
theorem dX6_isInOrder_29 : decode cX6_isInOrder 29 = .ok (.isub, 1) := by decide +kernel
theorem dX6_isInOrder_30 : decode cX6_isInOrder 30 = .ok (.iaload, 1) := by decide +kernel
theorem dX6_isInOrder_31 : decode cX6_isInOrder 31 = .ok (.if_icmp .gt 25, 3) := by decide +kernel
theorem dX6_isInOrder_34 : decode cX6_isInOrder 34 = .ok (.goto 20, 3) := by decide +kernel
theorem dX6_isInOrder_37 : decode cX6_isInOrder 37 = .ok (.aload_n 0, 1) := by decide +kernel
theorem dX6_isInOrder_38 : decode cX6_isInOrder 38 = .ok (.getfield 36, 3) := by decide +kernel
theorem dX6_isInOrder_41 : decode cX6_isInOrder 41 = .ok (.iload_n 2, 1) := by decide +kernel
theorem dX6_isInOrder_42 : decode cX6_isInOrder 42 = .ok (.iaload, 1) := by decide +kernel
theorem dX6_isInOrder_43 : decode cX6_isInOrder 43 = .ok (.aload_n 0, 1) := by decide +kernel
theorem dX6_isInOrder_44 : decode cX6_isInOrder 44 = .ok (.getfield 36, 3) := by decide +kernel
theorem dX6_isInOrder_47 : decode cX6_isInOrder 47 = .ok (.iload_n 2, 1) := by decide +kernel
theorem dX6_isInOrder_48 : decode cX6_isInOrder 48 = .ok (.iconst 1, 1) := by decide +kernel
theorem dX6_isInOrder_49 : decode cX6_isInOrder 49 = .ok (.isub, 1) := by decide +kernel
theorem dX6_isInOrder_50 : decode cX6_isInOrder 50 = .ok (.iaload, 1) := by decide +kernel
theorem dX6_isInOrder_51 : decode cX6_isInOrder 51 = .ok (.if_icmp .lt 5, 3) := by decide +kernel
theorem dX6_isInOrder_54 : decode cX6_isInOrder 54 = .ok (.iconst 0, 1) := by decide +kernel
theorem dX6_isInOrder_55 : decode cX6_isInOrder 55 = .ok (.ireturn, 1) := by decide +kernel
theorem dX6_isInOrder_56 : decode cX6_isInOrder 56 = .ok (.iinc 2 1, 3) := by decide +kernel
theorem dX6_isInOrder_59 : decode cX6_isInOrder 59 = .ok (.goto (-57), 3) := by decide +kernel
theorem dX6_isInOrder_62 : decode cX6_isInOrder 62 = .ok (.iconst 1, 1) := by decide +kernel
theorem dX6_isInOrder_63 : decode cX6_isInOrder 63 = .ok (.ireturn, 1) := by decide +kernel
theorem dX6_mayPlay_0 : decode cX6_mayPlay 0 = .ok (.iconst 0, 1) := by decide +kernel
theorem dX6_mayPlay_1 : decode cX6_mayPlay 1 = .ok (.istore_n 2, 1) := by decide +kernel
theorem dX6_mayPlay_2 : decode cX6_mayPlay 2 = .ok (.iload_n 2, 1) := by decide +kernel
theorem dX6_mayPlay_3 : decode cX6_mayPlay 3 = .ok (.aload_n 0, 1) := by decide +kernel
theorem dX6_mayPlay_4 : decode cX6_mayPlay 4 = .ok (.iload_n 1, 1) := by decide +kernel
theorem dX6_mayPlay_5 : decode cX6_mayPlay 5 = .ok (.invokevirtual 239, 3) := by decide +kernel
theorem dX6_mayPlay_8 : decode cX6_mayPlay 8 = .ok (.if_icmp .ge 31, 3) := by decide +kernel
theorem dX6_mayPlay_11 : decode cX6_mayPlay 11 = .ok (.aload_n 0, 1) := by decide +kernel
theorem dX6_mayPlay_12 : decode cX6_mayPlay 12 = .ok (.iload_n 1, 1) := by decide +kernel
theorem dX6_mayPlay_13 : decode cX6_mayPlay 13 = .ok (.iload_n 2, 1) := by decide +kernel
theorem dX6_mayPlay_14 : decode cX6_mayPlay 14 = .ok (.invokevirtual 251, 3) := by decide +kernel
theorem dX6_mayPlay_17 : decode cX6_mayPlay 17 = .ok (.aload_n 0, 1) := by decide +kernel
theorem dX6_mayPlay_18 : decode cX6_mayPlay 18 = .ok (.getfield 36, 3) := by decide +kernel
theorem dX6_mayPlay_21 : decode cX6_mayPlay 21 = .ok (.iload_n 2, 1) := by decide +kernel
theorem dX6_mayPlay_22 : decode cX6_mayPlay 22 = .ok (.iaload, 1) := by decide +kernel
theorem dX6_mayPlay_23 : decode cX6_mayPlay 23 = .ok (.iconst 1, 1) := by decide +kernel
theorem dX6_mayPlay_24 : decode cX6_mayPlay 24 = .ok (.isub, 1) := by decide +kernel
theorem dX6_mayPlay_25 : decode cX6_mayPlay 25 = .ok (.ishr, 1) := by decide +kernel
theorem dX6_mayPlay_26 : decode cX6_mayPlay 26 = .ok (.iconst 1, 1) := by decide +kernel
theorem dX6_mayPlay_27 : decode cX6_mayPlay 27 = .ok (.iand, 1) := by decide +kernel
theorem dX6_mayPlay_28 : decode cX6_mayPlay 28 = .ok (.ifCond .ne 5, 3) := by decide +kernel
theorem dX6_mayPlay_31 : decode cX6_mayPlay 31 = .ok (.iconst 0, 1) := by decide +kernel
theorem dX6_mayPlay_32 : decode cX6_mayPlay 32 = .ok (.ireturn, 1) := by decide +kernel
theorem dX6_mayPlay_33 : decode cX6_mayPlay 33 = .ok (.iinc 2 1, 3) := by decide +kernel
theorem dX6_mayPlay_36 : decode cX6_mayPlay 36 = .ok (.goto (-34), 3) := by decide +kernel
theorem dX6_mayPlay_39 : decode cX6_mayPlay 39 = .ok (.iconst 1, 1) := by decide +kernel
theorem dX6_mayPlay_40 : decode cX6_mayPlay 40 = .ok (.ireturn, 1) := by decide +kernel
theorem dX6_costHere_0 : decode cX6_costHere 0 = .ok (.aload_n 0, 1) := by decide +kernel
theorem dX6_costHere_1 : decode cX6_costHere 1 = .ok (.iload_n 1, 1) := by decide +kernel
theorem dX6_costHere_2 : decode cX6_costHere 2 = .ok (.invokevirtual 239, 3) := by decide +kernel
theorem dX6_costHere_5 : decode cX6_costHere 5 = .ok (.istore_n 2, 1) := by decide +kernel
theorem dX6_costHere_6 : decode cX6_costHere 6 = .ok (.aload_n 0, 1) := by decide +kernel
theorem dX6_costHere_7 : decode cX6_costHere 7 = .ok (.iload_n 2, 1) := by decide +kernel
theorem dX6_costHere_8 : decode cX6_costHere 8 = .ok (.invokevirtual 254, 3) := by decide +kernel
theorem dX6_costHere_11 : decode cX6_costHere 11 = .ok (.ifCond .eq 11, 3) := by decide +kernel
theorem dX6_costHere_14 : decode cX6_costHere 14 = .ok (.aload_n 0, 1) := by decide +kernel
theorem dX6_costHere_15 : decode cX6_costHere 15 = .ok (.iload_n 1, 1) := by decide +kernel
theorem dX6_costHere_16 : decode cX6_costHere 16 = .ok (.invokevirtual 257, 3) := by decide +kernel
theorem dX6_costHere_19 : decode cX6_costHere 19 = .ok (.ifCond .ne 5, 3) := by decide +kernel
theorem dX6_costHere_22 : decode cX6_costHere 22 = .ok (.iconst (-1), 1) := by decide +kernel
theorem dX6_costHere_23 : decode cX6_costHere 23 = .ok (.ireturn, 1) := by decide +kernel
theorem dX6_costHere_24 : decode cX6_costHere 24 = .ok (.iconst 0, 1) := by decide +kernel
theorem dX6_costHere_25 : decode cX6_costHere 25 = .ok (.istore_n 3, 1) := by decide +kernel
theorem dX6_costHere_26 : decode cX6_costHere 26 = .ok (.iconst 0, 1) := by decide +kernel
theorem dX6_costHere_27 : decode cX6_costHere 27 = .ok (.istore 4, 2) := by decide +kernel
theorem dX6_costHere_29 : decode cX6_costHere 29 = .ok (.iload 4, 2) := by decide +kernel
theorem dX6_costHere_31 : decode cX6_costHere 31 = .ok (.iload_n 2, 1) := by decide +kernel
theorem dX6_costHere_32 : decode cX6_costHere 32 = .ok (.if_icmp .ge 146, 3) := by decide +kernel
theorem dX6_costHere_35 : decode cX6_costHere 35 = .ok (.iload_n 3, 1) := by decide +kernel
theorem dX6_costHere_36 : decode cX6_costHere 36 = .ok (.aload_n 0, 1) := by decide +kernel
theorem dX6_costHere_37 : decode cX6_costHere 37 = .ok (.getfield 36, 3) := by decide +kernel
theorem dX6_costHere_40 : decode cX6_costHere 40 = .ok (.iload 4, 2) := by decide +kernel
theorem dX6_costHere_42 : decode cX6_costHere 42 = .ok (.iaload, 1) := by decide +kernel
theorem dX6_costHere_43 : decode cX6_costHere 43 = .ok (.iconst 1, 1) := by decide +kernel
theorem dX6_costHere_44 : decode cX6_costHere 44 = .ok (.if_icmp .eq 14, 3) := by decide +kernel
theorem dX6_costHere_47 : decode cX6_costHere 47 = .ok (.aload_n 0, 1) := by decide +kernel
theorem dX6_costHere_48 : decode cX6_costHere 48 = .ok (.getfield 36, 3) := by decide +kernel
theorem dX6_costHere_51 : decode cX6_costHere 51 = .ok (.iload 4, 2) := by decide +kernel
theorem dX6_costHere_53 : decode cX6_costHere 53 = .ok (.iaload, 1) := by decide +kernel
theorem dX6_costHere_54 : decode cX6_costHere 54 = .ok (.iconst 5, 1) := by decide +kernel
theorem dX6_costHere_55 : decode cX6_costHere 55 = .ok (.if_icmp .ne 24, 3) := by decide +kernel
theorem dX6_costHere_58 : decode cX6_costHere 58 = .ok (.aload_n 0, 1) := by decide +kernel
theorem dX6_costHere_59 : decode cX6_costHere 59 = .ok (.iload_n 1, 1) := by decide +kernel
theorem dX6_costHere_60 : decode cX6_costHere 60 = .ok (.iload 4, 2) := by decide +kernel
theorem dX6_costHere_62 : decode cX6_costHere 62 = .ok (.invokevirtual 260, 3) := by decide +kernel
theorem dX6_costHere_65 : decode cX6_costHere 65 = .ok (.invokestatic 263, 3) := by decide +kernel
theorem dX6_costHere_68 : decode cX6_costHere 68 = .ok (.ifCond .eq 11, 3) := by decide +kernel
theorem dX6_costHere_71 : decode cX6_costHere 71 = .ok (.aload_n 0, 1) := by decide +kernel
theorem dX6_costHere_72 : decode cX6_costHere 72 = .ok (.iconst 5, 1) := by decide +kernel
theorem dX6_costHere_73 : decode cX6_costHere 73 = .ok (.invokevirtual 245, 3) := by decide +kernel
theorem dX6_costHere_76 : decode cX6_costHere 76 = .ok (.goto 4, 3) := by decide +kernel
theorem dX6_costHere_79 : decode cX6_costHere 79 = .ok (.iconst 0, 1) := by decide +kernel
theorem dX6_costHere_80 : decode cX6_costHere 80 = .ok (.iadd, 1) := by decide +kernel
theorem dX6_costHere_81 : decode cX6_costHere 81 = .ok (.istore_n 3, 1) := by decide +kernel
theorem dX6_costHere_82 : decode cX6_costHere 82 = .ok (.iload_n 3, 1) := by decide +kernel
theorem dX6_costHere_83 : decode cX6_costHere 83 = .ok (.aload_n 0, 1) := by decide +kernel
theorem dX6_costHere_84 : decode cX6_costHere 84 = .ok (.getfield 36, 3) := by decide +kernel
theorem dX6_costHere_87 : decode cX6_costHere 87 = .ok (.iload 4, 2) := by decide +kernel
theorem dX6_costHere_89 : decode cX6_costHere 89 = .ok (.iaload, 1) := by decide +kernel
theorem dX6_costHere_90 : decode cX6_costHere 90 = .ok (.iconst 4, 1) := by decide +kernel
theorem dX6_costHere_91 : decode cX6_costHere 91 = .ok (.if_icmp .ne 12, 3) := by decide +kernel
theorem dX6_costHere_94 : decode cX6_costHere 94 = .ok (.aload_n 0, 1) := by decide +kernel
theorem dX6_costHere_95 : decode cX6_costHere 95 = .ok (.bipush 6, 2) := by decide +kernel
theorem dX6_costHere_97 : decode cX6_costHere 97 = .ok (.invokevirtual 245, 3) := by decide +kernel
theorem dX6_costHere_100 : decode cX6_costHere 100 = .ok (.goto 4, 3) := by decide +kernel
theorem dX6_costHere_103 : decode cX6_costHere 103 = .ok (.iconst 0, 1) := by decide +kernel
theorem dX6_costHere_104 : decode cX6_costHere 104 = .ok (.iadd, 1) := by decide +kernel
theorem dX6_costHere_105 : decode cX6_costHere 105 = .ok (.istore_n 3, 1) := by decide +kernel
theorem dX6_costHere_106 : decode cX6_costHere 106 = .ok (.iload 4, 2) := by decide +kernel
theorem dX6_costHere_108 : decode cX6_costHere 108 = .ok (.ifCond .ne 6, 3) := by decide +kernel
theorem dX6_costHere_111 : decode cX6_costHere 111 = .ok (.goto 61, 3) := by decide +kernel
theorem dX6_costHere_114 : decode cX6_costHere 114 = .ok (.aload_n 0, 1) := by decide +kernel
theorem dX6_costHere_115 : decode cX6_costHere 115 = .ok (.aload_n 0, 1) := by decide +kernel
theorem dX6_costHere_116 : decode cX6_costHere 116 = .ok (.getfield 36, 3) := by decide +kernel
theorem dX6_costHere_119 : decode cX6_costHere 119 = .ok (.iload 4, 2) := by decide +kernel
theorem dX6_costHere_121 : decode cX6_costHere 121 = .ok (.iconst 1, 1) := by decide +kernel
theorem dX6_costHere_122 : decode cX6_costHere 122 = .ok (.isub, 1) := by decide +kernel
theorem dX6_costHere_123 : decode cX6_costHere 123 = .ok (.iaload, 1) := by decide +kernel
theorem dX6_costHere_124 : decode cX6_costHere 124 = .ok (.aload_n 0, 1) := by decide +kernel
theorem dX6_costHere_125 : decode cX6_costHere 125 = .ok (.getfield 36, 3) := by decide +kernel
theorem dX6_costHere_128 : decode cX6_costHere 128 = .ok (.iload 4, 2) := by decide +kernel
theorem dX6_costHere_130 : decode cX6_costHere 130 = .ok (.iaload, 1) := by decide +kernel
theorem dX6_costHere_131 : decode cX6_costHere 131 = .ok (.aload_n 0, 1) := by decide +kernel
theorem dX6_costHere_132 : decode cX6_costHere 132 = .ok (.iload_n 1, 1) := by decide +kernel
theorem dX6_costHere_133 : decode cX6_costHere 133 = .ok (.iload 4, 2) := by decide +kernel
theorem dX6_costHere_135 : decode cX6_costHere 135 = .ok (.invokevirtual 260, 3) := by decide +kernel
theorem dX6_costHere_138 : decode cX6_costHere 138 = .ok (.aload_n 0, 1) := by decide +kernel
theorem dX6_costHere_139 : decode cX6_costHere 139 = .ok (.iload_n 1, 1) := by decide +kernel
theorem dX6_costHere_140 : decode cX6_costHere 140 = .ok (.iload 4, 2) := by decide +kernel
theorem dX6_costHere_142 : decode cX6_costHere 142 = .ok (.iconst 1, 1) := by decide +kernel
theorem dX6_costHere_143 : decode cX6_costHere 143 = .ok (.isub, 1) := by decide +kernel
theorem dX6_costHere_144 : decode cX6_costHere 144 = .ok (.invokevirtual 260, 3) := by decide +kernel
theorem dX6_costHere_147 : decode cX6_costHere 147 = .ok (.isub, 1) := by decide +kernel
theorem dX6_costHere_148 : decode cX6_costHere 148 = .ok (.invokevirtual 248, 3) := by decide +kernel
theorem dX6_costHere_151 : decode cX6_costHere 151 = .ok (.istore 5, 2) := by decide +kernel
theorem dX6_costHere_153 : decode cX6_costHere 153 = .ok (.iload 5, 2) := by decide +kernel
theorem dX6_costHere_155 : decode cX6_costHere 155 = .ok (.iconst (-1), 1) := by decide +kernel
theorem dX6_costHere_156 : decode cX6_costHere 156 = .ok (.if_icmp .ne 5, 3) := by decide +kernel
theorem dX6_costHere_159 : decode cX6_costHere 159 = .ok (.iconst (-1), 1) := by decide +kernel
theorem dX6_costHere_160 : decode cX6_costHere 160 = .ok (.ireturn, 1) := by decide +kernel
theorem dX6_costHere_161 : decode cX6_costHere 161 = .ok (.iload_n 3, 1) := by decide +kernel
theorem dX6_costHere_162 : decode cX6_costHere 162 = .ok (.aload_n 0, 1) := by decide +kernel
theorem dX6_costHere_163 : decode cX6_costHere 163 = .ok (.iconst 0, 1) := by decide +kernel
theorem dX6_costHere_164 : decode cX6_costHere 164 = .ok (.invokevirtual 245, 3) := by decide +kernel
theorem dX6_costHere_167 : decode cX6_costHere 167 = .ok (.iload 5, 2) := by decide +kernel
theorem dX6_costHere_169 : decode cX6_costHere 169 = .ok (.imul, 1) := by decide +kernel
theorem dX6_costHere_170 : decode cX6_costHere 170 = .ok (.iadd, 1) := by decide +kernel
theorem dX6_costHere_171 : decode cX6_costHere 171 = .ok (.istore_n 3, 1) := by decide +kernel
theorem dX6_costHere_172 : decode cX6_costHere 172 = .ok (.iinc 4 1, 3) := by decide +kernel
theorem dX6_costHere_175 : decode cX6_costHere 175 = .ok (.goto (-146), 3) := by decide +kernel
theorem dX6_costHere_178 : decode cX6_costHere 178 = .ok (.iload_n 3, 1) := by decide +kernel
theorem dX6_costHere_179 : decode cX6_costHere 179 = .ok (.ireturn, 1) := by decide +kernel
theorem dX6_fingerIn_0 : decode cX6_fingerIn 0 = .ok (.iload_n 1, 1) := by decide +kernel
theorem dX6_fingerIn_1 : decode cX6_fingerIn 1 = .ok (.ifCond .ne 12, 3) := by decide +kernel
theorem dX6_fingerIn_4 : decode cX6_fingerIn 4 = .ok (.iload_n 0, 1) := by decide +kernel
theorem dX6_fingerIn_5 : decode cX6_fingerIn 5 = .ok (.bipush 25, 2) := by decide +kernel
theorem dX6_fingerIn_7 : decode cX6_fingerIn 7 = .ok (.idiv, 1) := by decide +kernel
theorem dX6_fingerIn_8 : decode cX6_fingerIn 8 = .ok (.iconst 1, 1) := by decide +kernel
theorem dX6_fingerIn_9 : decode cX6_fingerIn 9 = .ok (.iadd, 1) := by decide +kernel
theorem dX6_fingerIn_10 : decode cX6_fingerIn 10 = .ok (.goto 23, 3) := by decide +kernel
theorem dX6_fingerIn_13 : decode cX6_fingerIn 13 = .ok (.iload_n 1, 1) := by decide +kernel
theorem dX6_fingerIn_14 : decode cX6_fingerIn 14 = .ok (.iconst 1, 1) := by decide +kernel
theorem dX6_fingerIn_15 : decode cX6_fingerIn 15 = .ok (.if_icmp .ne 13, 3) := by decide +kernel
theorem dX6_fingerIn_18 : decode cX6_fingerIn 18 = .ok (.iload_n 0, 1) := by decide +kernel
theorem dX6_fingerIn_19 : decode cX6_fingerIn 19 = .ok (.iconst 5, 1) := by decide +kernel
theorem dX6_fingerIn_20 : decode cX6_fingerIn 20 = .ok (.idiv, 1) := by decide +kernel
theorem dX6_fingerIn_21 : decode cX6_fingerIn 21 = .ok (.iconst 5, 1) := by decide +kernel
theorem dX6_fingerIn_22 : decode cX6_fingerIn 22 = .ok (.irem, 1) := by decide +kernel
theorem dX6_fingerIn_23 : decode cX6_fingerIn 23 = .ok (.iconst 1, 1) := by decide +kernel
theorem dX6_fingerIn_24 : decode cX6_fingerIn 24 = .ok (.iadd, 1) := by decide +kernel
theorem dX6_fingerIn_25 : decode cX6_fingerIn 25 = .ok (.goto 8, 3) := by decide +kernel
theorem dX6_fingerIn_28 : decode cX6_fingerIn 28 = .ok (.iload_n 0, 1) := by decide +kernel
theorem dX6_fingerIn_29 : decode cX6_fingerIn 29 = .ok (.iconst 5, 1) := by decide +kernel
theorem dX6_fingerIn_30 : decode cX6_fingerIn 30 = .ok (.irem, 1) := by decide +kernel
theorem dX6_fingerIn_31 : decode cX6_fingerIn 31 = .ok (.iconst 1, 1) := by decide +kernel
theorem dX6_fingerIn_32 : decode cX6_fingerIn 32 = .ok (.iadd, 1) := by decide +kernel
theorem dX6_fingerIn_33 : decode cX6_fingerIn 33 = .ok (.ireturn, 1) := by decide +kernel
theorem dX6_looksAt_0 : decode cX6_looksAt 0 = .ok (.iconst 0, 1) := by decide +kernel
theorem dX6_looksAt_1 : decode cX6_looksAt 1 = .ok (.istore_n 3, 1) := by decide +kernel
theorem dX6_looksAt_2 : decode cX6_looksAt 2 = .ok (.iload_n 3, 1) := by decide +kernel
theorem dX6_looksAt_3 : decode cX6_looksAt 3 = .ok (.iload_n 2, 1) := by decide +kernel
theorem dX6_looksAt_4 : decode cX6_looksAt 4 = .ok (.if_icmp .ge 20, 3) := by decide +kernel
theorem dX6_looksAt_7 : decode cX6_looksAt 7 = .ok (.aload_n 0, 1) := by decide +kernel
theorem dX6_looksAt_8 : decode cX6_looksAt 8 = .ok (.getfield 36, 3) := by decide +kernel
theorem dX6_looksAt_11 : decode cX6_looksAt 11 = .ok (.iload_n 3, 1) := by decide +kernel
theorem dX6_looksAt_12 : decode cX6_looksAt 12 = .ok (.iload_n 1, 1) := by decide +kernel
theorem dX6_looksAt_13 : decode cX6_looksAt 13 = .ok (.iload_n 3, 1) := by decide +kernel
theorem dX6_looksAt_14 : decode cX6_looksAt 14 = .ok (.invokestatic 266, 3) := by decide +kernel
theorem dX6_looksAt_17 : decode cX6_looksAt 17 = .ok (.iastore, 1) := by decide +kernel
theorem dX6_looksAt_18 : decode cX6_looksAt 18 = .ok (.iinc 3 1, 3) := by decide +kernel
theorem dX6_looksAt_21 : decode cX6_looksAt 21 = .ok (.goto (-19), 3) := by decide +kernel
theorem dX6_looksAt_24 : decode cX6_looksAt 24 = .ok (.return_, 1) := by decide +kernel
theorem dX6_laysShapes_0 : decode cX6_laysShapes 0 = .ok (.iconst 0, 1) := by decide +kernel
theorem dX6_laysShapes_1 : decode cX6_laysShapes 1 = .ok (.istore_n 1, 1) := by decide +kernel
theorem dX6_laysShapes_2 : decode cX6_laysShapes 2 = .ok (.iload_n 1, 1) := by decide +kernel
theorem dX6_laysShapes_3 : decode cX6_laysShapes 3 = .ok (.aload_n 0, 1) := by decide +kernel
theorem dX6_laysShapes_4 : decode cX6_laysShapes 4 = .ok (.invokevirtual 113, 3) := by decide +kernel
theorem dX6_laysShapes_7 : decode cX6_laysShapes 7 = .ok (.if_icmp .ge 131, 3) := by decide +kernel
theorem dX6_laysShapes_10 : decode cX6_laysShapes 10 = .ok (.aload_n 0, 1) := by decide +kernel
theorem dX6_laysShapes_11 : decode cX6_laysShapes 11 = .ok (.getfield 45, 3) := by decide +kernel
theorem dX6_laysShapes_14 : decode cX6_laysShapes 14 = .ok (.iload_n 1, 1) := by decide +kernel
theorem dX6_laysShapes_15 : decode cX6_laysShapes 15 = .ok (.iconst 0, 1) := by decide +kernel
theorem dX6_laysShapes_16 : decode cX6_laysShapes 16 = .ok (.iastore, 1) := by decide +kernel
theorem dX6_laysShapes_17 : decode cX6_laysShapes 17 = .ok (.aload_n 0, 1) := by decide +kernel
theorem dX6_laysShapes_18 : decode cX6_laysShapes 18 = .ok (.iload_n 1, 1) := by decide +kernel
theorem dX6_laysShapes_19 : decode cX6_laysShapes 19 = .ok (.invokevirtual 239, 3) := by decide +kernel
theorem dX6_laysShapes_22 : decode cX6_laysShapes 22 = .ok (.iconst 1, 1) := by decide +kernel
theorem dX6_laysShapes_23 : decode cX6_laysShapes 23 = .ok (.if_icmp .ne 8, 3) := by decide +kernel
theorem dX6_laysShapes_26 : decode cX6_laysShapes 26 = .ok (.bipush 25, 2) := by decide +kernel
theorem dX6_laysShapes_28 : decode cX6_laysShapes 28 = .ok (.goto 17, 3) := by decide +kernel
theorem dX6_laysShapes_31 : decode cX6_laysShapes 31 = .ok (.aload_n 0, 1) := by decide +kernel
theorem dX6_laysShapes_32 : decode cX6_laysShapes 32 = .ok (.iload_n 1, 1) := by decide +kernel
theorem dX6_laysShapes_33 : decode cX6_laysShapes 33 = .ok (.invokevirtual 239, 3) := by decide +kernel
theorem dX6_laysShapes_36 : decode cX6_laysShapes 36 = .ok (.iconst 2, 1) := by decide +kernel
theorem dX6_laysShapes_37 : decode cX6_laysShapes 37 = .ok (.if_icmp .ne 7, 3) := by decide +kernel
theorem dX6_laysShapes_40 : decode cX6_laysShapes 40 = .ok (.iconst 5, 1) := by decide +kernel
theorem dX6_laysShapes_41 : decode cX6_laysShapes 41 = .ok (.goto 4, 3) := by decide +kernel
theorem dX6_laysShapes_44 : decode cX6_laysShapes 44 = .ok (.iconst 1, 1) := by decide +kernel
theorem dX6_laysShapes_45 : decode cX6_laysShapes 45 = .ok (.istore_n 2, 1) := by decide +kernel
theorem dX6_laysShapes_46 : decode cX6_laysShapes 46 = .ok (.iconst 0, 1) := by decide +kernel
theorem dX6_laysShapes_47 : decode cX6_laysShapes 47 = .ok (.istore_n 3, 1) := by decide +kernel
theorem dX6_laysShapes_48 : decode cX6_laysShapes 48 = .ok (.iload_n 3, 1) := by decide +kernel
theorem dX6_laysShapes_49 : decode cX6_laysShapes 49 = .ok (.bipush 125, 2) := by decide +kernel
theorem dX6_laysShapes_51 : decode cX6_laysShapes 51 = .ok (.if_icmp .ge 81, 3) := by decide +kernel
theorem dX6_laysShapes_54 : decode cX6_laysShapes 54 = .ok (.aload_n 0, 1) := by decide +kernel
theorem dX6_laysShapes_55 : decode cX6_laysShapes 55 = .ok (.iload_n 3, 1) := by decide +kernel
theorem dX6_laysShapes_56 : decode cX6_laysShapes 56 = .ok (.aload_n 0, 1) := by decide +kernel
theorem dX6_laysShapes_57 : decode cX6_laysShapes 57 = .ok (.iload_n 1, 1) := by decide +kernel
theorem dX6_laysShapes_58 : decode cX6_laysShapes 58 = .ok (.invokevirtual 239, 3) := by decide +kernel
theorem dX6_laysShapes_61 : decode cX6_laysShapes 61 = .ok (.invokevirtual 269, 3) := by decide +kernel
theorem dX6_laysShapes_64 : decode cX6_laysShapes 64 = .ok (.aload_n 0, 1) := by decide +kernel
theorem dX6_laysShapes_65 : decode cX6_laysShapes 65 = .ok (.iload_n 1, 1) := by decide +kernel
theorem dX6_laysShapes_66 : decode cX6_laysShapes 66 = .ok (.invokevirtual 273, 3) := by decide +kernel
theorem dX6_laysShapes_69 : decode cX6_laysShapes 69 = .ok (.istore 4, 2) := by decide +kernel
theorem dX6_laysShapes_71 : decode cX6_laysShapes 71 = .ok (.iload 4, 2) := by decide +kernel
theorem dX6_laysShapes_73 : decode cX6_laysShapes 73 = .ok (.iconst (-1), 1) := by decide +kernel
theorem dX6_laysShapes_74 : decode cX6_laysShapes 74 = .ok (.if_icmp .ne 6, 3) := by decide +kernel
theorem dX6_laysShapes_77 : decode cX6_laysShapes 77 = .ok (.goto 48, 3) := by decide +kernel
theorem dX6_laysShapes_80 : decode cX6_laysShapes 80 = .ok (.aload_n 0, 1) := by decide +kernel
theorem dX6_laysShapes_81 : decode cX6_laysShapes 81 = .ok (.getfield 39, 3) := by decide +kernel
theorem dX6_laysShapes_84 : decode cX6_laysShapes 84 = .ok (.bipush 10, 2) := by decide +kernel
theorem dX6_laysShapes_86 : decode cX6_laysShapes 86 = .ok (.iload_n 1, 1) := by decide +kernel
theorem dX6_laysShapes_87 : decode cX6_laysShapes 87 = .ok (.imul, 1) := by decide +kernel
theorem dX6_laysShapes_88 : decode cX6_laysShapes 88 = .ok (.aload_n 0, 1) := by decide +kernel
theorem dX6_laysShapes_89 : decode cX6_laysShapes 89 = .ok (.getfield 45, 3) := by decide +kernel
theorem dX6_laysShapes_92 : decode cX6_laysShapes 92 = .ok (.iload_n 1, 1) := by decide +kernel
theorem dX6_laysShapes_93 : decode cX6_laysShapes 93 = .ok (.iaload, 1) := by decide +kernel
theorem dX6_laysShapes_94 : decode cX6_laysShapes 94 = .ok (.iadd, 1) := by decide +kernel
theorem dX6_laysShapes_95 : decode cX6_laysShapes 95 = .ok (.iload_n 3, 1) := by decide +kernel
theorem dX6_laysShapes_96 : decode cX6_laysShapes 96 = .ok (.iastore, 1) := by decide +kernel
theorem dX6_laysShapes_97 : decode cX6_laysShapes 97 = .ok (.aload_n 0, 1) := by decide +kernel
theorem dX6_laysShapes_98 : decode cX6_laysShapes 98 = .ok (.getfield 42, 3) := by decide +kernel
theorem dX6_laysShapes_101 : decode cX6_laysShapes 101 = .ok (.bipush 10, 2) := by decide +kernel
theorem dX6_laysShapes_103 : decode cX6_laysShapes 103 = .ok (.iload_n 1, 1) := by decide +kernel
theorem dX6_laysShapes_104 : decode cX6_laysShapes 104 = .ok (.imul, 1) := by decide +kernel
theorem dX6_laysShapes_105 : decode cX6_laysShapes 105 = .ok (.aload_n 0, 1) := by decide +kernel
theorem dX6_laysShapes_106 : decode cX6_laysShapes 106 = .ok (.getfield 45, 3) := by decide +kernel
theorem dX6_laysShapes_109 : decode cX6_laysShapes 109 = .ok (.iload_n 1, 1) := by decide +kernel
theorem dX6_laysShapes_110 : decode cX6_laysShapes 110 = .ok (.iaload, 1) := by decide +kernel
theorem dX6_laysShapes_111 : decode cX6_laysShapes 111 = .ok (.iadd, 1) := by decide +kernel
theorem dX6_laysShapes_112 : decode cX6_laysShapes 112 = .ok (.iload 4, 2) := by decide +kernel
theorem dX6_laysShapes_114 : decode cX6_laysShapes 114 = .ok (.iastore, 1) := by decide +kernel
theorem dX6_laysShapes_115 : decode cX6_laysShapes 115 = .ok (.aload_n 0, 1) := by decide +kernel
theorem dX6_laysShapes_116 : decode cX6_laysShapes 116 = .ok (.getfield 45, 3) := by decide +kernel
theorem dX6_laysShapes_119 : decode cX6_laysShapes 119 = .ok (.iload_n 1, 1) := by decide +kernel
theorem dX6_laysShapes_120 : decode cX6_laysShapes 120 = .ok (.dup2, 1) := by decide +kernel
theorem dX6_laysShapes_121 : decode cX6_laysShapes 121 = .ok (.iaload, 1) := by decide +kernel
theorem dX6_laysShapes_122 : decode cX6_laysShapes 122 = .ok (.iconst 1, 1) := by decide +kernel
theorem dX6_laysShapes_123 : decode cX6_laysShapes 123 = .ok (.iadd, 1) := by decide +kernel
theorem dX6_laysShapes_124 : decode cX6_laysShapes 124 = .ok (.iastore, 1) := by decide +kernel
theorem dX6_laysShapes_125 : decode cX6_laysShapes 125 = .ok (.iload_n 3, 1) := by decide +kernel
theorem dX6_laysShapes_126 : decode cX6_laysShapes 126 = .ok (.iload_n 2, 1) := by decide +kernel
theorem dX6_laysShapes_127 : decode cX6_laysShapes 127 = .ok (.iadd, 1) := by decide +kernel
theorem dX6_laysShapes_128 : decode cX6_laysShapes 128 = .ok (.istore_n 3, 1) := by decide +kernel
theorem dX6_laysShapes_129 : decode cX6_laysShapes 129 = .ok (.goto (-81), 3) := by decide +kernel
theorem dX6_laysShapes_132 : decode cX6_laysShapes 132 = .ok (.iinc 1 1, 3) := by decide +kernel
theorem dX6_laysShapes_135 : decode cX6_laysShapes 135 = .ok (.goto (-133), 3) := by decide +kernel
theorem dX6_laysShapes_138 : decode cX6_laysShapes 138 = .ok (.return_, 1) := by decide +kernel
theorem dX6_firstNote_0 : decode cX6_firstNote 0 = .ok (.aload_n 0, 1) := by decide +kernel
theorem dX6_firstNote_1 : decode cX6_firstNote 1 = .ok (.getfield 7, 3) := by decide +kernel
theorem dX6_firstNote_4 : decode cX6_firstNote 4 = .ok (.iconst 1, 1) := by decide +kernel
theorem dX6_firstNote_5 : decode cX6_firstNote 5 = .ok (.iaload, 1) := by decide +kernel
theorem dX6_firstNote_6 : decode cX6_firstNote 6 = .ok (.iconst 1, 1) := by decide +kernel
theorem dX6_firstNote_7 : decode cX6_firstNote 7 = .ok (.if_icmp .ne 7, 3) := by decide +kernel
theorem dX6_firstNote_10 : decode cX6_firstNote 10 = .ok (.iconst 0, 1) := by decide +kernel
theorem dX6_firstNote_11 : decode cX6_firstNote 11 = .ok (.goto 10, 3) := by decide +kernel
theorem dX6_firstNote_14 : decode cX6_firstNote 14 = .ok (.aload_n 0, 1) := by decide +kernel
theorem dX6_firstNote_15 : decode cX6_firstNote 15 = .ok (.iload_n 1, 1) := by decide +kernel
theorem dX6_firstNote_16 : decode cX6_firstNote 16 = .ok (.invokevirtual 239, 3) := by decide +kernel
theorem dX6_firstNote_19 : decode cX6_firstNote 19 = .ok (.iconst 1, 1) := by decide +kernel
theorem dX6_firstNote_20 : decode cX6_firstNote 20 = .ok (.isub, 1) := by decide +kernel
theorem dX6_firstNote_21 : decode cX6_firstNote 21 = .ok (.ireturn, 1) := by decide +kernel
theorem dX6_lastNote_0 : decode cX6_lastNote 0 = .ok (.aload_n 0, 1) := by decide +kernel
theorem dX6_lastNote_1 : decode cX6_lastNote 1 = .ok (.getfield 7, 3) := by decide +kernel
theorem dX6_lastNote_4 : decode cX6_lastNote 4 = .ok (.iconst 1, 1) := by decide +kernel
theorem dX6_lastNote_5 : decode cX6_lastNote 5 = .ok (.iaload, 1) := by decide +kernel
theorem dX6_lastNote_6 : decode cX6_lastNote 6 = .ok (.iconst 1, 1) := by decide +kernel
theorem dX6_lastNote_7 : decode cX6_lastNote 7 = .ok (.if_icmp .ne 13, 3) := by decide +kernel
theorem dX6_lastNote_10 : decode cX6_lastNote 10 = .ok (.aload_n 0, 1) := by decide +kernel
theorem dX6_lastNote_11 : decode cX6_lastNote 11 = .ok (.iload_n 1, 1) := by decide +kernel
theorem dX6_lastNote_12 : decode cX6_lastNote 12 = .ok (.invokevirtual 239, 3) := by decide +kernel
theorem dX6_lastNote_15 : decode cX6_lastNote 15 = .ok (.iconst 1, 1) := by decide +kernel
theorem dX6_lastNote_16 : decode cX6_lastNote 16 = .ok (.isub, 1) := by decide +kernel
theorem dX6_lastNote_17 : decode cX6_lastNote 17 = .ok (.goto 4, 3) := by decide +kernel
theorem dX6_lastNote_20 : decode cX6_lastNote 20 = .ok (.iconst 0, 1) := by decide +kernel
theorem dX6_lastNote_21 : decode cX6_lastNote 21 = .ok (.ireturn, 1) := by decide +kernel
theorem dX6_linkBy_0 : decode cX6_linkBy 0 = .ok (.aload_n 0, 1) := by decide +kernel
theorem dX6_linkBy_1 : decode cX6_linkBy 1 = .ok (.iload_n 2, 1) := by decide +kernel
theorem dX6_linkBy_2 : decode cX6_linkBy 2 = .ok (.iload_n 3, 1) := by decide +kernel
theorem dX6_linkBy_3 : decode cX6_linkBy 3 = .ok (.invokestatic 266, 3) := by decide +kernel
theorem dX6_linkBy_6 : decode cX6_linkBy 6 = .ok (.aload_n 0, 1) := by decide +kernel
theorem dX6_linkBy_7 : decode cX6_linkBy 7 = .ok (.iload_n 1, 1) := by decide +kernel
theorem dX6_linkBy_8 : decode cX6_linkBy 8 = .ok (.iload_n 3, 1) := by decide +kernel
theorem dX6_linkBy_9 : decode cX6_linkBy 9 = .ok (.invokevirtual 260, 3) := by decide +kernel
theorem dX6_linkBy_12 : decode cX6_linkBy 12 = .ok (.iload 4, 2) := by decide +kernel
theorem dX6_linkBy_14 : decode cX6_linkBy 14 = .ok (.iload 5, 2) := by decide +kernel
theorem dX6_linkBy_16 : decode cX6_linkBy 16 = .ok (.invokestatic 266, 3) := by decide +kernel
theorem dX6_linkBy_19 : decode cX6_linkBy 19 = .ok (.aload_n 0, 1) := by decide +kernel
theorem dX6_linkBy_20 : decode cX6_linkBy 20 = .ok (.iload_n 1, 1) := by decide +kernel
theorem dX6_linkBy_21 : decode cX6_linkBy 21 = .ok (.iconst 1, 1) := by decide +kernel
theorem dX6_linkBy_22 : decode cX6_linkBy 22 = .ok (.iadd, 1) := by decide +kernel
theorem dX6_linkBy_23 : decode cX6_linkBy 23 = .ok (.iload 5, 2) := by decide +kernel
theorem dX6_linkBy_25 : decode cX6_linkBy 25 = .ok (.invokevirtual 260, 3) := by decide +kernel
theorem dX6_linkBy_28 : decode cX6_linkBy 28 = .ok (.invokevirtual 276, 3) := by decide +kernel
theorem dX6_linkBy_31 : decode cX6_linkBy 31 = .ok (.ireturn, 1) := by decide +kernel
theorem dX6_passage_0 : decode cX6_passage 0 = .ok (.aload_n 0, 1) := by decide +kernel
theorem dX6_passage_1 : decode cX6_passage 1 = .ok (.iload_n 1, 1) := by decide +kernel
theorem dX6_passage_2 : decode cX6_passage 2 = .ok (.invokevirtual 280, 3) := by decide +kernel
theorem dX6_passage_5 : decode cX6_passage 5 = .ok (.ifCond .eq 5, 3) := by decide +kernel
theorem dX6_passage_8 : decode cX6_passage 8 = .ok (.iconst 0, 1) := by decide +kernel
theorem dX6_passage_9 : decode cX6_passage 9 = .ok (.ireturn, 1) := by decide +kernel
theorem dX6_passage_10 : decode cX6_passage 10 = .ok (.aload_n 0, 1) := by decide +kernel
theorem dX6_passage_11 : decode cX6_passage 11 = .ok (.iload_n 1, 1) := by decide +kernel
theorem dX6_passage_12 : decode cX6_passage 12 = .ok (.iload_n 2, 1) := by decide +kernel
theorem dX6_passage_13 : decode cX6_passage 13 = .ok (.aload_n 0, 1) := by decide +kernel
theorem dX6_passage_14 : decode cX6_passage 14 = .ok (.iload_n 1, 1) := by decide +kernel
theorem dX6_passage_15 : decode cX6_passage 15 = .ok (.invokevirtual 283, 3) := by decide +kernel
theorem dX6_passage_18 : decode cX6_passage 18 = .ok (.iload_n 3, 1) := by decide +kernel
theorem dX6_passage_19 : decode cX6_passage 19 = .ok (.aload_n 0, 1) := by decide +kernel
theorem dX6_passage_20 : decode cX6_passage 20 = .ok (.iload_n 1, 1) := by decide +kernel
theorem dX6_passage_21 : decode cX6_passage 21 = .ok (.iconst 1, 1) := by decide +kernel
theorem dX6_passage_22 : decode cX6_passage 22 = .ok (.iadd, 1) := by decide +kernel
theorem dX6_passage_23 : decode cX6_passage 23 = .ok (.invokevirtual 283, 3) := by decide +kernel
theorem dX6_passage_26 : decode cX6_passage 26 = .ok (.invokevirtual 286, 3) := by decide +kernel
theorem dX6_passage_29 : decode cX6_passage 29 = .ok (.istore 4, 2) := by decide +kernel
theorem dX6_passage_31 : decode cX6_passage 31 = .ok (.aload_n 0, 1) := by decide +kernel
theorem dX6_passage_32 : decode cX6_passage 32 = .ok (.iload_n 1, 1) := by decide +kernel
theorem dX6_passage_33 : decode cX6_passage 33 = .ok (.invokevirtual 239, 3) := by decide +kernel
theorem dX6_passage_36 : decode cX6_passage 36 = .ok (.aload_n 0, 1) := by decide +kernel
theorem dX6_passage_37 : decode cX6_passage 37 = .ok (.iload_n 1, 1) := by decide +kernel
theorem dX6_passage_38 : decode cX6_passage 38 = .ok (.iconst 1, 1) := by decide +kernel
theorem dX6_passage_39 : decode cX6_passage 39 = .ok (.iadd, 1) := by decide +kernel
theorem dX6_passage_40 : decode cX6_passage 40 = .ok (.invokevirtual 239, 3) := by decide +kernel
theorem dX6_passage_43 : decode cX6_passage 43 = .ok (.iadd, 1) := by decide +kernel
theorem dX6_passage_44 : decode cX6_passage 44 = .ok (.iconst 2, 1) := by decide +kernel
theorem dX6_passage_45 : decode cX6_passage 45 = .ok (.if_icmp .ne 7, 3) := by decide +kernel
theorem dX6_passage_48 : decode cX6_passage 48 = .ok (.iconst 0, 1) := by decide +kernel
theorem dX6_passage_49 : decode cX6_passage 49 = .ok (.goto 22, 3) := by decide +kernel
theorem dX6_passage_52 : decode cX6_passage 52 = .ok (.aload_n 0, 1) := by decide +kernel
theorem dX6_passage_53 : decode cX6_passage 53 = .ok (.iload_n 1, 1) := by decide +kernel
theorem dX6_passage_54 : decode cX6_passage 54 = .ok (.iload_n 2, 1) := by decide +kernel
theorem dX6_passage_55 : decode cX6_passage 55 = .ok (.aload_n 0, 1) := by decide +kernel
theorem dX6_passage_56 : decode cX6_passage 56 = .ok (.iload_n 1, 1) := by decide +kernel
theorem dX6_passage_57 : decode cX6_passage 57 = .ok (.invokevirtual 290, 3) := by decide +kernel
theorem dX6_passage_60 : decode cX6_passage 60 = .ok (.iload_n 3, 1) := by decide +kernel
theorem dX6_passage_61 : decode cX6_passage 61 = .ok (.aload_n 0, 1) := by decide +kernel
theorem dX6_passage_62 : decode cX6_passage 62 = .ok (.iload_n 1, 1) := by decide +kernel
theorem dX6_passage_63 : decode cX6_passage 63 = .ok (.iconst 1, 1) := by decide +kernel
theorem dX6_passage_64 : decode cX6_passage 64 = .ok (.iadd, 1) := by decide +kernel
theorem dX6_passage_65 : decode cX6_passage 65 = .ok (.invokevirtual 290, 3) := by decide +kernel
theorem dX6_passage_68 : decode cX6_passage 68 = .ok (.invokevirtual 286, 3) := by decide +kernel
theorem dX6_passage_71 : decode cX6_passage 71 = .ok (.istore 5, 2) := by decide +kernel
theorem dX6_passage_73 : decode cX6_passage 73 = .ok (.iload 4, 2) := by decide +kernel
theorem dX6_passage_75 : decode cX6_passage 75 = .ok (.iconst (-1), 1) := by decide +kernel
theorem dX6_passage_76 : decode cX6_passage 76 = .ok (.if_icmp .eq 9, 3) := by decide +kernel
theorem dX6_passage_79 : decode cX6_passage 79 = .ok (.iload 5, 2) := by decide +kernel
theorem dX6_passage_81 : decode cX6_passage 81 = .ok (.iconst (-1), 1) := by decide +kernel
theorem dX6_passage_82 : decode cX6_passage 82 = .ok (.if_icmp .ne 5, 3) := by decide +kernel
theorem dX6_passage_85 : decode cX6_passage 85 = .ok (.iconst (-1), 1) := by decide +kernel
theorem dX6_passage_86 : decode cX6_passage 86 = .ok (.ireturn, 1) := by decide +kernel
theorem dX6_passage_87 : decode cX6_passage 87 = .ok (.iconst 0, 1) := by decide +kernel
theorem dX6_passage_88 : decode cX6_passage 88 = .ok (.iload 4, 2) := by decide +kernel
theorem dX6_passage_90 : decode cX6_passage 90 = .ok (.iload 5, 2) := by decide +kernel
theorem dX6_passage_92 : decode cX6_passage 92 = .ok (.iadd, 1) := by decide +kernel
theorem dX6_passage_93 : decode cX6_passage 93 = .ok (.aload_n 0, 1) := by decide +kernel
theorem dX6_passage_94 : decode cX6_passage 94 = .ok (.bipush 7, 2) := by decide +kernel
theorem dX6_passage_96 : decode cX6_passage 96 = .ok (.invokevirtual 245, 3) := by decide +kernel
theorem dX6_passage_99 : decode cX6_passage 99 = .ok (.aload_n 0, 1) := by decide +kernel
theorem dX6_passage_100 : decode cX6_passage 100 = .ok (.iload_n 1, 1) := by decide +kernel
theorem dX6_passage_101 : decode cX6_passage 101 = .ok (.invokevirtual 242, 3) := by decide +kernel
theorem dX6_passage_104 : decode cX6_passage 104 = .ok (.imul, 1) := by decide +kernel
theorem dX6_passage_105 : decode cX6_passage 105 = .ok (.isub, 1) := by decide +kernel
theorem dX6_passage_106 : decode cX6_passage 106 = .ok (.invokestatic 92, 3) := by decide +kernel
theorem dX6_passage_109 : decode cX6_passage 109 = .ok (.ireturn, 1) := by decide +kernel
