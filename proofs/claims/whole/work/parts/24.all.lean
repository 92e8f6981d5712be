/-! All blocks of all methods. -/
theorem al_0 : ∀ k : Nat, k < 20 → ∀ b, BkOK mi (mi (0 + k)) (bpc (0 + k)) b (blk (0 + k) b)
  | 0, _, b => by
    show BkOK mi (mi 0) (bpc 0) b (blk 0 b)
    rw [mi_0, bp_0, bk_0]
    exact ok_0 b
  | 1, _, b => by
    show BkOK mi (mi 1) (bpc 1) b (blk 1 b)
    rw [mi_1, bp_1, bk_1]
    exact ok_1 b
  | 2, _, b => by
    show BkOK mi (mi 2) (bpc 2) b (blk 2 b)
    rw [mi_2, bp_2, bk_2]
    exact ok_2 b
  | 3, _, b => by
    show BkOK mi (mi 3) (bpc 3) b (blk 3 b)
    rw [mi_3, bp_3, bk_3]
    exact ok_3 b
  | 4, _, b => by
    show BkOK mi (mi 4) (bpc 4) b (blk 4 b)
    rw [mi_4, bp_4, bk_4]
    exact ok_4 b
  | 5, _, b => by
    show BkOK mi (mi 5) (bpc 5) b (blk 5 b)
    rw [mi_5, bp_5, bk_5]
    exact ok_5 b
  | 6, _, b => by
    show BkOK mi (mi 6) (bpc 6) b (blk 6 b)
    rw [mi_6, bp_6, bk_6]
    exact ok_6 b
  | 7, _, b => by
    show BkOK mi (mi 7) (bpc 7) b (blk 7 b)
    rw [mi_7, bp_7, bk_7]
    exact ok_7 b
  | 8, _, b => by
    show BkOK mi (mi 8) (bpc 8) b (blk 8 b)
    rw [mi_8, bp_8, bk_8]
    exact ok_8 b
  | 9, _, b => by
    show BkOK mi (mi 9) (bpc 9) b (blk 9 b)
    rw [mi_9, bp_9, bk_9]
    exact ok_9 b
  | 10, _, b => by
    show BkOK mi (mi 10) (bpc 10) b (blk 10 b)
    rw [mi_10, bp_10, bk_10]
    exact ok_10 b
  | 11, _, b => by
    show BkOK mi (mi 11) (bpc 11) b (blk 11 b)
    rw [mi_11, bp_11, bk_11]
    exact ok_11 b
  | 12, _, b => by
    show BkOK mi (mi 12) (bpc 12) b (blk 12 b)
    rw [mi_12, bp_12, bk_12]
    exact ok_12 b
  | 13, _, b => by
    show BkOK mi (mi 13) (bpc 13) b (blk 13 b)
    rw [mi_13, bp_13, bk_13]
    exact ok_13 b
  | 14, _, b => by
    show BkOK mi (mi 14) (bpc 14) b (blk 14 b)
    rw [mi_14, bp_14, bk_14]
    exact ok_14 b
  | 15, _, b => by
    show BkOK mi (mi 15) (bpc 15) b (blk 15 b)
    rw [mi_15, bp_15, bk_15]
    exact ok_15 b
  | 16, _, b => by
    show BkOK mi (mi 16) (bpc 16) b (blk 16 b)
    rw [mi_16, bp_16, bk_16]
    exact ok_16 b
  | 17, _, b => by
    show BkOK mi (mi 17) (bpc 17) b (blk 17 b)
    rw [mi_17, bp_17, bk_17]
    exact ok_17 b
  | 18, _, b => by
    show BkOK mi (mi 18) (bpc 18) b (blk 18 b)
    rw [mi_18, bp_18, bk_18]
    exact ok_18 b
  | 19, _, b => by
    show BkOK mi (mi 19) (bpc 19) b (blk 19 b)
    rw [mi_19, bp_19, bk_19]
    exact ok_19 b
  | k + 20, h, _ => absurd h (by omega)
theorem al_1 : ∀ k : Nat, k < 20 → ∀ b, BkOK mi (mi (20 + k)) (bpc (20 + k)) b (blk (20 + k) b)
  | 0, _, b => by
    show BkOK mi (mi 20) (bpc 20) b (blk 20 b)
    rw [mi_20, bp_20, bk_20]
    exact ok_20 b
  | 1, _, b => by
    show BkOK mi (mi 21) (bpc 21) b (blk 21 b)
    rw [mi_21, bp_21, bk_21]
    exact ok_21 b
  | 2, _, b => by
    show BkOK mi (mi 22) (bpc 22) b (blk 22 b)
    rw [mi_22, bp_22, bk_22]
    exact ok_22 b
  | 3, _, b => by
    show BkOK mi (mi 23) (bpc 23) b (blk 23 b)
    rw [mi_23, bp_23, bk_23]
    exact ok_23 b
  | 4, _, b => by
    show BkOK mi (mi 24) (bpc 24) b (blk 24 b)
    rw [mi_24, bp_24, bk_24]
    exact ok_24 b
  | 5, _, b => by
    show BkOK mi (mi 25) (bpc 25) b (blk 25 b)
    rw [mi_25, bp_25, bk_25]
    exact ok_25 b
  | 6, _, b => by
    show BkOK mi (mi 26) (bpc 26) b (blk 26 b)
    rw [mi_26, bp_26, bk_26]
    exact ok_26 b
  | 7, _, b => by
    show BkOK mi (mi 27) (bpc 27) b (blk 27 b)
    rw [mi_27, bp_27, bk_27]
    exact ok_27 b
  | 8, _, b => by
    show BkOK mi (mi 28) (bpc 28) b (blk 28 b)
    rw [mi_28, bp_28, bk_28]
    exact ok_28 b
  | 9, _, b => by
    show BkOK mi (mi 29) (bpc 29) b (blk 29 b)
    rw [mi_29, bp_29, bk_29]
    exact ok_29 b
  | 10, _, b => by
    show BkOK mi (mi 30) (bpc 30) b (blk 30 b)
    rw [mi_30, bp_30, bk_30]
    exact ok_30 b
  | 11, _, b => by
    show BkOK mi (mi 31) (bpc 31) b (blk 31 b)
    rw [mi_31, bp_31, bk_31]
    exact ok_31 b
  | 12, _, b => by
    show BkOK mi (mi 32) (bpc 32) b (blk 32 b)
    rw [mi_32, bp_32, bk_32]
    exact ok_32 b
  | 13, _, b => by
    show BkOK mi (mi 33) (bpc 33) b (blk 33 b)
    rw [mi_33, bp_33, bk_33]
    exact ok_33 b
  | 14, _, b => by
    show BkOK mi (mi 34) (bpc 34) b (blk 34 b)
    rw [mi_34, bp_34, bk_34]
    exact ok_34 b
  | 15, _, b => by
    show BkOK mi (mi 35) (bpc 35) b (blk 35 b)
    rw [mi_35, bp_35, bk_35]
    exact ok_35 b
  | 16, _, b => by
    show BkOK mi (mi 36) (bpc 36) b (blk 36 b)
    rw [mi_36, bp_36, bk_36]
    exact ok_36 b
  | 17, _, b => by
    show BkOK mi (mi 37) (bpc 37) b (blk 37 b)
    rw [mi_37, bp_37, bk_37]
    exact ok_37 b
  | 18, _, b => by
    show BkOK mi (mi 38) (bpc 38) b (blk 38 b)
    rw [mi_38, bp_38, bk_38]
    exact ok_38 b
  | 19, _, b => by
    show BkOK mi (mi 39) (bpc 39) b (blk 39 b)
    rw [mi_39, bp_39, bk_39]
    exact ok_39 b
  | k + 20, h, _ => absurd h (by omega)
theorem al_2 : ∀ k : Nat, k < 20 → ∀ b, BkOK mi (mi (40 + k)) (bpc (40 + k)) b (blk (40 + k) b)
  | 0, _, b => by
    show BkOK mi (mi 40) (bpc 40) b (blk 40 b)
    rw [mi_40, bp_40, bk_40]
    exact ok_40 b
  | 1, _, b => by
    show BkOK mi (mi 41) (bpc 41) b (blk 41 b)
    rw [mi_41, bp_41, bk_41]
    exact ok_41 b
  | 2, _, b => by
    show BkOK mi (mi 42) (bpc 42) b (blk 42 b)
    rw [mi_42, bp_42, bk_42]
    exact ok_42 b
  | 3, _, b => by
    show BkOK mi (mi 43) (bpc 43) b (blk 43 b)
    rw [mi_43, bp_43, bk_43]
    exact ok_43 b
  | 4, _, b => by
    show BkOK mi (mi 44) (bpc 44) b (blk 44 b)
    rw [mi_44, bp_44, bk_44]
    exact ok_44 b
  | 5, _, b => by
    show BkOK mi (mi 45) (bpc 45) b (blk 45 b)
    rw [mi_45, bp_45, bk_45]
    exact ok_45 b
  | 6, _, b => by
    show BkOK mi (mi 46) (bpc 46) b (blk 46 b)
    rw [mi_46, bp_46, bk_46]
    exact ok_46 b
  | 7, _, b => by
    show BkOK mi (mi 47) (bpc 47) b (blk 47 b)
    rw [mi_47, bp_47, bk_47]
    exact ok_47 b
  | 8, _, b => by
    show BkOK mi (mi 48) (bpc 48) b (blk 48 b)
    rw [mi_48, bp_48, bk_48]
    exact ok_48 b
  | 9, _, b => by
    show BkOK mi (mi 49) (bpc 49) b (blk 49 b)
    rw [mi_49, bp_49, bk_49]
    exact ok_49 b
  | 10, _, b => by
    show BkOK mi (mi 50) (bpc 50) b (blk 50 b)
    rw [mi_50, bp_50, bk_50]
    exact ok_50 b
  | 11, _, b => by
    show BkOK mi (mi 51) (bpc 51) b (blk 51 b)
    rw [mi_51, bp_51, bk_51]
    exact ok_51 b
  | 12, _, b => by
    show BkOK mi (mi 52) (bpc 52) b (blk 52 b)
    rw [mi_52, bp_52, bk_52]
    exact ok_52 b
  | 13, _, b => by
    show BkOK mi (mi 53) (bpc 53) b (blk 53 b)
    rw [mi_53, bp_53, bk_53]
    exact ok_53 b
  | 14, _, b => by
    show BkOK mi (mi 54) (bpc 54) b (blk 54 b)
    rw [mi_54, bp_54, bk_54]
    exact ok_54 b
  | 15, _, b => by
    show BkOK mi (mi 55) (bpc 55) b (blk 55 b)
    rw [mi_55, bp_55, bk_55]
    exact ok_55 b
  | 16, _, b => by
    show BkOK mi (mi 56) (bpc 56) b (blk 56 b)
    rw [mi_56, bp_56, bk_56]
    exact ok_56 b
  | 17, _, b => by
    show BkOK mi (mi 57) (bpc 57) b (blk 57 b)
    rw [mi_57, bp_57, bk_57]
    exact ok_57 b
  | 18, _, b => by
    show BkOK mi (mi 58) (bpc 58) b (blk 58 b)
    rw [mi_58, bp_58, bk_58]
    exact ok_58 b
  | 19, _, b => by
    show BkOK mi (mi 59) (bpc 59) b (blk 59 b)
    rw [mi_59, bp_59, bk_59]
    exact ok_59 b
  | k + 20, h, _ => absurd h (by omega)
theorem al_3 : ∀ k : Nat, k < 20 → ∀ b, BkOK mi (mi (60 + k)) (bpc (60 + k)) b (blk (60 + k) b)
  | 0, _, b => by
    show BkOK mi (mi 60) (bpc 60) b (blk 60 b)
    rw [mi_60, bp_60, bk_60]
    exact ok_60 b
  | 1, _, b => by
    show BkOK mi (mi 61) (bpc 61) b (blk 61 b)
    rw [mi_61, bp_61, bk_61]
    exact ok_61 b
  | 2, _, b => by
    show BkOK mi (mi 62) (bpc 62) b (blk 62 b)
    rw [mi_62, bp_62, bk_62]
    exact ok_62 b
  | 3, _, b => by
    show BkOK mi (mi 63) (bpc 63) b (blk 63 b)
    rw [mi_63, bp_63, bk_63]
    exact ok_63 b
  | 4, _, b => by
    show BkOK mi (mi 64) (bpc 64) b (blk 64 b)
    rw [mi_64, bp_64, bk_64]
    exact ok_64 b
  | 5, _, b => by
    show BkOK mi (mi 65) (bpc 65) b (blk 65 b)
    rw [mi_65, bp_65, bk_65]
    exact ok_65 b
  | 6, _, b => by
    show BkOK mi (mi 66) (bpc 66) b (blk 66 b)
    rw [mi_66, bp_66, bk_66]
    exact ok_66 b
  | 7, _, b => by
    show BkOK mi (mi 67) (bpc 67) b (blk 67 b)
    rw [mi_67, bp_67, bk_67]
    exact ok_67 b
  | 8, _, b => by
    show BkOK mi (mi 68) (bpc 68) b (blk 68 b)
    rw [mi_68, bp_68, bk_68]
    exact ok_68 b
  | 9, _, b => by
    show BkOK mi (mi 69) (bpc 69) b (blk 69 b)
    rw [mi_69, bp_69, bk_69]
    exact ok_69 b
  | 10, _, b => by
    show BkOK mi (mi 70) (bpc 70) b (blk 70 b)
    rw [mi_70, bp_70, bk_70]
    exact ok_70 b
  | 11, _, b => by
    show BkOK mi (mi 71) (bpc 71) b (blk 71 b)
    rw [mi_71, bp_71, bk_71]
    exact ok_71 b
  | 12, _, b => by
    show BkOK mi (mi 72) (bpc 72) b (blk 72 b)
    rw [mi_72, bp_72, bk_72]
    exact ok_72 b
  | 13, _, b => by
    show BkOK mi (mi 73) (bpc 73) b (blk 73 b)
    rw [mi_73, bp_73, bk_73]
    exact ok_73 b
  | 14, _, b => by
    show BkOK mi (mi 74) (bpc 74) b (blk 74 b)
    rw [mi_74, bp_74, bk_74]
    exact ok_74 b
  | 15, _, b => by
    show BkOK mi (mi 75) (bpc 75) b (blk 75 b)
    rw [mi_75, bp_75, bk_75]
    exact ok_75 b
  | 16, _, b => by
    show BkOK mi (mi 76) (bpc 76) b (blk 76 b)
    rw [mi_76, bp_76, bk_76]
    exact ok_76 b
  | 17, _, b => by
    show BkOK mi (mi 77) (bpc 77) b (blk 77 b)
    rw [mi_77, bp_77, bk_77]
    exact ok_77 b
  | 18, _, b => by
    show BkOK mi (mi 78) (bpc 78) b (blk 78 b)
    rw [mi_78, bp_78, bk_78]
    exact ok_78 b
  | 19, _, b => by
    show BkOK mi (mi 79) (bpc 79) b (blk 79 b)
    rw [mi_79, bp_79, bk_79]
    exact ok_79 b
  | k + 20, h, _ => absurd h (by omega)
theorem al_4 : ∀ k : Nat, k < 20 → ∀ b, BkOK mi (mi (80 + k)) (bpc (80 + k)) b (blk (80 + k) b)
  | 0, _, b => by
    show BkOK mi (mi 80) (bpc 80) b (blk 80 b)
    rw [mi_80, bp_80, bk_80]
    exact ok_80 b
  | 1, _, b => by
    show BkOK mi (mi 81) (bpc 81) b (blk 81 b)
    rw [mi_81, bp_81, bk_81]
    exact ok_81 b
  | 2, _, b => by
    show BkOK mi (mi 82) (bpc 82) b (blk 82 b)
    rw [mi_82, bp_82, bk_82]
    exact ok_82 b
  | 3, _, b => by
    show BkOK mi (mi 83) (bpc 83) b (blk 83 b)
    rw [mi_83, bp_83, bk_83]
    exact ok_83 b
  | 4, _, b => by
    show BkOK mi (mi 84) (bpc 84) b (blk 84 b)
    rw [mi_84, bp_84, bk_84]
    exact ok_84 b
  | 5, _, b => by
    show BkOK mi (mi 85) (bpc 85) b (blk 85 b)
    rw [mi_85, bp_85, bk_85]
    exact ok_85 b
  | 6, _, b => by
    show BkOK mi (mi 86) (bpc 86) b (blk 86 b)
    rw [mi_86, bp_86, bk_86]
    exact ok_86 b
  | 7, _, b => by
    show BkOK mi (mi 87) (bpc 87) b (blk 87 b)
    rw [mi_87, bp_87, bk_87]
    exact ok_87 b
  | 8, _, b => by
    show BkOK mi (mi 88) (bpc 88) b (blk 88 b)
    rw [mi_88, bp_88, bk_88]
    exact ok_88 b
  | 9, _, b => by
    show BkOK mi (mi 89) (bpc 89) b (blk 89 b)
    rw [mi_89, bp_89, bk_89]
    exact ok_89 b
  | 10, _, b => by
    show BkOK mi (mi 90) (bpc 90) b (blk 90 b)
    rw [mi_90, bp_90, bk_90]
    exact ok_90 b
  | 11, _, b => by
    show BkOK mi (mi 91) (bpc 91) b (blk 91 b)
    rw [mi_91, bp_91, bk_91]
    exact ok_91 b
  | 12, _, b => by
    show BkOK mi (mi 92) (bpc 92) b (blk 92 b)
    rw [mi_92, bp_92, bk_92]
    exact ok_92 b
  | 13, _, b => by
    show BkOK mi (mi 93) (bpc 93) b (blk 93 b)
    rw [mi_93, bp_93, bk_93]
    exact ok_93 b
  | 14, _, b => by
    show BkOK mi (mi 94) (bpc 94) b (blk 94 b)
    rw [mi_94, bp_94, bk_94]
    exact ok_94 b
  | 15, _, b => by
    show BkOK mi (mi 95) (bpc 95) b (blk 95 b)
    rw [mi_95, bp_95, bk_95]
    exact ok_95 b
  | 16, _, b => by
    show BkOK mi (mi 96) (bpc 96) b (blk 96 b)
    rw [mi_96, bp_96, bk_96]
    exact ok_96 b
  | 17, _, b => by
    show BkOK mi (mi 97) (bpc 97) b (blk 97 b)
    rw [mi_97, bp_97, bk_97]
    exact ok_97 b
  | 18, _, b => by
    show BkOK mi (mi 98) (bpc 98) b (blk 98 b)
    rw [mi_98, bp_98, bk_98]
    exact ok_98 b
  | 19, _, b => by
    show BkOK mi (mi 99) (bpc 99) b (blk 99 b)
    rw [mi_99, bp_99, bk_99]
    exact ok_99 b
  | k + 20, h, _ => absurd h (by omega)
theorem al_5 : ∀ k : Nat, k < 20 → ∀ b, BkOK mi (mi (100 + k)) (bpc (100 + k)) b (blk (100 + k) b)
  | 0, _, b => by
    show BkOK mi (mi 100) (bpc 100) b (blk 100 b)
    rw [mi_100, bp_100, bk_100]
    exact ok_100 b
  | 1, _, b => by
    show BkOK mi (mi 101) (bpc 101) b (blk 101 b)
    rw [mi_101, bp_101, bk_101]
    exact ok_101 b
  | 2, _, b => by
    show BkOK mi (mi 102) (bpc 102) b (blk 102 b)
    rw [mi_102, bp_102, bk_102]
    exact ok_102 b
  | 3, _, b => by
    show BkOK mi (mi 103) (bpc 103) b (blk 103 b)
    rw [mi_103, bp_103, bk_103]
    exact ok_103 b
  | 4, _, b => by
    show BkOK mi (mi 104) (bpc 104) b (blk 104 b)
    rw [mi_104, bp_104, bk_104]
    exact ok_104 b
  | 5, _, b => by
    show BkOK mi (mi 105) (bpc 105) b (blk 105 b)
    rw [mi_105, bp_105, bk_105]
    exact ok_105 b
  | 6, _, b => by
    show BkOK mi (mi 106) (bpc 106) b (blk 106 b)
    rw [mi_106, bp_106, bk_106]
    exact ok_106 b
  | 7, _, b => by
    show BkOK mi (mi 107) (bpc 107) b (blk 107 b)
    rw [mi_107, bp_107, bk_107]
    exact ok_107 b
  | 8, _, b => by
    show BkOK mi (mi 108) (bpc 108) b (blk 108 b)
    rw [mi_108, bp_108, bk_108]
    exact ok_108 b
  | 9, _, b => by
    show BkOK mi (mi 109) (bpc 109) b (blk 109 b)
    rw [mi_109, bp_109, bk_109]
    exact ok_109 b
  | 10, _, b => by
    show BkOK mi (mi 110) (bpc 110) b (blk 110 b)
    rw [mi_110, bp_110, bk_110]
    exact ok_110 b
  | 11, _, b => by
    show BkOK mi (mi 111) (bpc 111) b (blk 111 b)
    rw [mi_111, bp_111, bk_111]
    exact ok_111 b
  | 12, _, b => by
    show BkOK mi (mi 112) (bpc 112) b (blk 112 b)
    rw [mi_112, bp_112, bk_112]
    exact ok_112 b
  | 13, _, b => by
    show BkOK mi (mi 113) (bpc 113) b (blk 113 b)
    rw [mi_113, bp_113, bk_113]
    exact ok_113 b
  | 14, _, b => by
    show BkOK mi (mi 114) (bpc 114) b (blk 114 b)
    rw [mi_114, bp_114, bk_114]
    exact ok_114 b
  | 15, _, b => by
    show BkOK mi (mi 115) (bpc 115) b (blk 115 b)
    rw [mi_115, bp_115, bk_115]
    exact ok_115 b
  | 16, _, b => by
    show BkOK mi (mi 116) (bpc 116) b (blk 116 b)
    rw [mi_116, bp_116, bk_116]
    exact ok_116 b
  | 17, _, b => by
    show BkOK mi (mi 117) (bpc 117) b (blk 117 b)
    rw [mi_117, bp_117, bk_117]
    exact ok_117 b
  | 18, _, b => by
    show BkOK mi (mi 118) (bpc 118) b (blk 118 b)
    rw [mi_118, bp_118, bk_118]
    exact ok_118 b
  | 19, _, b => by
    show BkOK mi (mi 119) (bpc 119) b (blk 119 b)
    rw [mi_119, bp_119, bk_119]
    exact ok_119 b
  | k + 20, h, _ => absurd h (by omega)
theorem al_6 : ∀ k : Nat, k < 20 → ∀ b, BkOK mi (mi (120 + k)) (bpc (120 + k)) b (blk (120 + k) b)
  | 0, _, b => by
    show BkOK mi (mi 120) (bpc 120) b (blk 120 b)
    rw [mi_120, bp_120, bk_120]
    exact ok_120 b
  | 1, _, b => by
    show BkOK mi (mi 121) (bpc 121) b (blk 121 b)
    rw [mi_121, bp_121, bk_121]
    exact ok_121 b
  | 2, _, b => by
    show BkOK mi (mi 122) (bpc 122) b (blk 122 b)
    rw [mi_122, bp_122, bk_122]
    exact ok_122 b
  | 3, _, b => by
    show BkOK mi (mi 123) (bpc 123) b (blk 123 b)
    rw [mi_123, bp_123, bk_123]
    exact ok_123 b
  | 4, _, b => by
    show BkOK mi (mi 124) (bpc 124) b (blk 124 b)
    rw [mi_124, bp_124, bk_124]
    exact ok_124 b
  | 5, _, b => by
    show BkOK mi (mi 125) (bpc 125) b (blk 125 b)
    rw [mi_125, bp_125, bk_125]
    exact ok_125 b
  | 6, _, b => by
    show BkOK mi (mi 126) (bpc 126) b (blk 126 b)
    rw [mi_126, bp_126, bk_126]
    exact ok_126 b
  | 7, _, b => by
    show BkOK mi (mi 127) (bpc 127) b (blk 127 b)
    rw [mi_127, bp_127, bk_127]
    exact ok_127 b
  | 8, _, b => by
    show BkOK mi (mi 128) (bpc 128) b (blk 128 b)
    rw [mi_128, bp_128, bk_128]
    exact ok_128 b
  | 9, _, b => by
    show BkOK mi (mi 129) (bpc 129) b (blk 129 b)
    rw [mi_129, bp_129, bk_129]
    exact ok_129 b
  | 10, _, b => by
    show BkOK mi (mi 130) (bpc 130) b (blk 130 b)
    rw [mi_130, bp_130, bk_130]
    exact ok_130 b
  | 11, _, b => by
    show BkOK mi (mi 131) (bpc 131) b (blk 131 b)
    rw [mi_131, bp_131, bk_131]
    exact ok_131 b
  | 12, _, b => by
    show BkOK mi (mi 132) (bpc 132) b (blk 132 b)
    rw [mi_132, bp_132, bk_132]
    exact ok_132 b
  | 13, _, b => by
    show BkOK mi (mi 133) (bpc 133) b (blk 133 b)
    rw [mi_133, bp_133, bk_133]
    exact ok_133 b
  | 14, _, b => by
    show BkOK mi (mi 134) (bpc 134) b (blk 134 b)
    rw [mi_134, bp_134, bk_134]
    exact ok_134 b
  | 15, _, b => by
    show BkOK mi (mi 135) (bpc 135) b (blk 135 b)
    rw [mi_135, bp_135, bk_135]
    exact ok_135 b
  | 16, _, b => by
    show BkOK mi (mi 136) (bpc 136) b (blk 136 b)
    rw [mi_136, bp_136, bk_136]
    exact ok_136 b
  | 17, _, b => by
    show BkOK mi (mi 137) (bpc 137) b (blk 137 b)
    rw [mi_137, bp_137, bk_137]
    exact ok_137 b
  | 18, _, b => by
    show BkOK mi (mi 138) (bpc 138) b (blk 138 b)
    rw [mi_138, bp_138, bk_138]
    exact ok_138 b
  | 19, _, b => by
    show BkOK mi (mi 139) (bpc 139) b (blk 139 b)
    rw [mi_139, bp_139, bk_139]
    exact ok_139 b
  | k + 20, h, _ => absurd h (by omega)
theorem al_7 : ∀ k : Nat, k < 20 → ∀ b, BkOK mi (mi (140 + k)) (bpc (140 + k)) b (blk (140 + k) b)
  | 0, _, b => by
    show BkOK mi (mi 140) (bpc 140) b (blk 140 b)
    rw [mi_140, bp_140, bk_140]
    exact ok_140 b
  | 1, _, b => by
    show BkOK mi (mi 141) (bpc 141) b (blk 141 b)
    rw [mi_141, bp_141, bk_141]
    exact ok_141 b
  | 2, _, b => by
    show BkOK mi (mi 142) (bpc 142) b (blk 142 b)
    rw [mi_142, bp_142, bk_142]
    exact ok_142 b
  | 3, _, b => by
    show BkOK mi (mi 143) (bpc 143) b (blk 143 b)
    rw [mi_143, bp_143, bk_143]
    exact ok_143 b
  | 4, _, b => by
    show BkOK mi (mi 144) (bpc 144) b (blk 144 b)
    rw [mi_144, bp_144, bk_144]
    exact ok_144 b
  | 5, _, b => by
    show BkOK mi (mi 145) (bpc 145) b (blk 145 b)
    rw [mi_145, bp_145, bk_145]
    exact ok_145 b
  | 6, _, b => by
    show BkOK mi (mi 146) (bpc 146) b (blk 146 b)
    rw [mi_146, bp_146, bk_146]
    exact ok_146 b
  | 7, _, b => by
    show BkOK mi (mi 147) (bpc 147) b (blk 147 b)
    rw [mi_147, bp_147, bk_147]
    exact ok_147 b
  | 8, _, b => by
    show BkOK mi (mi 148) (bpc 148) b (blk 148 b)
    rw [mi_148, bp_148, bk_148]
    exact ok_148 b
  | 9, _, b => by
    show BkOK mi (mi 149) (bpc 149) b (blk 149 b)
    rw [mi_149, bp_149, bk_149]
    exact ok_149 b
  | 10, _, b => by
    show BkOK mi (mi 150) (bpc 150) b (blk 150 b)
    rw [mi_150, bp_150, bk_150]
    exact ok_150 b
  | 11, _, b => by
    show BkOK mi (mi 151) (bpc 151) b (blk 151 b)
    rw [mi_151, bp_151, bk_151]
    exact ok_151 b
  | 12, _, b => by
    show BkOK mi (mi 152) (bpc 152) b (blk 152 b)
    rw [mi_152, bp_152, bk_152]
    exact ok_152 b
  | 13, _, b => by
    show BkOK mi (mi 153) (bpc 153) b (blk 153 b)
    rw [mi_153, bp_153, bk_153]
    exact ok_153 b
  | 14, _, b => by
    show BkOK mi (mi 154) (bpc 154) b (blk 154 b)
    rw [mi_154, bp_154, bk_154]
    exact ok_154 b
  | 15, _, b => by
    show BkOK mi (mi 155) (bpc 155) b (blk 155 b)
    rw [mi_155, bp_155, bk_155]
    exact ok_155 b
  | 16, _, b => by
    show BkOK mi (mi 156) (bpc 156) b (blk 156 b)
    rw [mi_156, bp_156, bk_156]
    exact ok_156 b
  | 17, _, b => by
    show BkOK mi (mi 157) (bpc 157) b (blk 157 b)
    rw [mi_157, bp_157, bk_157]
    exact ok_157 b
  | 18, _, b => by
    show BkOK mi (mi 158) (bpc 158) b (blk 158 b)
    rw [mi_158, bp_158, bk_158]
    exact ok_158 b
  | 19, _, b => by
    show BkOK mi (mi 159) (bpc 159) b (blk 159 b)
    rw [mi_159, bp_159, bk_159]
    exact ok_159 b
  | k + 20, h, _ => absurd h (by omega)
theorem al_8 : ∀ k : Nat, k < 20 → ∀ b, BkOK mi (mi (160 + k)) (bpc (160 + k)) b (blk (160 + k) b)
  | 0, _, b => by
    show BkOK mi (mi 160) (bpc 160) b (blk 160 b)
    rw [mi_160, bp_160, bk_160]
    exact ok_160 b
  | 1, _, b => by
    show BkOK mi (mi 161) (bpc 161) b (blk 161 b)
    rw [mi_161, bp_161, bk_161]
    exact ok_161 b
  | 2, _, b => by
    show BkOK mi (mi 162) (bpc 162) b (blk 162 b)
    rw [mi_162, bp_162, bk_162]
    exact ok_162 b
  | 3, _, b => by
    show BkOK mi (mi 163) (bpc 163) b (blk 163 b)
    rw [mi_163, bp_163, bk_163]
    exact ok_163 b
  | 4, _, b => by
    show BkOK mi (mi 164) (bpc 164) b (blk 164 b)
    rw [mi_164, bp_164, bk_164]
    exact ok_164 b
  | 5, _, b => by
    show BkOK mi (mi 165) (bpc 165) b (blk 165 b)
    rw [mi_165, bp_165, bk_165]
    exact ok_165 b
  | 6, _, b => by
    show BkOK mi (mi 166) (bpc 166) b (blk 166 b)
    rw [mi_166, bp_166, bk_166]
    exact ok_166 b
  | 7, _, b => by
    show BkOK mi (mi 167) (bpc 167) b (blk 167 b)
    rw [mi_167, bp_167, bk_167]
    exact ok_167 b
  | 8, _, b => by
    show BkOK mi (mi 168) (bpc 168) b (blk 168 b)
    rw [mi_168, bp_168, bk_168]
    exact ok_168 b
  | 9, _, b => by
    show BkOK mi (mi 169) (bpc 169) b (blk 169 b)
    rw [mi_169, bp_169, bk_169]
    exact ok_169 b
  | 10, _, b => by
    show BkOK mi (mi 170) (bpc 170) b (blk 170 b)
    rw [mi_170, bp_170, bk_170]
    exact ok_170 b
  | 11, _, b => by
    show BkOK mi (mi 171) (bpc 171) b (blk 171 b)
    rw [mi_171, bp_171, bk_171]
    exact ok_171 b
  | 12, _, b => by
    show BkOK mi (mi 172) (bpc 172) b (blk 172 b)
    rw [mi_172, bp_172, bk_172]
    exact ok_172 b
  | 13, _, b => by
    show BkOK mi (mi 173) (bpc 173) b (blk 173 b)
    rw [mi_173, bp_173, bk_173]
    exact ok_173 b
  | 14, _, b => by
    show BkOK mi (mi 174) (bpc 174) b (blk 174 b)
    rw [mi_174, bp_174, bk_174]
    exact ok_174 b
  | 15, _, b => by
    show BkOK mi (mi 175) (bpc 175) b (blk 175 b)
    rw [mi_175, bp_175, bk_175]
    exact ok_175 b
  | 16, _, b => by
    show BkOK mi (mi 176) (bpc 176) b (blk 176 b)
    rw [mi_176, bp_176, bk_176]
    exact ok_176 b
  | 17, _, b => by
    show BkOK mi (mi 177) (bpc 177) b (blk 177 b)
    rw [mi_177, bp_177, bk_177]
    exact ok_177 b
  | 18, _, b => by
    show BkOK mi (mi 178) (bpc 178) b (blk 178 b)
    rw [mi_178, bp_178, bk_178]
    exact ok_178 b
  | 19, _, b => by
    show BkOK mi (mi 179) (bpc 179) b (blk 179 b)
    rw [mi_179, bp_179, bk_179]
    exact ok_179 b
  | k + 20, h, _ => absurd h (by omega)
theorem al_9 : ∀ k : Nat, k < 20 → ∀ b, BkOK mi (mi (180 + k)) (bpc (180 + k)) b (blk (180 + k) b)
  | 0, _, b => by
    show BkOK mi (mi 180) (bpc 180) b (blk 180 b)
    rw [mi_180, bp_180, bk_180]
    exact ok_180 b
  | 1, _, b => by
    show BkOK mi (mi 181) (bpc 181) b (blk 181 b)
    rw [mi_181, bp_181, bk_181]
    exact ok_181 b
  | 2, _, b => by
    show BkOK mi (mi 182) (bpc 182) b (blk 182 b)
    rw [mi_182, bp_182, bk_182]
    exact ok_182 b
  | 3, _, b => by
    show BkOK mi (mi 183) (bpc 183) b (blk 183 b)
    rw [mi_183, bp_183, bk_183]
    exact ok_183 b
  | 4, _, b => by
    show BkOK mi (mi 184) (bpc 184) b (blk 184 b)
    rw [mi_184, bp_184, bk_184]
    exact ok_184 b
  | 5, _, b => by
    show BkOK mi (mi 185) (bpc 185) b (blk 185 b)
    rw [mi_185, bp_185, bk_185]
    exact ok_185 b
  | 6, _, b => by
    show BkOK mi (mi 186) (bpc 186) b (blk 186 b)
    rw [mi_186, bp_186, bk_186]
    exact ok_186 b
  | 7, _, b => by
    show BkOK mi (mi 187) (bpc 187) b (blk 187 b)
    rw [mi_187, bp_187, bk_187]
    exact ok_187 b
  | 8, _, b => by
    show BkOK mi (mi 188) (bpc 188) b (blk 188 b)
    rw [mi_188, bp_188, bk_188]
    exact ok_188 b
  | 9, _, b => by
    show BkOK mi (mi 189) (bpc 189) b (blk 189 b)
    rw [mi_189, bp_189, bk_189]
    exact ok_189 b
  | 10, _, b => by
    show BkOK mi (mi 190) (bpc 190) b (blk 190 b)
    rw [mi_190, bp_190, bk_190]
    exact ok_190 b
  | 11, _, b => by
    show BkOK mi (mi 191) (bpc 191) b (blk 191 b)
    rw [mi_191, bp_191, bk_191]
    exact ok_191 b
  | 12, _, b => by
    show BkOK mi (mi 192) (bpc 192) b (blk 192 b)
    rw [mi_192, bp_192, bk_192]
    exact ok_192 b
  | 13, _, b => by
    show BkOK mi (mi 193) (bpc 193) b (blk 193 b)
    rw [mi_193, bp_193, bk_193]
    exact ok_193 b
  | 14, _, b => by
    show BkOK mi (mi 194) (bpc 194) b (blk 194 b)
    rw [mi_194, bp_194, bk_194]
    exact ok_194 b
  | 15, _, b => by
    show BkOK mi (mi 195) (bpc 195) b (blk 195 b)
    rw [mi_195, bp_195, bk_195]
    exact ok_195 b
  | 16, _, b => by
    show BkOK mi (mi 196) (bpc 196) b (blk 196 b)
    rw [mi_196, bp_196, bk_196]
    exact ok_196 b
  | 17, _, b => by
    show BkOK mi (mi 197) (bpc 197) b (blk 197 b)
    rw [mi_197, bp_197, bk_197]
    exact ok_197 b
  | 18, _, b => by
    show BkOK mi (mi 198) (bpc 198) b (blk 198 b)
    rw [mi_198, bp_198, bk_198]
    exact ok_198 b
  | 19, _, b => by
    show BkOK mi (mi 199) (bpc 199) b (blk 199 b)
    rw [mi_199, bp_199, bk_199]
    exact ok_199 b
  | k + 20, h, _ => absurd h (by omega)
theorem al_10 : ∀ k : Nat, k < 20 → ∀ b, BkOK mi (mi (200 + k)) (bpc (200 + k)) b (blk (200 + k) b)
  | 0, _, b => by
    show BkOK mi (mi 200) (bpc 200) b (blk 200 b)
    rw [mi_200, bp_200, bk_200]
    exact ok_200 b
  | 1, _, b => by
    show BkOK mi (mi 201) (bpc 201) b (blk 201 b)
    rw [mi_201, bp_201, bk_201]
    exact ok_201 b
  | 2, _, b => by
    show BkOK mi (mi 202) (bpc 202) b (blk 202 b)
    rw [mi_202, bp_202, bk_202]
    exact ok_202 b
  | 3, _, b => by
    show BkOK mi (mi 203) (bpc 203) b (blk 203 b)
    rw [mi_203, bp_203, bk_203]
    exact ok_203 b
  | 4, _, b => by
    show BkOK mi (mi 204) (bpc 204) b (blk 204 b)
    rw [mi_204, bp_204, bk_204]
    exact ok_204 b
  | 5, _, b => by
    show BkOK mi (mi 205) (bpc 205) b (blk 205 b)
    rw [mi_205, bp_205, bk_205]
    exact ok_205 b
  | 6, _, b => by
    show BkOK mi (mi 206) (bpc 206) b (blk 206 b)
    rw [mi_206, bp_206, bk_206]
    exact ok_206 b
  | 7, _, b => by
    show BkOK mi (mi 207) (bpc 207) b (blk 207 b)
    rw [mi_207, bp_207, bk_207]
    exact ok_207 b
  | 8, _, b => by
    show BkOK mi (mi 208) (bpc 208) b (blk 208 b)
    rw [mi_208, bp_208, bk_208]
    exact ok_208 b
  | 9, _, b => by
    show BkOK mi (mi 209) (bpc 209) b (blk 209 b)
    rw [mi_209, bp_209, bk_209]
    exact ok_209 b
  | 10, _, b => by
    show BkOK mi (mi 210) (bpc 210) b (blk 210 b)
    rw [mi_210, bp_210, bk_210]
    exact ok_210 b
  | 11, _, b => by
    show BkOK mi (mi 211) (bpc 211) b (blk 211 b)
    rw [mi_211, bp_211, bk_211]
    exact ok_211 b
  | 12, _, b => by
    show BkOK mi (mi 212) (bpc 212) b (blk 212 b)
    rw [mi_212, bp_212, bk_212]
    exact ok_212 b
  | 13, _, b => by
    show BkOK mi (mi 213) (bpc 213) b (blk 213 b)
    rw [mi_213, bp_213, bk_213]
    exact ok_213 b
  | 14, _, b => by
    show BkOK mi (mi 214) (bpc 214) b (blk 214 b)
    rw [mi_214, bp_214, bk_214]
    exact ok_214 b
  | 15, _, b => by
    show BkOK mi (mi 215) (bpc 215) b (blk 215 b)
    rw [mi_215, bp_215, bk_215]
    exact ok_215 b
  | 16, _, b => by
    show BkOK mi (mi 216) (bpc 216) b (blk 216 b)
    rw [mi_216, bp_216, bk_216]
    exact ok_216 b
  | 17, _, b => by
    show BkOK mi (mi 217) (bpc 217) b (blk 217 b)
    rw [mi_217, bp_217, bk_217]
    exact ok_217 b
  | 18, _, b => by
    show BkOK mi (mi 218) (bpc 218) b (blk 218 b)
    rw [mi_218, bp_218, bk_218]
    exact ok_218 b
  | 19, _, b => by
    show BkOK mi (mi 219) (bpc 219) b (blk 219 b)
    rw [mi_219, bp_219, bk_219]
    exact ok_219 b
  | k + 20, h, _ => absurd h (by omega)
theorem al_11 : ∀ k : Nat, k < 20 → ∀ b, BkOK mi (mi (220 + k)) (bpc (220 + k)) b (blk (220 + k) b)
  | 0, _, b => by
    show BkOK mi (mi 220) (bpc 220) b (blk 220 b)
    rw [mi_220, bp_220, bk_220]
    exact ok_220 b
  | 1, _, b => by
    show BkOK mi (mi 221) (bpc 221) b (blk 221 b)
    rw [mi_221, bp_221, bk_221]
    exact ok_221 b
  | 2, _, b => by
    show BkOK mi (mi 222) (bpc 222) b (blk 222 b)
    rw [mi_222, bp_222, bk_222]
    exact ok_222 b
  | 3, _, b => by
    show BkOK mi (mi 223) (bpc 223) b (blk 223 b)
    rw [mi_223, bp_223, bk_223]
    exact ok_223 b
  | 4, _, b => by
    show BkOK mi (mi 224) (bpc 224) b (blk 224 b)
    rw [mi_224, bp_224, bk_224]
    exact ok_224 b
  | 5, _, b => by
    show BkOK mi (mi 225) (bpc 225) b (blk 225 b)
    rw [mi_225, bp_225, bk_225]
    exact ok_225 b
  | 6, _, b => by
    show BkOK mi (mi 226) (bpc 226) b (blk 226 b)
    rw [mi_226, bp_226, bk_226]
    exact ok_226 b
  | 7, _, b => by
    show BkOK mi (mi 227) (bpc 227) b (blk 227 b)
    rw [mi_227, bp_227, bk_227]
    exact ok_227 b
  | 8, _, b => by
    show BkOK mi (mi 228) (bpc 228) b (blk 228 b)
    rw [mi_228, bp_228, bk_228]
    exact ok_228 b
  | 9, _, b => by
    show BkOK mi (mi 229) (bpc 229) b (blk 229 b)
    rw [mi_229, bp_229, bk_229]
    exact ok_229 b
  | 10, _, b => by
    show BkOK mi (mi 230) (bpc 230) b (blk 230 b)
    rw [mi_230, bp_230, bk_230]
    exact ok_230 b
  | 11, _, b => by
    show BkOK mi (mi 231) (bpc 231) b (blk 231 b)
    rw [mi_231, bp_231, bk_231]
    exact ok_231 b
  | 12, _, b => by
    show BkOK mi (mi 232) (bpc 232) b (blk 232 b)
    rw [mi_232, bp_232, bk_232]
    exact ok_232 b
  | 13, _, b => by
    show BkOK mi (mi 233) (bpc 233) b (blk 233 b)
    rw [mi_233, bp_233, bk_233]
    exact ok_233 b
  | 14, _, b => by
    show BkOK mi (mi 234) (bpc 234) b (blk 234 b)
    rw [mi_234, bp_234, bk_234]
    exact ok_234 b
  | 15, _, b => by
    show BkOK mi (mi 235) (bpc 235) b (blk 235 b)
    rw [mi_235, bp_235, bk_235]
    exact ok_235 b
  | 16, _, b => by
    show BkOK mi (mi 236) (bpc 236) b (blk 236 b)
    rw [mi_236, bp_236, bk_236]
    exact ok_236 b
  | 17, _, b => by
    show BkOK mi (mi 237) (bpc 237) b (blk 237 b)
    rw [mi_237, bp_237, bk_237]
    exact ok_237 b
  | 18, _, b => by
    show BkOK mi (mi 238) (bpc 238) b (blk 238 b)
    rw [mi_238, bp_238, bk_238]
    exact ok_238 b
  | 19, _, b => by
    show BkOK mi (mi 239) (bpc 239) b (blk 239 b)
    rw [mi_239, bp_239, bk_239]
    exact ok_239 b
  | k + 20, h, _ => absurd h (by omega)
theorem al_12 : ∀ k : Nat, k < 20 → ∀ b, BkOK mi (mi (240 + k)) (bpc (240 + k)) b (blk (240 + k) b)
  | 0, _, b => by
    show BkOK mi (mi 240) (bpc 240) b (blk 240 b)
    rw [mi_240, bp_240, bk_240]
    exact ok_240 b
  | 1, _, b => by
    show BkOK mi (mi 241) (bpc 241) b (blk 241 b)
    rw [mi_241, bp_241, bk_241]
    exact ok_241 b
  | 2, _, b => by
    show BkOK mi (mi 242) (bpc 242) b (blk 242 b)
    rw [mi_242, bp_242, bk_242]
    exact ok_242 b
  | 3, _, b => by
    show BkOK mi (mi 243) (bpc 243) b (blk 243 b)
    rw [mi_243, bp_243, bk_243]
    exact ok_243 b
  | 4, _, b => by
    show BkOK mi (mi 244) (bpc 244) b (blk 244 b)
    rw [mi_244, bp_244, bk_244]
    exact ok_244 b
  | 5, _, b => by
    show BkOK mi (mi 245) (bpc 245) b (blk 245 b)
    rw [mi_245, bp_245, bk_245]
    exact ok_245 b
  | 6, _, b => by
    show BkOK mi (mi 246) (bpc 246) b (blk 246 b)
    rw [mi_246, bp_246, bk_246]
    exact ok_246 b
  | 7, _, b => by
    show BkOK mi (mi 247) (bpc 247) b (blk 247 b)
    rw [mi_247, bp_247, bk_247]
    exact ok_247 b
  | 8, _, b => by
    show BkOK mi (mi 248) (bpc 248) b (blk 248 b)
    rw [mi_248, bp_248, bk_248]
    exact ok_248 b
  | 9, _, b => by
    show BkOK mi (mi 249) (bpc 249) b (blk 249 b)
    rw [mi_249, bp_249, bk_249]
    exact ok_249 b
  | 10, _, b => by
    show BkOK mi (mi 250) (bpc 250) b (blk 250 b)
    rw [mi_250, bp_250, bk_250]
    exact ok_250 b
  | 11, _, b => by
    show BkOK mi (mi 251) (bpc 251) b (blk 251 b)
    rw [mi_251, bp_251, bk_251]
    exact ok_251 b
  | 12, _, b => by
    show BkOK mi (mi 252) (bpc 252) b (blk 252 b)
    rw [mi_252, bp_252, bk_252]
    exact ok_252 b
  | 13, _, b => by
    show BkOK mi (mi 253) (bpc 253) b (blk 253 b)
    rw [mi_253, bp_253, bk_253]
    exact ok_253 b
  | 14, _, b => by
    show BkOK mi (mi 254) (bpc 254) b (blk 254 b)
    rw [mi_254, bp_254, bk_254]
    exact ok_254 b
  | 15, _, b => by
    show BkOK mi (mi 255) (bpc 255) b (blk 255 b)
    rw [mi_255, bp_255, bk_255]
    exact ok_255 b
  | 16, _, b => by
    show BkOK mi (mi 256) (bpc 256) b (blk 256 b)
    rw [mi_256, bp_256, bk_256]
    exact ok_256 b
  | 17, _, b => by
    show BkOK mi (mi 257) (bpc 257) b (blk 257 b)
    rw [mi_257, bp_257, bk_257]
    exact ok_257 b
  | 18, _, b => by
    show BkOK mi (mi 258) (bpc 258) b (blk 258 b)
    rw [mi_258, bp_258, bk_258]
    exact ok_258 b
  | 19, _, b => by
    show BkOK mi (mi 259) (bpc 259) b (blk 259 b)
    rw [mi_259, bp_259, bk_259]
    exact ok_259 b
  | k + 20, h, _ => absurd h (by omega)
theorem al_13 : ∀ k : Nat, k < 20 → ∀ b, BkOK mi (mi (260 + k)) (bpc (260 + k)) b (blk (260 + k) b)
  | 0, _, b => by
    show BkOK mi (mi 260) (bpc 260) b (blk 260 b)
    rw [mi_260, bp_260, bk_260]
    exact ok_260 b
  | 1, _, b => by
    show BkOK mi (mi 261) (bpc 261) b (blk 261 b)
    rw [mi_261, bp_261, bk_261]
    exact ok_261 b
  | 2, _, b => by
    show BkOK mi (mi 262) (bpc 262) b (blk 262 b)
    rw [mi_262, bp_262, bk_262]
    exact ok_262 b
  | 3, _, b => by
    show BkOK mi (mi 263) (bpc 263) b (blk 263 b)
    rw [mi_263, bp_263, bk_263]
    exact ok_263 b
  | 4, _, b => by
    show BkOK mi (mi 264) (bpc 264) b (blk 264 b)
    rw [mi_264, bp_264, bk_264]
    exact ok_264 b
  | 5, _, b => by
    show BkOK mi (mi 265) (bpc 265) b (blk 265 b)
    rw [mi_265, bp_265, bk_265]
    exact ok_265 b
  | 6, _, b => by
    show BkOK mi (mi 266) (bpc 266) b (blk 266 b)
    rw [mi_266, bp_266, bk_266]
    exact ok_266 b
  | 7, _, b => by
    show BkOK mi (mi 267) (bpc 267) b (blk 267 b)
    rw [mi_267, bp_267, bk_267]
    exact ok_267 b
  | 8, _, b => by
    show BkOK mi (mi 268) (bpc 268) b (blk 268 b)
    rw [mi_268, bp_268, bk_268]
    exact ok_268 b
  | 9, _, b => by
    show BkOK mi (mi 269) (bpc 269) b (blk 269 b)
    rw [mi_269, bp_269, bk_269]
    exact ok_269 b
  | 10, _, b => by
    show BkOK mi (mi 270) (bpc 270) b (blk 270 b)
    rw [mi_270, bp_270, bk_270]
    exact ok_270 b
  | 11, _, b => by
    show BkOK mi (mi 271) (bpc 271) b (blk 271 b)
    rw [mi_271, bp_271, bk_271]
    exact ok_271 b
  | 12, _, b => by
    show BkOK mi (mi 272) (bpc 272) b (blk 272 b)
    rw [mi_272, bp_272, bk_272]
    exact ok_272 b
  | 13, _, b => by
    show BkOK mi (mi 273) (bpc 273) b (blk 273 b)
    rw [mi_273, bp_273, bk_273]
    exact ok_273 b
  | 14, _, b => by
    show BkOK mi (mi 274) (bpc 274) b (blk 274 b)
    rw [mi_274, bp_274, bk_274]
    exact ok_274 b
  | 15, _, b => by
    show BkOK mi (mi 275) (bpc 275) b (blk 275 b)
    rw [mi_275, bp_275, bk_275]
    exact ok_275 b
  | 16, _, b => by
    show BkOK mi (mi 276) (bpc 276) b (blk 276 b)
    rw [mi_276, bp_276, bk_276]
    exact ok_276 b
  | 17, _, b => by
    show BkOK mi (mi 277) (bpc 277) b (blk 277 b)
    rw [mi_277, bp_277, bk_277]
    exact ok_277 b
  | 18, _, b => by
    show BkOK mi (mi 278) (bpc 278) b (blk 278 b)
    rw [mi_278, bp_278, bk_278]
    exact ok_278 b
  | 19, _, b => by
    show BkOK mi (mi 279) (bpc 279) b (blk 279 b)
    rw [mi_279, bp_279, bk_279]
    exact ok_279 b
  | k + 20, h, _ => absurd h (by omega)
theorem al_14 : ∀ k : Nat, k < 19 → ∀ b, BkOK mi (mi (280 + k)) (bpc (280 + k)) b (blk (280 + k) b)
  | 0, _, b => by
    show BkOK mi (mi 280) (bpc 280) b (blk 280 b)
    rw [mi_280, bp_280, bk_280]
    exact ok_280 b
  | 1, _, b => by
    show BkOK mi (mi 281) (bpc 281) b (blk 281 b)
    rw [mi_281, bp_281, bk_281]
    exact ok_281 b
  | 2, _, b => by
    show BkOK mi (mi 282) (bpc 282) b (blk 282 b)
    rw [mi_282, bp_282, bk_282]
    exact ok_282 b
  | 3, _, b => by
    show BkOK mi (mi 283) (bpc 283) b (blk 283 b)
    rw [mi_283, bp_283, bk_283]
    exact ok_283 b
  | 4, _, b => by
    show BkOK mi (mi 284) (bpc 284) b (blk 284 b)
    rw [mi_284, bp_284, bk_284]
    exact ok_284 b
  | 5, _, b => by
    show BkOK mi (mi 285) (bpc 285) b (blk 285 b)
    rw [mi_285, bp_285, bk_285]
    exact ok_285 b
  | 6, _, b => by
    show BkOK mi (mi 286) (bpc 286) b (blk 286 b)
    rw [mi_286, bp_286, bk_286]
    exact ok_286 b
  | 7, _, b => by
    show BkOK mi (mi 287) (bpc 287) b (blk 287 b)
    rw [mi_287, bp_287, bk_287]
    exact ok_287 b
  | 8, _, b => by
    show BkOK mi (mi 288) (bpc 288) b (blk 288 b)
    rw [mi_288, bp_288, bk_288]
    exact ok_288 b
  | 9, _, b => by
    show BkOK mi (mi 289) (bpc 289) b (blk 289 b)
    rw [mi_289, bp_289, bk_289]
    exact ok_289 b
  | 10, _, b => by
    show BkOK mi (mi 290) (bpc 290) b (blk 290 b)
    rw [mi_290, bp_290, bk_290]
    exact ok_290 b
  | 11, _, b => by
    show BkOK mi (mi 291) (bpc 291) b (blk 291 b)
    rw [mi_291, bp_291, bk_291]
    exact ok_291 b
  | 12, _, b => by
    show BkOK mi (mi 292) (bpc 292) b (blk 292 b)
    rw [mi_292, bp_292, bk_292]
    exact ok_292 b
  | 13, _, b => by
    show BkOK mi (mi 293) (bpc 293) b (blk 293 b)
    rw [mi_293, bp_293, bk_293]
    exact ok_293 b
  | 14, _, b => by
    show BkOK mi (mi 294) (bpc 294) b (blk 294 b)
    rw [mi_294, bp_294, bk_294]
    exact ok_294 b
  | 15, _, b => by
    show BkOK mi (mi 295) (bpc 295) b (blk 295 b)
    rw [mi_295, bp_295, bk_295]
    exact ok_295 b
  | 16, _, b => by
    show BkOK mi (mi 296) (bpc 296) b (blk 296 b)
    rw [mi_296, bp_296, bk_296]
    exact ok_296 b
  | 17, _, b => by
    show BkOK mi (mi 297) (bpc 297) b (blk 297 b)
    rw [mi_297, bp_297, bk_297]
    exact ok_297 b
  | 18, _, b => by
    show BkOK mi (mi 298) (bpc 298) b (blk 298 b)
    rw [mi_298, bp_298, bk_298]
    exact ok_298 b
  | k + 19, h, _ => absurd h (by omega)
theorem all_ok : ∀ k b, BkOK mi (mi k) (bpc k) b (blk k b) := by
  intro k b
  by_cases h0 : k < 20
  · have := al_0 (k - 0) (by omega) b
    rw [show 0 + (k - 0) = k by omega] at this
    exact this
  by_cases h1 : k < 40
  · have := al_1 (k - 20) (by omega) b
    rw [show 20 + (k - 20) = k by omega] at this
    exact this
  by_cases h2 : k < 60
  · have := al_2 (k - 40) (by omega) b
    rw [show 40 + (k - 40) = k by omega] at this
    exact this
  by_cases h3 : k < 80
  · have := al_3 (k - 60) (by omega) b
    rw [show 60 + (k - 60) = k by omega] at this
    exact this
  by_cases h4 : k < 100
  · have := al_4 (k - 80) (by omega) b
    rw [show 80 + (k - 80) = k by omega] at this
    exact this
  by_cases h5 : k < 120
  · have := al_5 (k - 100) (by omega) b
    rw [show 100 + (k - 100) = k by omega] at this
    exact this
  by_cases h6 : k < 140
  · have := al_6 (k - 120) (by omega) b
    rw [show 120 + (k - 120) = k by omega] at this
    exact this
  by_cases h7 : k < 160
  · have := al_7 (k - 140) (by omega) b
    rw [show 140 + (k - 140) = k by omega] at this
    exact this
  by_cases h8 : k < 180
  · have := al_8 (k - 160) (by omega) b
    rw [show 160 + (k - 160) = k by omega] at this
    exact this
  by_cases h9 : k < 200
  · have := al_9 (k - 180) (by omega) b
    rw [show 180 + (k - 180) = k by omega] at this
    exact this
  by_cases h10 : k < 220
  · have := al_10 (k - 200) (by omega) b
    rw [show 200 + (k - 200) = k by omega] at this
    exact this
  by_cases h11 : k < 240
  · have := al_11 (k - 220) (by omega) b
    rw [show 220 + (k - 220) = k by omega] at this
    exact this
  by_cases h12 : k < 260
  · have := al_12 (k - 240) (by omega) b
    rw [show 240 + (k - 240) = k by omega] at this
    exact this
  by_cases h13 : k < 280
  · have := al_13 (k - 260) (by omega) b
    rw [show 260 + (k - 260) = k by omega] at this
    exact this
  by_cases h14 : k < 299
  · have := al_14 (k - 280) (by omega) b
    rw [show 280 + (k - 280) = k by omega] at this
    exact this
  have e : blk k b = bk0 := by
    unfold blk
    have : progB.getD k [] = [] := by
      rw [List.getD_eq_getElem?_getD, List.getElem?_eq_none (by
        have : progB.length = 299 := by decide +kernel
        omega)]
      rfl
    rw [this]
    rfl
  rw [e]
  exact bk_none mi (mi k) (bpc k) b
theorem all_00 : ∀ k, bpc k 0 = 0 := by
  intro k
  have h : ∀ P ∈ progP, P.getD 0 0 = 0 := by decide +kernel
  show (progP.getD k []).getD 0 0 = 0
  rw [List.getD_eq_getElem?_getD (l := progP)]
  cases hp : progP[k]? with
  | none => rfl
  | some P => exact h P (List.mem_of_getElem? hp)
theorem mxl_mi : (fun k => (mi k).2.2.1) = mxl := by
  have hN : progN = progI.map (fun i => i.2.2.1) := by decide +kernel
  funext k
  unfold mxl mi
  rw [hN, List.getD_eq_getElem?_getD, List.getD_eq_getElem?_getD, List.getElem?_map]
  cases progI[k]? <;> rfl
