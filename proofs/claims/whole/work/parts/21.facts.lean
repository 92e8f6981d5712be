theorem mok_0 : MOK i_0 := ⟨fun _ => wt_34, fun h => absurd rfl h, wt_2, by decide +kernel, rfl⟩
theorem np_0 : Npar i_0 0 := ⟨by decide +kernel, by decide +kernel, by decide +kernel⟩
theorem mok_1 : MOK i_1 := ⟨fun _ => wt_53, fun h => absurd rfl h, wt_2, by decide +kernel, rfl⟩
theorem np_1 : Npar i_1 0 := ⟨by decide +kernel, by decide +kernel, by decide +kernel⟩
theorem mok_2 : MOK i_2 := ⟨fun _ => wt_456, fun h => absurd rfl h, wt_2, by decide +kernel, rfl⟩
theorem np_2 : Npar i_2 1 := ⟨by decide +kernel, by decide +kernel, by decide +kernel⟩
theorem mok_3 : MOK i_3 := ⟨fun _ => wt_65, fun h => absurd rfl h, wt_2, by decide +kernel, rfl⟩
theorem np_3 : Npar i_3 5 := ⟨by decide +kernel, by decide +kernel, by decide +kernel⟩
theorem mok_4 : MOK i_4 := ⟨fun _ => wt_409, fun h => absurd rfl h, wt_2, by decide +kernel, rfl⟩
theorem np_4 : Npar i_4 1 := ⟨by decide +kernel, by decide +kernel, by decide +kernel⟩
theorem mok_5 : MOK i_5 := ⟨fun _ => wt_1033, fun h => absurd rfl h, wt_2, by decide +kernel, rfl⟩
theorem np_5 : Npar i_5 1 := ⟨by decide +kernel, by decide +kernel, by decide +kernel⟩
theorem mok_6 : MOK i_6 := ⟨fun _ => wt_413, fun h => absurd rfl h, wt_2, by decide +kernel, rfl⟩
theorem np_6 : Npar i_6 2 := ⟨by decide +kernel, by decide +kernel, by decide +kernel⟩
theorem mok_7 : MOK i_7 := ⟨fun _ => wt_425, fun h => absurd rfl h, wt_2, by decide +kernel, rfl⟩
theorem np_7 : Npar i_7 3 := ⟨by decide +kernel, by decide +kernel, by decide +kernel⟩
theorem mok_8 : MOK i_8 := ⟨fun _ => wt_993, fun h => absurd rfl h, wt_2, by decide +kernel, rfl⟩
theorem np_8 : Npar i_8 1 := ⟨by decide +kernel, by decide +kernel, by decide +kernel⟩
theorem mok_9 : MOK i_9 := ⟨fun _ => wt_1074, fun h => absurd rfl h, wt_2, by decide +kernel, rfl⟩
theorem np_9 : Npar i_9 1 := ⟨by decide +kernel, by decide +kernel, by decide +kernel⟩
theorem mok_10 : MOK i_10 := ⟨fun _ => wt_511, fun h => absurd rfl h, wt_2, by decide +kernel, rfl⟩
theorem np_10 : Npar i_10 2 := ⟨by decide +kernel, by decide +kernel, by decide +kernel⟩
theorem mok_11 : MOK i_11 := ⟨fun _ => wt_774, fun h => absurd rfl h, wt_2, by decide +kernel, rfl⟩
theorem np_11 : Npar i_11 0 := ⟨by decide +kernel, by decide +kernel, by decide +kernel⟩
theorem mok_12 : MOK i_12 := ⟨fun _ => wt_778, fun h => absurd rfl h, wt_2, by decide +kernel, rfl⟩
theorem np_12 : Npar i_12 0 := ⟨by decide +kernel, by decide +kernel, by decide +kernel⟩
theorem mok_13 : MOK i_13 := ⟨fun _ => wt_783, fun h => absurd rfl h, wt_2, by decide +kernel, rfl⟩
theorem np_13 : Npar i_13 0 := ⟨by decide +kernel, by decide +kernel, by decide +kernel⟩
theorem mok_14 : MOK i_14 := ⟨fun _ => wt_787, fun h => absurd rfl h, wt_2, by decide +kernel, rfl⟩
theorem np_14 : Npar i_14 0 := ⟨by decide +kernel, by decide +kernel, by decide +kernel⟩
theorem mok_15 : MOK i_15 := ⟨fun _ => wt_791, fun h => absurd rfl h, wt_2, by decide +kernel, rfl⟩
theorem np_15 : Npar i_15 0 := ⟨by decide +kernel, by decide +kernel, by decide +kernel⟩
theorem mok_16 : MOK i_16 := ⟨fun _ => wt_543, fun h => absurd rfl h, wt_2, by decide +kernel, rfl⟩
theorem np_16 : Npar i_16 1 := ⟨by decide +kernel, by decide +kernel, by decide +kernel⟩
theorem mok_17 : MOK i_17 := ⟨fun _ => wt_506, fun h => absurd rfl h, wt_2, by decide +kernel, rfl⟩
theorem np_17 : Npar i_17 3 := ⟨by decide +kernel, by decide +kernel, by decide +kernel⟩
theorem mok_18 : MOK i_18 := ⟨fun _ => wt_527, fun h => absurd rfl h, wt_2, by decide +kernel, rfl⟩
theorem np_18 : Npar i_18 2 := ⟨by decide +kernel, by decide +kernel, by decide +kernel⟩
theorem mok_19 : MOK i_19 := ⟨fun _ => wt_502, fun h => absurd rfl h, wt_2, by decide +kernel, rfl⟩
theorem np_19 : Npar i_19 4 := ⟨by decide +kernel, by decide +kernel, by decide +kernel⟩
theorem mok_20 : MOK i_20 := ⟨fun _ => wt_515, fun h => absurd rfl h, wt_2, by decide +kernel, rfl⟩
theorem np_20 : Npar i_20 2 := ⟨by decide +kernel, by decide +kernel, by decide +kernel⟩
theorem mok_21 : MOK i_21 := ⟨fun _ => wt_522, fun h => absurd rfl h, wt_2, by decide +kernel, rfl⟩
theorem np_21 : Npar i_21 3 := ⟨by decide +kernel, by decide +kernel, by decide +kernel⟩
theorem mok_22 : MOK i_22 := ⟨fun _ => wt_539, fun h => absurd rfl h, wt_2, by decide +kernel, rfl⟩
theorem np_22 : Npar i_22 5 := ⟨by decide +kernel, by decide +kernel, by decide +kernel⟩
theorem mok_23 : MOK i_23 := ⟨fun _ => wt_931, fun h => absurd rfl h, wt_2, by decide +kernel, rfl⟩
theorem np_23 : Npar i_23 4 := ⟨by decide +kernel, by decide +kernel, by decide +kernel⟩
theorem mok_24 : MOK i_24 := ⟨fun _ => wt_547, fun h => absurd rfl h, wt_2, by decide +kernel, rfl⟩
theorem np_24 : Npar i_24 1 := ⟨by decide +kernel, by decide +kernel, by decide +kernel⟩
theorem mok_25 : MOK i_25 := ⟨fun _ => wt_551, fun h => absurd rfl h, wt_2, by decide +kernel, rfl⟩
theorem np_25 : Npar i_25 2 := ⟨by decide +kernel, by decide +kernel, by decide +kernel⟩
theorem mok_26 : MOK i_26 := ⟨fun _ => wt_555, fun h => absurd rfl h, wt_2, by decide +kernel, rfl⟩
theorem np_26 : Npar i_26 4 := ⟨by decide +kernel, by decide +kernel, by decide +kernel⟩
theorem mok_27 : MOK i_27 := ⟨fun _ => wt_562, fun h => absurd rfl h, wt_2, by decide +kernel, rfl⟩
theorem np_27 : Npar i_27 4 := ⟨by decide +kernel, by decide +kernel, by decide +kernel⟩
theorem mok_28 : MOK i_28 := ⟨fun _ => wt_122, fun h => absurd rfl h, wt_5, by decide +kernel, rfl⟩
theorem np_28 : Npar i_28 0 := ⟨by decide +kernel, by decide +kernel, by decide +kernel⟩
theorem mok_29 : MOK i_29 := ⟨fun _ => wt_468, fun h => absurd rfl h, wt_5, by decide +kernel, rfl⟩
theorem np_29 : Npar i_29 0 := ⟨by decide +kernel, by decide +kernel, by decide +kernel⟩
theorem mok_30 : MOK i_30 := ⟨fun _ => wt_482, fun h => absurd rfl h, wt_5, by decide +kernel, rfl⟩
theorem np_30 : Npar i_30 1 := ⟨by decide +kernel, by decide +kernel, by decide +kernel⟩
theorem mok_31 : MOK i_31 := ⟨fun _ => wt_498, fun h => absurd rfl h, wt_5, by decide +kernel, rfl⟩
theorem np_31 : Npar i_31 2 := ⟨by decide +kernel, by decide +kernel, by decide +kernel⟩
theorem mok_32 : MOK i_32 := ⟨fun _ => wt_495, fun h => absurd rfl h, wt_5, by decide +kernel, rfl⟩
theorem np_32 : Npar i_32 2 := ⟨by decide +kernel, by decide +kernel, by decide +kernel⟩
theorem mok_33 : MOK i_33 := ⟨fun _ => wt_535, fun h => absurd rfl h, wt_5, by decide +kernel, rfl⟩
theorem np_33 : Npar i_33 3 := ⟨by decide +kernel, by decide +kernel, by decide +kernel⟩
theorem mok_34 : MOK i_34 := ⟨fun _ => wt_486, fun h => absurd rfl h, wt_5, by decide +kernel, rfl⟩
theorem np_34 : Npar i_34 2 := ⟨by decide +kernel, by decide +kernel, by decide +kernel⟩
theorem mok_35 : MOK i_35 := ⟨fun _ => wt_492, fun h => absurd rfl h, wt_5, by decide +kernel, rfl⟩
theorem np_35 : Npar i_35 5 := ⟨by decide +kernel, by decide +kernel, by decide +kernel⟩
theorem mok_36 : MOK i_36 := ⟨fun _ => wt_532, fun h => absurd rfl h, wt_5, by decide +kernel, rfl⟩
theorem np_36 : Npar i_36 2 := ⟨by decide +kernel, by decide +kernel, by decide +kernel⟩
theorem mok_37 : MOK i_37 := ⟨fun _ => wt_567, fun h => absurd rfl h, wt_5, by decide +kernel, rfl⟩
theorem np_37 : Npar i_37 3 := ⟨by decide +kernel, by decide +kernel, by decide +kernel⟩
theorem mok_38 : MOK i_38 := ⟨fun _ => wt_571, fun h => absurd rfl h, wt_5, by decide +kernel, rfl⟩
theorem np_38 : Npar i_38 3 := ⟨by decide +kernel, by decide +kernel, by decide +kernel⟩
theorem mok_39 : MOK i_39 := ⟨fun _ => wt_582, fun h => absurd rfl h, wt_5, by decide +kernel, rfl⟩
theorem np_39 : Npar i_39 0 := ⟨by decide +kernel, by decide +kernel, by decide +kernel⟩
theorem mok_40 : MOK i_40 := ⟨fun _ => wt_586, fun h => absurd rfl h, wt_5, by decide +kernel, rfl⟩
theorem np_40 : Npar i_40 2 := ⟨by decide +kernel, by decide +kernel, by decide +kernel⟩
theorem mok_41 : MOK i_41 := ⟨fun _ => wt_590, fun h => absurd rfl h, wt_5, by decide +kernel, rfl⟩
theorem np_41 : Npar i_41 3 := ⟨by decide +kernel, by decide +kernel, by decide +kernel⟩
theorem mok_42 : MOK i_42 := ⟨fun _ => wt_594, fun h => absurd rfl h, wt_5, by decide +kernel, rfl⟩
theorem np_42 : Npar i_42 2 := ⟨by decide +kernel, by decide +kernel, by decide +kernel⟩
theorem mok_43 : MOK i_43 := ⟨fun _ => wt_946, fun h => absurd rfl h, wt_5, by decide +kernel, rfl⟩
theorem np_43 : Npar i_43 2 := ⟨by decide +kernel, by decide +kernel, by decide +kernel⟩
theorem mok_44 : MOK i_44 := ⟨fun _ => wt_598, fun h => absurd rfl h, wt_5, by decide +kernel, rfl⟩
theorem np_44 : Npar i_44 1 := ⟨by decide +kernel, by decide +kernel, by decide +kernel⟩
theorem mok_45 : MOK i_45 := ⟨fun _ => wt_602, fun h => absurd rfl h, wt_5, by decide +kernel, rfl⟩
theorem np_45 : Npar i_45 0 := ⟨by decide +kernel, by decide +kernel, by decide +kernel⟩
theorem mok_46 : MOK i_46 := ⟨fun _ => wt_606, fun h => absurd rfl h, wt_5, by decide +kernel, rfl⟩
theorem np_46 : Npar i_46 2 := ⟨by decide +kernel, by decide +kernel, by decide +kernel⟩
theorem mok_47 : MOK i_47 := ⟨fun _ => wt_908, fun h => absurd rfl h, wt_5, by decide +kernel, rfl⟩
theorem np_47 : Npar i_47 2 := ⟨by decide +kernel, by decide +kernel, by decide +kernel⟩
theorem mok_48 : MOK i_48 := ⟨fun _ => wt_919, fun h => absurd rfl h, wt_5, by decide +kernel, rfl⟩
theorem np_48 : Npar i_48 1 := ⟨by decide +kernel, by decide +kernel, by decide +kernel⟩
theorem mok_49 : MOK i_49 := ⟨fun _ => wt_923, fun h => absurd rfl h, wt_5, by decide +kernel, rfl⟩
theorem np_49 : Npar i_49 1 := ⟨by decide +kernel, by decide +kernel, by decide +kernel⟩
theorem mok_50 : MOK i_50 := ⟨fun _ => wt_927, fun h => absurd rfl h, wt_5, by decide +kernel, rfl⟩
theorem np_50 : Npar i_50 2 := ⟨by decide +kernel, by decide +kernel, by decide +kernel⟩
theorem mok_51 : MOK i_51 := ⟨fun _ => wt_614, fun h => absurd rfl h, wt_5, by decide +kernel, rfl⟩
theorem np_51 : Npar i_51 1 := ⟨by decide +kernel, by decide +kernel, by decide +kernel⟩
theorem mok_52 : MOK i_52 := ⟨fun _ => wt_618, fun h => absurd rfl h, wt_5, by decide +kernel, rfl⟩
theorem np_52 : Npar i_52 3 := ⟨by decide +kernel, by decide +kernel, by decide +kernel⟩
theorem mok_53 : MOK i_53 := ⟨fun _ => wt_622, fun h => absurd rfl h, wt_5, by decide +kernel, rfl⟩
theorem np_53 : Npar i_53 1 := ⟨by decide +kernel, by decide +kernel, by decide +kernel⟩
theorem mok_54 : MOK i_54 := ⟨fun _ => wt_630, fun h => absurd rfl h, wt_5, by decide +kernel, rfl⟩
theorem np_54 : Npar i_54 2 := ⟨by decide +kernel, by decide +kernel, by decide +kernel⟩
theorem mok_55 : MOK i_55 := ⟨fun _ => wt_942, fun h => absurd rfl h, wt_5, by decide +kernel, rfl⟩
theorem np_55 : Npar i_55 3 := ⟨by decide +kernel, by decide +kernel, by decide +kernel⟩
theorem mok_56 : MOK i_56 := ⟨fun _ => wt_638, fun h => absurd rfl h, wt_5, by decide +kernel, rfl⟩
theorem np_56 : Npar i_56 0 := ⟨by decide +kernel, by decide +kernel, by decide +kernel⟩
theorem mok_57 : MOK i_57 := ⟨fun _ => wt_642, fun h => absurd rfl h, wt_5, by decide +kernel, rfl⟩
theorem np_57 : Npar i_57 1 := ⟨by decide +kernel, by decide +kernel, by decide +kernel⟩
theorem mok_58 : MOK i_58 := ⟨fun _ => wt_964, fun h => absurd rfl h, wt_5, by decide +kernel, rfl⟩
theorem np_58 : Npar i_58 2 := ⟨by decide +kernel, by decide +kernel, by decide +kernel⟩
theorem mok_59 : MOK i_59 := ⟨fun _ => wt_999, fun h => absurd rfl h, wt_5, by decide +kernel, rfl⟩
theorem np_59 : Npar i_59 2 := ⟨by decide +kernel, by decide +kernel, by decide +kernel⟩
theorem mok_60 : MOK i_60 := ⟨fun _ => wt_679, fun h => absurd rfl h, wt_5, by decide +kernel, rfl⟩
theorem np_60 : Npar i_60 2 := ⟨by decide +kernel, by decide +kernel, by decide +kernel⟩
theorem mok_61 : MOK i_61 := ⟨fun _ => wt_40, fun h => absurd rfl h, wt_3, by decide +kernel, rfl⟩
theorem np_61 : Npar i_61 1 := ⟨by decide +kernel, by decide +kernel, by decide +kernel⟩
theorem mok_62 : MOK i_62 := ⟨fun _ => wt_279, fun h => absurd rfl h, wt_3, by decide +kernel, rfl⟩
theorem np_62 : Npar i_62 1 := ⟨by decide +kernel, by decide +kernel, by decide +kernel⟩
theorem mok_63 : MOK i_63 := ⟨fun _ => wt_59, fun h => absurd rfl h, wt_3, by decide +kernel, rfl⟩
theorem np_63 : Npar i_63 2 := ⟨by decide +kernel, by decide +kernel, by decide +kernel⟩
theorem mok_64 : MOK i_64 := ⟨fun _ => wt_460, fun h => absurd rfl h, wt_3, by decide +kernel, rfl⟩
theorem np_64 : Npar i_64 1 := ⟨by decide +kernel, by decide +kernel, by decide +kernel⟩
theorem mok_65 : MOK i_65 := ⟨fun _ => wt_214, fun h => absurd rfl h, wt_7, by decide +kernel, rfl⟩
theorem np_65 : Npar i_65 1 := ⟨by decide +kernel, by decide +kernel, by decide +kernel⟩
theorem mok_66 : MOK i_66 := ⟨fun _ => wt_1114, fun h => absurd rfl h, wt_7, by decide +kernel, rfl⟩
theorem np_66 : Npar i_66 1 := ⟨by decide +kernel, by decide +kernel, by decide +kernel⟩
theorem mok_67 : MOK i_67 := ⟨fun _ => wt_451, fun h => absurd rfl h, wt_7, by decide +kernel, rfl⟩
theorem np_67 : Npar i_67 2 := ⟨by decide +kernel, by decide +kernel, by decide +kernel⟩
theorem mok_68 : MOK i_68 := ⟨fun _ => wt_1092, fun h => absurd rfl h, wt_7, by decide +kernel, rfl⟩
theorem np_68 : Npar i_68 2 := ⟨by decide +kernel, by decide +kernel, by decide +kernel⟩
theorem mok_69 : MOK i_69 := ⟨fun _ => wt_173, fun h => absurd rfl h, wt_6, by decide +kernel, rfl⟩
theorem np_69 : Npar i_69 0 := ⟨by decide +kernel, by decide +kernel, by decide +kernel⟩
theorem mok_70 : MOK i_70 := ⟨fun _ => wt_762, fun h => absurd rfl h, wt_6, by decide +kernel, rfl⟩
theorem np_70 : Npar i_70 1 := ⟨by decide +kernel, by decide +kernel, by decide +kernel⟩
theorem mok_71 : MOK i_71 := ⟨fun _ => wt_267, fun h => absurd rfl h, wt_6, by decide +kernel, rfl⟩
theorem np_71 : Npar i_71 1 := ⟨by decide +kernel, by decide +kernel, by decide +kernel⟩
theorem mok_72 : MOK i_72 := ⟨fun _ => wt_650, fun h => absurd rfl h, wt_6, by decide +kernel, rfl⟩
theorem np_72 : Npar i_72 2 := ⟨by decide +kernel, by decide +kernel, by decide +kernel⟩
theorem mok_73 : MOK i_73 := ⟨fun _ => wt_299, fun h => absurd rfl h, wt_6, by decide +kernel, rfl⟩
theorem np_73 : Npar i_73 1 := ⟨by decide +kernel, by decide +kernel, by decide +kernel⟩
theorem mok_74 : MOK i_74 := ⟨fun _ => wt_370, fun h => absurd rfl h, wt_6, by decide +kernel, rfl⟩
theorem np_74 : Npar i_74 1 := ⟨by decide +kernel, by decide +kernel, by decide +kernel⟩
theorem mok_75 : MOK i_75 := ⟨fun _ => wt_375, fun h => absurd rfl h, wt_6, by decide +kernel, rfl⟩
theorem np_75 : Npar i_75 0 := ⟨by decide +kernel, by decide +kernel, by decide +kernel⟩
theorem mok_76 : MOK i_76 := ⟨fun _ => wt_394, fun h => absurd rfl h, wt_6, by decide +kernel, rfl⟩
theorem np_76 : Npar i_76 1 := ⟨by decide +kernel, by decide +kernel, by decide +kernel⟩
theorem mok_77 : MOK i_77 := ⟨fun _ => wt_399, fun h => absurd rfl h, wt_6, by decide +kernel, rfl⟩
theorem np_77 : Npar i_77 1 := ⟨by decide +kernel, by decide +kernel, by decide +kernel⟩
theorem mok_78 : MOK i_78 := ⟨fun _ => wt_404, fun h => absurd rfl h, wt_6, by decide +kernel, rfl⟩
theorem np_78 : Npar i_78 1 := ⟨by decide +kernel, by decide +kernel, by decide +kernel⟩
theorem mok_79 : MOK i_79 := ⟨fun _ => wt_421, fun h => absurd rfl h, wt_6, by decide +kernel, rfl⟩
theorem np_79 : Npar i_79 2 := ⟨by decide +kernel, by decide +kernel, by decide +kernel⟩
theorem mok_80 : MOK i_80 := ⟨fun _ => wt_429, fun h => absurd rfl h, wt_6, by decide +kernel, rfl⟩
theorem np_80 : Npar i_80 2 := ⟨by decide +kernel, by decide +kernel, by decide +kernel⟩
theorem mok_81 : MOK i_81 := ⟨fun _ => wt_434, fun h => absurd rfl h, wt_6, by decide +kernel, rfl⟩
theorem np_81 : Npar i_81 2 := ⟨by decide +kernel, by decide +kernel, by decide +kernel⟩
theorem mok_82 : MOK i_82 := ⟨fun _ => wt_271, fun h => absurd rfl h, wt_6, by decide +kernel, rfl⟩
theorem np_82 : Npar i_82 0 := ⟨by decide +kernel, by decide +kernel, by decide +kernel⟩
theorem mok_83 : MOK i_83 := ⟨fun _ => wt_360, fun h => absurd rfl h, wt_6, by decide +kernel, rfl⟩
theorem np_83 : Npar i_83 1 := ⟨by decide +kernel, by decide +kernel, by decide +kernel⟩
theorem mok_84 : MOK i_84 := ⟨fun _ => wt_304, fun h => absurd rfl h, wt_6, by decide +kernel, rfl⟩
theorem np_84 : Npar i_84 1 := ⟨by decide +kernel, by decide +kernel, by decide +kernel⟩
theorem mok_85 : MOK i_85 := ⟨fun _ => wt_366, fun h => absurd rfl h, wt_6, by decide +kernel, rfl⟩
theorem np_85 : Npar i_85 0 := ⟨by decide +kernel, by decide +kernel, by decide +kernel⟩
theorem mok_86 : MOK i_86 := ⟨fun _ => wt_443, fun h => absurd rfl h, wt_6, by decide +kernel, rfl⟩
theorem np_86 : Npar i_86 0 := ⟨by decide +kernel, by decide +kernel, by decide +kernel⟩
theorem mok_87 : MOK i_87 := ⟨fun _ => wt_389, fun h => absurd rfl h, wt_6, by decide +kernel, rfl⟩
theorem np_87 : Npar i_87 3 := ⟨by decide +kernel, by decide +kernel, by decide +kernel⟩
theorem mok_88 : MOK i_88 := ⟨fun _ => wt_308, fun h => absurd rfl h, wt_6, by decide +kernel, rfl⟩
theorem np_88 : Npar i_88 1 := ⟨by decide +kernel, by decide +kernel, by decide +kernel⟩
theorem mok_89 : MOK i_89 := ⟨fun _ => wt_275, fun h => absurd rfl h, wt_6, by decide +kernel, rfl⟩
theorem np_89 : Npar i_89 0 := ⟨by decide +kernel, by decide +kernel, by decide +kernel⟩
theorem mok_90 : MOK i_90 := ⟨fun _ => wt_283, fun h => absurd rfl h, wt_6, by decide +kernel, rfl⟩
theorem np_90 : Npar i_90 1 := ⟨by decide +kernel, by decide +kernel, by decide +kernel⟩
theorem mok_91 : MOK i_91 := ⟨fun _ => wt_290, fun h => absurd rfl h, wt_6, by decide +kernel, rfl⟩
theorem np_91 : Npar i_91 1 := ⟨by decide +kernel, by decide +kernel, by decide +kernel⟩
theorem mok_92 : MOK i_92 := ⟨fun _ => wt_26, fun h => absurd rfl h, wt_1, by decide +kernel, rfl⟩
theorem np_92 : Npar i_92 0 := ⟨by decide +kernel, by decide +kernel, by decide +kernel⟩
theorem mok_93 : MOK i_93 := ⟨fun _ => wt_691, fun h => absurd rfl h, wt_1, by decide +kernel, rfl⟩
theorem np_93 : Npar i_93 5 := ⟨by decide +kernel, by decide +kernel, by decide +kernel⟩
theorem mok_94 : MOK i_94 := ⟨fun _ => wt_263, fun h => absurd rfl h, wt_1, by decide +kernel, rfl⟩
theorem np_94 : Npar i_94 0 := ⟨by decide +kernel, by decide +kernel, by decide +kernel⟩
theorem mok_95 : MOK i_95 := ⟨fun _ => wt_474, fun h => absurd rfl h, wt_1, by decide +kernel, rfl⟩
theorem np_95 : Npar i_95 0 := ⟨by decide +kernel, by decide +kernel, by decide +kernel⟩
theorem mok_96 : MOK i_96 := ⟨fun _ => wt_770, fun h => absurd rfl h, wt_1, by decide +kernel, rfl⟩
theorem np_96 : Npar i_96 1 := ⟨by decide +kernel, by decide +kernel, by decide +kernel⟩
theorem mok_97 : MOK i_97 := ⟨fun _ => wt_814, fun h => absurd rfl h, wt_1, by decide +kernel, rfl⟩
theorem np_97 : Npar i_97 2 := ⟨by decide +kernel, by decide +kernel, by decide +kernel⟩
theorem mok_98 : MOK i_98 := ⟨fun _ => wt_841, fun h => absurd rfl h, wt_1, by decide +kernel, rfl⟩
theorem np_98 : Npar i_98 3 := ⟨by decide +kernel, by decide +kernel, by decide +kernel⟩
theorem mok_99 : MOK i_99 := ⟨fun _ => wt_853, fun h => absurd rfl h, wt_1, by decide +kernel, rfl⟩
theorem np_99 : Npar i_99 1 := ⟨by decide +kernel, by decide +kernel, by decide +kernel⟩
theorem mok_100 : MOK i_100 := ⟨fun _ => wt_864, fun h => absurd rfl h, wt_1, by decide +kernel, rfl⟩
theorem np_100 : Npar i_100 3 := ⟨by decide +kernel, by decide +kernel, by decide +kernel⟩
theorem mok_101 : MOK i_101 := ⟨fun _ => wt_876, fun h => absurd rfl h, wt_1, by decide +kernel, rfl⟩
theorem np_101 : Npar i_101 4 := ⟨by decide +kernel, by decide +kernel, by decide +kernel⟩
theorem mok_102 : MOK i_102 := ⟨fun _ => wt_478, fun h => absurd rfl h, wt_1, by decide +kernel, rfl⟩
theorem np_102 : Npar i_102 0 := ⟨by decide +kernel, by decide +kernel, by decide +kernel⟩
theorem mok_103 : MOK i_103 := ⟨fun _ => wt_885, fun h => absurd rfl h, wt_1, by decide +kernel, rfl⟩
theorem np_103 : Npar i_103 2 := ⟨by decide +kernel, by decide +kernel, by decide +kernel⟩
theorem mok_104 : MOK i_104 := ⟨fun _ => wt_915, fun h => absurd rfl h, wt_1, by decide +kernel, rfl⟩
theorem np_104 : Npar i_104 2 := ⟨by decide +kernel, by decide +kernel, by decide +kernel⟩
theorem mok_105 : MOK i_105 := ⟨fun _ => wt_610, fun h => absurd rfl h, wt_1, by decide +kernel, rfl⟩
theorem np_105 : Npar i_105 1 := ⟨by decide +kernel, by decide +kernel, by decide +kernel⟩
theorem mok_106 : MOK i_106 := ⟨fun _ => wt_938, fun h => absurd rfl h, wt_1, by decide +kernel, rfl⟩
theorem np_106 : Npar i_106 3 := ⟨by decide +kernel, by decide +kernel, by decide +kernel⟩
theorem mok_107 : MOK i_107 := ⟨fun _ => wt_634, fun h => absurd rfl h, wt_1, by decide +kernel, rfl⟩
theorem np_107 : Npar i_107 0 := ⟨by decide +kernel, by decide +kernel, by decide +kernel⟩
theorem mok_108 : MOK i_108 := ⟨fun _ => wt_953, fun h => absurd rfl h, wt_1, by decide +kernel, rfl⟩
theorem np_108 : Npar i_108 1 := ⟨by decide +kernel, by decide +kernel, by decide +kernel⟩
theorem mok_109 : MOK i_109 := ⟨fun _ => wt_960, fun h => absurd rfl h, wt_1, by decide +kernel, rfl⟩
theorem np_109 : Npar i_109 0 := ⟨by decide +kernel, by decide +kernel, by decide +kernel⟩
theorem mok_110 : MOK i_110 := ⟨fun _ => wt_978, fun h => absurd rfl h, wt_1, by decide +kernel, rfl⟩
theorem np_110 : Npar i_110 0 := ⟨by decide +kernel, by decide +kernel, by decide +kernel⟩
theorem mok_111 : MOK i_111 := ⟨fun _ => wt_646, fun h => absurd rfl h, wt_1, by decide +kernel, rfl⟩
theorem np_111 : Npar i_111 0 := ⟨by decide +kernel, by decide +kernel, by decide +kernel⟩
theorem mok_112 : MOK i_112 := ⟨fun _ => wt_667, fun h => absurd rfl h, wt_1, by decide +kernel, rfl⟩
theorem np_112 : Npar i_112 0 := ⟨by decide +kernel, by decide +kernel, by decide +kernel⟩
theorem mok_113 : MOK i_113 := ⟨fun _ => wt_671, fun h => absurd rfl h, wt_1, by decide +kernel, rfl⟩
theorem np_113 : Npar i_113 0 := ⟨by decide +kernel, by decide +kernel, by decide +kernel⟩
theorem mok_114 : MOK i_114 := ⟨fun _ => wt_985, fun h => absurd rfl h, wt_1, by decide +kernel, rfl⟩
theorem np_114 : Npar i_114 1 := ⟨by decide +kernel, by decide +kernel, by decide +kernel⟩
theorem mok_115 : MOK i_115 := ⟨fun _ => wt_1009, fun h => absurd rfl h, wt_1, by decide +kernel, rfl⟩
theorem np_115 : Npar i_115 1 := ⟨by decide +kernel, by decide +kernel, by decide +kernel⟩
theorem mok_116 : MOK i_116 := ⟨fun _ => wt_675, fun h => absurd rfl h, wt_1, by decide +kernel, rfl⟩
theorem np_116 : Npar i_116 0 := ⟨by decide +kernel, by decide +kernel, by decide +kernel⟩
theorem mok_117 : MOK i_117 := ⟨fun _ => wt_1016, fun h => absurd rfl h, wt_1, by decide +kernel, rfl⟩
theorem np_117 : Npar i_117 5 := ⟨by decide +kernel, by decide +kernel, by decide +kernel⟩
theorem mok_118 : MOK i_118 := ⟨fun _ => wt_1029, fun h => absurd rfl h, wt_1, by decide +kernel, rfl⟩
theorem np_118 : Npar i_118 1 := ⟨by decide +kernel, by decide +kernel, by decide +kernel⟩
theorem mok_119 : MOK i_119 := ⟨fun _ => wt_1040, fun h => absurd rfl h, wt_1, by decide +kernel, rfl⟩
theorem np_119 : Npar i_119 2 := ⟨by decide +kernel, by decide +kernel, by decide +kernel⟩
theorem mok_120 : MOK i_120 := ⟨fun _ => wt_1047, fun h => absurd rfl h, wt_1, by decide +kernel, rfl⟩
theorem np_120 : Npar i_120 4 := ⟨by decide +kernel, by decide +kernel, by decide +kernel⟩
theorem mok_121 : MOK i_121 := ⟨fun _ => wt_1055, fun h => absurd rfl h, wt_1, by decide +kernel, rfl⟩
theorem np_121 : Npar i_121 2 := ⟨by decide +kernel, by decide +kernel, by decide +kernel⟩
theorem mok_122 : MOK i_122 := ⟨fun _ => wt_1062, fun h => absurd rfl h, wt_1, by decide +kernel, rfl⟩
theorem np_122 : Npar i_122 5 := ⟨by decide +kernel, by decide +kernel, by decide +kernel⟩
theorem mok_123 : MOK i_123 := ⟨fun _ => wt_683, fun h => absurd rfl h, wt_1, by decide +kernel, rfl⟩
theorem np_123 : Npar i_123 1 := ⟨by decide +kernel, by decide +kernel, by decide +kernel⟩
theorem mok_124 : MOK i_124 := ⟨fun _ => wt_1070, fun h => absurd rfl h, wt_1, by decide +kernel, rfl⟩
theorem np_124 : Npar i_124 1 := ⟨by decide +kernel, by decide +kernel, by decide +kernel⟩
theorem mok_125 : MOK i_125 := ⟨fun _ => wt_1081, fun h => absurd rfl h, wt_1, by decide +kernel, rfl⟩
theorem np_125 : Npar i_125 0 := ⟨by decide +kernel, by decide +kernel, by decide +kernel⟩
theorem mok_126 : MOK i_126 := ⟨fun _ => wt_1088, fun h => absurd rfl h, wt_1, by decide +kernel, rfl⟩
theorem np_126 : Npar i_126 0 := ⟨by decide +kernel, by decide +kernel, by decide +kernel⟩
theorem mok_127 : MOK i_127 := ⟨fun _ => wt_1099, fun h => absurd rfl h, wt_1, by decide +kernel, rfl⟩
theorem np_127 : Npar i_127 1 := ⟨by decide +kernel, by decide +kernel, by decide +kernel⟩
theorem mok_128 : MOK i_128 := ⟨fun _ => wt_1110, fun h => absurd rfl h, wt_1, by decide +kernel, rfl⟩
theorem np_128 : Npar i_128 1 := ⟨by decide +kernel, by decide +kernel, by decide +kernel⟩
theorem mok_129 : MOK i_129 := ⟨fun _ => wt_1121, fun h => absurd rfl h, wt_1, by decide +kernel, rfl⟩
theorem np_129 : Npar i_129 0 := ⟨by decide +kernel, by decide +kernel, by decide +kernel⟩
theorem mok_130 : MOK i_130 := ⟨fun _ => wt_1133, fun h => absurd rfl h, wt_1, by decide +kernel, rfl⟩
theorem np_130 : Npar i_130 1 := ⟨by decide +kernel, by decide +kernel, by decide +kernel⟩
theorem mok_131 : MOK i_131 := ⟨fun _ => wt_818, fun h => absurd rfl h, wt_1, by decide +kernel, rfl⟩
theorem np_131 : Npar i_131 1 := ⟨by decide +kernel, by decide +kernel, by decide +kernel⟩
theorem mok_132 : MOK i_132 := ⟨fun _ => wt_845, fun h => absurd rfl h, wt_1, by decide +kernel, rfl⟩
theorem np_132 : Npar i_132 2 := ⟨by decide +kernel, by decide +kernel, by decide +kernel⟩
theorem mok_133 : MOK i_133 := ⟨fun _ => wt_868, fun h => absurd rfl h, wt_1, by decide +kernel, rfl⟩
theorem np_133 : Npar i_133 1 := ⟨by decide +kernel, by decide +kernel, by decide +kernel⟩
theorem mok_134 : MOK i_134 := ⟨fun _ => wt_857, fun h => absurd rfl h, wt_1, by decide +kernel, rfl⟩
theorem np_134 : Npar i_134 1 := ⟨by decide +kernel, by decide +kernel, by decide +kernel⟩
theorem mok_135 : MOK i_135 := ⟨fun _ => wt_1103, fun h => absurd rfl h, wt_1, by decide +kernel, rfl⟩
theorem np_135 : Npar i_135 1 := ⟨by decide +kernel, by decide +kernel, by decide +kernel⟩
theorem mok_136 : MOK i_136 := ⟨fun _ => wt_989, fun h => absurd rfl h, wt_1, by decide +kernel, rfl⟩
theorem np_136 : Npar i_136 1 := ⟨by decide +kernel, by decide +kernel, by decide +kernel⟩
theorem mok_137 : MOK i_137 := ⟨fun _ => wt_889, fun h => absurd rfl h, wt_1, by decide +kernel, rfl⟩
theorem np_137 : Npar i_137 0 := ⟨by decide +kernel, by decide +kernel, by decide +kernel⟩
theorem mok_138 : MOK i_138 := ⟨fun _ => wt_447, fun h => absurd rfl h, wt_1, by decide +kernel, rfl⟩
theorem np_138 : Npar i_138 0 := ⟨by decide +kernel, by decide +kernel, by decide +kernel⟩
theorem mok_139 : MOK i_139 := ⟨fun _ => wt_654, fun h => absurd rfl h, wt_1, by decide +kernel, rfl⟩
theorem np_139 : Npar i_139 1 := ⟨by decide +kernel, by decide +kernel, by decide +kernel⟩
theorem mok_140 : MOK i_140 := ⟨fun _ => wt_660, fun h => absurd rfl h, wt_1, by decide +kernel, rfl⟩
theorem np_140 : Npar i_140 1 := ⟨by decide +kernel, by decide +kernel, by decide +kernel⟩
theorem mok_141 : MOK i_141 := ⟨fun _ => wt_1125, fun h => absurd rfl h, wt_1, by decide +kernel, rfl⟩
theorem np_141 : Npar i_141 1 := ⟨by decide +kernel, by decide +kernel, by decide +kernel⟩
theorem mok_142 : MOK i_142 := ⟨fun _ => wt_286, fun h => absurd rfl h, wt_1, by decide +kernel, rfl⟩
theorem np_142 : Npar i_142 3 := ⟨by decide +kernel, by decide +kernel, by decide +kernel⟩
theorem mok_143 : MOK i_143 := ⟨fun _ => wt_1019, fun h => absurd rfl h, wt_1, by decide +kernel, rfl⟩
theorem np_143 : Npar i_143 3 := ⟨by decide +kernel, by decide +kernel, by decide +kernel⟩
theorem mok_144 : MOK i_144 := ⟨fun _ => wt_518, fun h => absurd rfl h, wt_1, by decide +kernel, rfl⟩
theorem np_144 : Npar i_144 1 := ⟨by decide +kernel, by decide +kernel, by decide +kernel⟩
theorem mok_145 : MOK i_145 := ⟨fun _ => wt_439, fun h => absurd rfl h, wt_1, by decide +kernel, rfl⟩
theorem np_145 : Npar i_145 1 := ⟨by decide +kernel, by decide +kernel, by decide +kernel⟩
theorem mok_146 : MOK i_146 := ⟨fun _ => wt_417, fun h => absurd rfl h, wt_1, by decide +kernel, rfl⟩
theorem np_146 : Npar i_146 2 := ⟨by decide +kernel, by decide +kernel, by decide +kernel⟩
theorem mok_147 : MOK i_147 := ⟨fun _ => wt_68, fun h => absurd rfl h, wt_1, by decide +kernel, rfl⟩
theorem np_147 : Npar i_147 2 := ⟨by decide +kernel, by decide +kernel, by decide +kernel⟩
theorem mok_148 : MOK i_148 := ⟨fun _ => wt_574, fun h => absurd rfl h, wt_1, by decide +kernel, rfl⟩
theorem np_148 : Npar i_148 2 := ⟨by decide +kernel, by decide +kernel, by decide +kernel⟩
theorem mok_149 : MOK i_149 := ⟨fun _ => wt_577, fun h => absurd rfl h, wt_1, by decide +kernel, rfl⟩
theorem np_149 : Npar i_149 2 := ⟨by decide +kernel, by decide +kernel, by decide +kernel⟩
theorem mok_150 : MOK i_150 := ⟨fun _ => wt_694, fun h => absurd rfl h, wt_1, by decide +kernel, rfl⟩
theorem np_150 : Npar i_150 1 := ⟨by decide +kernel, by decide +kernel, by decide +kernel⟩
theorem mok_151 : MOK i_151 := ⟨fun _ => wt_1138, fun h => absurd rfl h, wt_8, by decide +kernel, rfl⟩
theorem np_151 : Npar i_151 0 := ⟨by decide +kernel, by decide +kernel, by decide +kernel⟩
theorem mok_152 : MOK i_152 := ⟨fun _ => wt_1147, fun h => absurd rfl h, wt_8, by decide +kernel, rfl⟩
theorem np_152 : Npar i_152 5 := ⟨by decide +kernel, by decide +kernel, by decide +kernel⟩
theorem mok_153 : MOK i_153 := ⟨fun _ => wt_1151, fun h => absurd rfl h, wt_8, by decide +kernel, rfl⟩
theorem np_153 : Npar i_153 5 := ⟨by decide +kernel, by decide +kernel, by decide +kernel⟩
theorem mok_154 : MOK i_154 := ⟨fun _ => wt_1143, fun h => absurd rfl h, wt_8, by decide +kernel, rfl⟩
theorem np_154 : Npar i_154 0 := ⟨by decide +kernel, by decide +kernel, by decide +kernel⟩
theorem mok_155 : MOK i_155 := ⟨fun _ => wt_1154, fun h => absurd rfl h, wt_8, by decide +kernel, rfl⟩
theorem np_155 : Npar i_155 2 := ⟨by decide +kernel, by decide +kernel, by decide +kernel⟩
theorem mok_156 : MOK i_156 := ⟨fun _ => wt_1252, fun h => absurd rfl h, wt_8, by decide +kernel, rfl⟩
theorem np_156 : Npar i_156 0 := ⟨by decide +kernel, by decide +kernel, by decide +kernel⟩
theorem mok_157 : MOK i_157 := ⟨fun _ => wt_1266, fun h => absurd rfl h, wt_8, by decide +kernel, rfl⟩
theorem np_157 : Npar i_157 3 := ⟨by decide +kernel, by decide +kernel, by decide +kernel⟩
theorem mok_158 : MOK i_158 := ⟨fun _ => wt_1259, fun h => absurd rfl h, wt_8, by decide +kernel, rfl⟩
theorem np_158 : Npar i_158 4 := ⟨by decide +kernel, by decide +kernel, by decide +kernel⟩
theorem mok_159 : MOK i_159 := ⟨fun _ => wt_1274, fun h => absurd rfl h, wt_8, by decide +kernel, rfl⟩
theorem np_159 : Npar i_159 1 := ⟨by decide +kernel, by decide +kernel, by decide +kernel⟩
theorem mok_160 : MOK i_160 := ⟨fun _ => wt_1256, fun h => absurd rfl h, wt_8, by decide +kernel, rfl⟩
theorem np_160 : Npar i_160 0 := ⟨by decide +kernel, by decide +kernel, by decide +kernel⟩
theorem mok_161 : MOK i_161 := ⟨fun _ => wt_1263, fun h => absurd rfl h, wt_8, by decide +kernel, rfl⟩
theorem np_161 : Npar i_161 1 := ⟨by decide +kernel, by decide +kernel, by decide +kernel⟩
theorem mok_162 : MOK i_162 := ⟨fun _ => wt_1270, fun h => absurd rfl h, wt_8, by decide +kernel, rfl⟩
theorem np_162 : Npar i_162 1 := ⟨by decide +kernel, by decide +kernel, by decide +kernel⟩
theorem mok_163 : MOK i_163 := ⟨fun _ => wt_1285, fun h => absurd rfl h, wt_8, by decide +kernel, rfl⟩
theorem np_163 : Npar i_163 6 := ⟨by decide +kernel, by decide +kernel, by decide +kernel⟩
theorem mok_164 : MOK i_164 := ⟨fun _ => wt_1282, fun h => absurd rfl h, wt_8, by decide +kernel, rfl⟩
theorem np_164 : Npar i_164 5 := ⟨by decide +kernel, by decide +kernel, by decide +kernel⟩
theorem mok_165 : MOK i_165 := ⟨fun _ => wt_1301, fun h => absurd rfl h, wt_8, by decide +kernel, rfl⟩
theorem np_165 : Npar i_165 1 := ⟨by decide +kernel, by decide +kernel, by decide +kernel⟩
theorem mok_166 : MOK i_166 := ⟨fun _ => wt_1305, fun h => absurd rfl h, wt_8, by decide +kernel, rfl⟩
theorem np_166 : Npar i_166 1 := ⟨by decide +kernel, by decide +kernel, by decide +kernel⟩
theorem mok_167 : MOK i_167 := ⟨fun _ => wt_1309, fun h => absurd rfl h, wt_8, by decide +kernel, rfl⟩
theorem np_167 : Npar i_167 1 := ⟨by decide +kernel, by decide +kernel, by decide +kernel⟩
theorem mok_168 : MOK i_168 := ⟨fun _ => wt_1297, fun h => absurd rfl h, wt_8, by decide +kernel, rfl⟩
theorem np_168 : Npar i_168 0 := ⟨by decide +kernel, by decide +kernel, by decide +kernel⟩
theorem mok_169 : MOK i_169 := ⟨fun _ => wt_1293, fun h => absurd rfl h, wt_8, by decide +kernel, rfl⟩
theorem np_169 : Npar i_169 0 := ⟨by decide +kernel, by decide +kernel, by decide +kernel⟩
theorem mok_170 : MOK i_170 := ⟨fun _ => wt_1368, fun h => absurd rfl h, wt_8, by decide +kernel, rfl⟩
theorem np_170 : Npar i_170 0 := ⟨by decide +kernel, by decide +kernel, by decide +kernel⟩
theorem mok_171 : MOK i_171 := ⟨fun _ => wt_1314, fun h => absurd rfl h, wt_8, by decide +kernel, rfl⟩
theorem np_171 : Npar i_171 1 := ⟨by decide +kernel, by decide +kernel, by decide +kernel⟩
theorem mok_172 : MOK i_172 := ⟨fun _ => wt_1324, fun h => absurd rfl h, wt_8, by decide +kernel, rfl⟩
theorem np_172 : Npar i_172 1 := ⟨by decide +kernel, by decide +kernel, by decide +kernel⟩
theorem mok_173 : MOK i_173 := ⟨fun _ => wt_1320, fun h => absurd rfl h, wt_8, by decide +kernel, rfl⟩
theorem np_173 : Npar i_173 1 := ⟨by decide +kernel, by decide +kernel, by decide +kernel⟩
theorem mok_174 : MOK i_174 := ⟨fun _ => wt_1330, fun h => absurd rfl h, wt_8, by decide +kernel, rfl⟩
theorem np_174 : Npar i_174 0 := ⟨by decide +kernel, by decide +kernel, by decide +kernel⟩
theorem mok_175 : MOK i_175 := ⟨fun _ => wt_1352, fun h => absurd rfl h, wt_8, by decide +kernel, rfl⟩
theorem np_175 : Npar i_175 3 := ⟨by decide +kernel, by decide +kernel, by decide +kernel⟩
theorem mok_176 : MOK i_176 := ⟨fun _ => wt_1338, fun h => absurd rfl h, wt_8, by decide +kernel, rfl⟩
theorem np_176 : Npar i_176 1 := ⟨by decide +kernel, by decide +kernel, by decide +kernel⟩
theorem mok_177 : MOK i_177 := ⟨fun _ => wt_1335, fun h => absurd rfl h, wt_8, by decide +kernel, rfl⟩
theorem np_177 : Npar i_177 0 := ⟨by decide +kernel, by decide +kernel, by decide +kernel⟩
theorem mok_178 : MOK i_178 := ⟨fun _ => wt_1357, fun h => absurd rfl h, wt_8, by decide +kernel, rfl⟩
theorem np_178 : Npar i_178 0 := ⟨by decide +kernel, by decide +kernel, by decide +kernel⟩
theorem mok_179 : MOK i_179 := ⟨fun _ => wt_1362, fun h => absurd rfl h, wt_8, by decide +kernel, rfl⟩
theorem np_179 : Npar i_179 0 := ⟨by decide +kernel, by decide +kernel, by decide +kernel⟩
theorem mok_180 : MOK i_180 := ⟨fun _ => wt_1289, fun h => absurd rfl h, wt_8, by decide +kernel, rfl⟩
theorem np_180 : Npar i_180 0 := ⟨by decide +kernel, by decide +kernel, by decide +kernel⟩
theorem mok_181 : MOK i_181 := ⟨fun _ => wt_1372, fun h => absurd rfl h, wt_8, by decide +kernel, rfl⟩
theorem np_181 : Npar i_181 0 := ⟨by decide +kernel, by decide +kernel, by decide +kernel⟩
theorem mok_182 : MOK i_182 := ⟨fun _ => wt_1278, fun h => absurd rfl h, wt_8, by decide +kernel, rfl⟩
theorem np_182 : Npar i_182 0 := ⟨by decide +kernel, by decide +kernel, by decide +kernel⟩
theorem mok_183 : MOK i_183 := ⟨fun _ => wt_1384, fun h => absurd rfl h, wt_8, by decide +kernel, rfl⟩
theorem np_183 : Npar i_183 1 := ⟨by decide +kernel, by decide +kernel, by decide +kernel⟩
theorem mok_184 : MOK i_184 := ⟨fun _ => wt_1411, fun h => absurd rfl h, wt_8, by decide +kernel, rfl⟩
theorem np_184 : Npar i_184 1 := ⟨by decide +kernel, by decide +kernel, by decide +kernel⟩
theorem mok_185 : MOK i_185 := ⟨fun _ => wt_1392, fun h => absurd rfl h, wt_8, by decide +kernel, rfl⟩
theorem np_185 : Npar i_185 2 := ⟨by decide +kernel, by decide +kernel, by decide +kernel⟩
theorem mok_186 : MOK i_186 := ⟨fun _ => wt_1450, fun h => absurd rfl h, wt_8, by decide +kernel, rfl⟩
theorem np_186 : Npar i_186 2 := ⟨by decide +kernel, by decide +kernel, by decide +kernel⟩
theorem mok_187 : MOK i_187 := ⟨fun _ => wt_1415, fun h => absurd rfl h, wt_8, by decide +kernel, rfl⟩
theorem np_187 : Npar i_187 1 := ⟨by decide +kernel, by decide +kernel, by decide +kernel⟩
theorem mok_188 : MOK i_188 := ⟨fun _ => wt_1423, fun h => absurd rfl h, wt_8, by decide +kernel, rfl⟩
theorem np_188 : Npar i_188 1 := ⟨by decide +kernel, by decide +kernel, by decide +kernel⟩
theorem mok_189 : MOK i_189 := ⟨fun _ => wt_1462, fun h => absurd rfl h, wt_8, by decide +kernel, rfl⟩
theorem np_189 : Npar i_189 2 := ⟨by decide +kernel, by decide +kernel, by decide +kernel⟩
theorem mok_190 : MOK i_190 := ⟨fun _ => wt_1473, fun h => absurd rfl h, wt_8, by decide +kernel, rfl⟩
theorem np_190 : Npar i_190 1 := ⟨by decide +kernel, by decide +kernel, by decide +kernel⟩
theorem mok_191 : MOK i_191 := ⟨fun _ => wt_1399, fun h => absurd rfl h, wt_8, by decide +kernel, rfl⟩
theorem np_191 : Npar i_191 1 := ⟨by decide +kernel, by decide +kernel, by decide +kernel⟩
theorem mok_192 : MOK i_192 := ⟨fun _ => wt_1380, fun h => absurd rfl h, wt_8, by decide +kernel, rfl⟩
theorem np_192 : Npar i_192 0 := ⟨by decide +kernel, by decide +kernel, by decide +kernel⟩
theorem mok_193 : MOK i_193 := ⟨fun _ => wt_1407, fun h => absurd rfl h, wt_8, by decide +kernel, rfl⟩
theorem np_193 : Npar i_193 1 := ⟨by decide +kernel, by decide +kernel, by decide +kernel⟩
theorem mok_194 : MOK i_194 := ⟨fun _ => wt_1454, fun h => absurd rfl h, wt_8, by decide +kernel, rfl⟩
theorem np_194 : Npar i_194 3 := ⟨by decide +kernel, by decide +kernel, by decide +kernel⟩
theorem mok_195 : MOK i_195 := ⟨fun _ => wt_1484, fun h => absurd rfl h, wt_8, by decide +kernel, rfl⟩
theorem np_195 : Npar i_195 4 := ⟨by decide +kernel, by decide +kernel, by decide +kernel⟩
theorem mok_196 : MOK i_196 := ⟨fun _ => wt_1442, fun h => absurd rfl h, wt_8, by decide +kernel, rfl⟩
theorem np_196 : Npar i_196 1 := ⟨by decide +kernel, by decide +kernel, by decide +kernel⟩
theorem mok_197 : MOK i_197 := ⟨fun _ => wt_1446, fun h => absurd rfl h, wt_8, by decide +kernel, rfl⟩
theorem np_197 : Npar i_197 1 := ⟨by decide +kernel, by decide +kernel, by decide +kernel⟩
theorem mok_198 : MOK i_198 := ⟨fun _ => wt_1438, fun h => absurd rfl h, wt_8, by decide +kernel, rfl⟩
theorem np_198 : Npar i_198 1 := ⟨by decide +kernel, by decide +kernel, by decide +kernel⟩
theorem mok_199 : MOK i_199 := ⟨fun _ => wt_1434, fun h => absurd rfl h, wt_8, by decide +kernel, rfl⟩
theorem np_199 : Npar i_199 2 := ⟨by decide +kernel, by decide +kernel, by decide +kernel⟩
theorem mok_200 : MOK i_200 := ⟨fun _ => wt_1431, fun h => absurd rfl h, wt_8, by decide +kernel, rfl⟩
theorem np_200 : Npar i_200 2 := ⟨by decide +kernel, by decide +kernel, by decide +kernel⟩
theorem mok_201 : MOK i_201 := ⟨fun _ => wt_1427, fun h => absurd rfl h, wt_8, by decide +kernel, rfl⟩
theorem np_201 : Npar i_201 0 := ⟨by decide +kernel, by decide +kernel, by decide +kernel⟩
theorem mok_202 : MOK i_202 := ⟨fun _ => wt_1509, fun h => absurd rfl h, wt_8, by decide +kernel, rfl⟩
theorem np_202 : Npar i_202 1 := ⟨by decide +kernel, by decide +kernel, by decide +kernel⟩
theorem mok_203 : MOK i_203 := ⟨fun _ => wt_1517, fun h => absurd rfl h, wt_8, by decide +kernel, rfl⟩
theorem np_203 : Npar i_203 1 := ⟨by decide +kernel, by decide +kernel, by decide +kernel⟩
theorem mok_204 : MOK i_204 := ⟨fun _ => wt_1513, fun h => absurd rfl h, wt_8, by decide +kernel, rfl⟩
theorem np_204 : Npar i_204 5 := ⟨by decide +kernel, by decide +kernel, by decide +kernel⟩
theorem mok_205 : MOK i_205 := ⟨fun _ => wt_1505, fun h => absurd rfl h, wt_8, by decide +kernel, rfl⟩
theorem np_205 : Npar i_205 3 := ⟨by decide +kernel, by decide +kernel, by decide +kernel⟩
theorem mok_206 : MOK i_206 := ⟨fun _ => wt_1550, fun h => absurd rfl h, wt_8, by decide +kernel, rfl⟩
theorem np_206 : Npar i_206 5 := ⟨by decide +kernel, by decide +kernel, by decide +kernel⟩
theorem mok_207 : MOK i_207 := ⟨fun _ => wt_1546, fun h => absurd rfl h, wt_8, by decide +kernel, rfl⟩
theorem np_207 : Npar i_207 3 := ⟨by decide +kernel, by decide +kernel, by decide +kernel⟩
theorem mok_208 : MOK i_208 := ⟨fun _ => wt_1496, fun h => absurd rfl h, wt_8, by decide +kernel, rfl⟩
theorem np_208 : Npar i_208 0 := ⟨by decide +kernel, by decide +kernel, by decide +kernel⟩
theorem mok_209 : MOK i_209 := ⟨fun _ => wt_1500, fun h => absurd rfl h, wt_8, by decide +kernel, rfl⟩
theorem np_209 : Npar i_209 2 := ⟨by decide +kernel, by decide +kernel, by decide +kernel⟩
theorem mok_210 : MOK i_210 := ⟨fun _ => wt_1562, fun h => absurd rfl h, wt_8, by decide +kernel, rfl⟩
theorem np_210 : Npar i_210 0 := ⟨by decide +kernel, by decide +kernel, by decide +kernel⟩
theorem mok_211 : MOK i_211 := ⟨fun _ => wt_1523, fun h => absurd rfl h, wt_8, by decide +kernel, rfl⟩
theorem np_211 : Npar i_211 0 := ⟨by decide +kernel, by decide +kernel, by decide +kernel⟩
theorem mok_212 : MOK i_212 := ⟨fun _ => wt_1492, fun h => absurd rfl h, wt_8, by decide +kernel, rfl⟩
theorem np_212 : Npar i_212 0 := ⟨by decide +kernel, by decide +kernel, by decide +kernel⟩
theorem mok_213 : MOK i_213 := ⟨fun _ => wt_1526, fun h => absurd rfl h, wt_8, by decide +kernel, rfl⟩
theorem np_213 : Npar i_213 1 := ⟨by decide +kernel, by decide +kernel, by decide +kernel⟩
theorem mok_214 : MOK i_214 := ⟨fun _ => wt_1534, fun h => absurd rfl h, wt_8, by decide +kernel, rfl⟩
theorem np_214 : Npar i_214 0 := ⟨by decide +kernel, by decide +kernel, by decide +kernel⟩
theorem mok_215 : MOK i_215 := ⟨fun _ => wt_1538, fun h => absurd rfl h, wt_8, by decide +kernel, rfl⟩
theorem np_215 : Npar i_215 2 := ⟨by decide +kernel, by decide +kernel, by decide +kernel⟩
theorem mok_216 : MOK i_216 := ⟨fun _ => wt_1388, fun h => absurd rfl h, wt_8, by decide +kernel, rfl⟩
theorem np_216 : Npar i_216 1 := ⟨by decide +kernel, by decide +kernel, by decide +kernel⟩
theorem mok_217 : MOK i_217 := ⟨fun _ => wt_1396, fun h => absurd rfl h, wt_8, by decide +kernel, rfl⟩
theorem np_217 : Npar i_217 0 := ⟨by decide +kernel, by decide +kernel, by decide +kernel⟩
theorem mok_218 : MOK i_218 := ⟨fun _ => wt_1403, fun h => absurd rfl h, wt_8, by decide +kernel, rfl⟩
theorem np_218 : Npar i_218 0 := ⟨by decide +kernel, by decide +kernel, by decide +kernel⟩
theorem mok_219 : MOK i_219 := ⟨fun _ => wt_1376, fun h => absurd rfl h, wt_8, by decide +kernel, rfl⟩
theorem np_219 : Npar i_219 1 := ⟨by decide +kernel, by decide +kernel, by decide +kernel⟩
theorem mok_220 : MOK i_220 := ⟨fun _ => wt_1419, fun h => absurd rfl h, wt_8, by decide +kernel, rfl⟩
theorem np_220 : Npar i_220 2 := ⟨by decide +kernel, by decide +kernel, by decide +kernel⟩
theorem mok_221 : MOK i_221 := ⟨fun _ => wt_1458, fun h => absurd rfl h, wt_8, by decide +kernel, rfl⟩
theorem np_221 : Npar i_221 3 := ⟨by decide +kernel, by decide +kernel, by decide +kernel⟩
theorem mok_222 : MOK i_222 := ⟨fun _ => wt_1466, fun h => absurd rfl h, wt_8, by decide +kernel, rfl⟩
theorem np_222 : Npar i_222 1 := ⟨by decide +kernel, by decide +kernel, by decide +kernel⟩
theorem mok_223 : MOK i_223 := ⟨fun _ => wt_1470, fun h => absurd rfl h, wt_8, by decide +kernel, rfl⟩
theorem np_223 : Npar i_223 3 := ⟨by decide +kernel, by decide +kernel, by decide +kernel⟩
theorem mok_224 : MOK i_224 := ⟨fun _ => wt_1480, fun h => absurd rfl h, wt_8, by decide +kernel, rfl⟩
theorem np_224 : Npar i_224 1 := ⟨by decide +kernel, by decide +kernel, by decide +kernel⟩
theorem mok_225 : MOK i_225 := ⟨fun _ => wt_1477, fun h => absurd rfl h, wt_8, by decide +kernel, rfl⟩
theorem np_225 : Npar i_225 4 := ⟨by decide +kernel, by decide +kernel, by decide +kernel⟩
theorem mok_226 : MOK i_226 := ⟨fun _ => wt_1488, fun h => absurd rfl h, wt_8, by decide +kernel, rfl⟩
theorem np_226 : Npar i_226 0 := ⟨by decide +kernel, by decide +kernel, by decide +kernel⟩
theorem mok_227 : MOK i_227 := ⟨fun _ => wt_1530, fun h => absurd rfl h, wt_8, by decide +kernel, rfl⟩
theorem np_227 : Npar i_227 2 := ⟨by decide +kernel, by decide +kernel, by decide +kernel⟩
theorem mok_228 : MOK i_228 := ⟨fun _ => wt_1542, fun h => absurd rfl h, wt_8, by decide +kernel, rfl⟩
theorem np_228 : Npar i_228 2 := ⟨by decide +kernel, by decide +kernel, by decide +kernel⟩
theorem mok_229 : MOK i_229 := ⟨fun _ => wt_1554, fun h => absurd rfl h, wt_8, by decide +kernel, rfl⟩
theorem np_229 : Npar i_229 1 := ⟨by decide +kernel, by decide +kernel, by decide +kernel⟩
theorem mok_230 : MOK i_230 := ⟨fun _ => wt_1558, fun h => absurd rfl h, wt_8, by decide +kernel, rfl⟩
theorem np_230 : Npar i_230 3 := ⟨by decide +kernel, by decide +kernel, by decide +kernel⟩
theorem mok_231 : MOK i_231 := ⟨fun _ => wt_1566, fun h => absurd rfl h, wt_8, by decide +kernel, rfl⟩
theorem np_231 : Npar i_231 1 := ⟨by decide +kernel, by decide +kernel, by decide +kernel⟩
theorem mok_232 : MOK i_232 := ⟨fun _ => wt_1570, fun h => absurd rfl h, wt_8, by decide +kernel, rfl⟩
theorem np_232 : Npar i_232 0 := ⟨by decide +kernel, by decide +kernel, by decide +kernel⟩
theorem mok_233 : MOK i_233 := ⟨fun _ => wt_1574, fun h => absurd rfl h, wt_8, by decide +kernel, rfl⟩
theorem np_233 : Npar i_233 1 := ⟨by decide +kernel, by decide +kernel, by decide +kernel⟩
theorem mok_234 : MOK i_234 := ⟨fun _ => wt_1582, fun h => absurd rfl h, wt_8, by decide +kernel, rfl⟩
theorem np_234 : Npar i_234 3 := ⟨by decide +kernel, by decide +kernel, by decide +kernel⟩
theorem mok_235 : MOK i_235 := ⟨fun _ => wt_1578, fun h => absurd rfl h, wt_8, by decide +kernel, rfl⟩
theorem np_235 : Npar i_235 0 := ⟨by decide +kernel, by decide +kernel, by decide +kernel⟩
theorem mok_236 : MOK i_236 := ⟨fun _ => wt_1586, fun h => absurd rfl h, wt_8, by decide +kernel, rfl⟩
theorem np_236 : Npar i_236 0 := ⟨by decide +kernel, by decide +kernel, by decide +kernel⟩
theorem mok_237 : MOK i_237 := ⟨fun _ => wt_1594, fun h => absurd rfl h, wt_8, by decide +kernel, rfl⟩
theorem np_237 : Npar i_237 0 := ⟨by decide +kernel, by decide +kernel, by decide +kernel⟩
theorem mok_238 : MOK i_238 := ⟨fun _ => wt_1602, fun h => absurd rfl h, wt_8, by decide +kernel, rfl⟩
theorem np_238 : Npar i_238 1 := ⟨by decide +kernel, by decide +kernel, by decide +kernel⟩
theorem mok_239 : MOK i_239 := ⟨fun _ => wt_1598, fun h => absurd rfl h, wt_8, by decide +kernel, rfl⟩
theorem np_239 : Npar i_239 0 := ⟨by decide +kernel, by decide +kernel, by decide +kernel⟩
theorem mok_240 : MOK i_240 := ⟨fun _ => wt_1590, fun h => absurd rfl h, wt_8, by decide +kernel, rfl⟩
theorem np_240 : Npar i_240 0 := ⟨by decide +kernel, by decide +kernel, by decide +kernel⟩
theorem mok_241 : MOK i_241 := ⟨fun _ => wt_1606, fun h => absurd rfl h, wt_8, by decide +kernel, rfl⟩
theorem np_241 : Npar i_241 0 := ⟨by decide +kernel, by decide +kernel, by decide +kernel⟩
theorem mok_242 : MOK i_242 := ⟨fun _ => wt_1610, fun h => absurd rfl h, wt_8, by decide +kernel, rfl⟩
theorem np_242 : Npar i_242 0 := ⟨by decide +kernel, by decide +kernel, by decide +kernel⟩
theorem mok_243 : MOK i_243 := ⟨fun _ => wt_1618, fun h => absurd rfl h, wt_8, by decide +kernel, rfl⟩
theorem np_243 : Npar i_243 1 := ⟨by decide +kernel, by decide +kernel, by decide +kernel⟩
theorem mok_244 : MOK i_244 := ⟨fun _ => wt_1626, fun h => absurd rfl h, wt_8, by decide +kernel, rfl⟩
theorem np_244 : Npar i_244 1 := ⟨by decide +kernel, by decide +kernel, by decide +kernel⟩
theorem mok_245 : MOK i_245 := ⟨fun _ => wt_1622, fun h => absurd rfl h, wt_8, by decide +kernel, rfl⟩
theorem np_245 : Npar i_245 1 := ⟨by decide +kernel, by decide +kernel, by decide +kernel⟩
theorem mok_246 : MOK i_246 := ⟨fun _ => wt_1614, fun h => absurd rfl h, wt_8, by decide +kernel, rfl⟩
theorem np_246 : Npar i_246 1 := ⟨by decide +kernel, by decide +kernel, by decide +kernel⟩
theorem mok_247 : MOK i_247 := ⟨fun _ => wt_1630, fun h => absurd rfl h, wt_8, by decide +kernel, rfl⟩
theorem np_247 : Npar i_247 1 := ⟨by decide +kernel, by decide +kernel, by decide +kernel⟩
theorem mok_248 : MOK i_248 := ⟨fun _ => wt_1634, fun h => absurd rfl h, wt_8, by decide +kernel, rfl⟩
theorem np_248 : Npar i_248 0 := ⟨by decide +kernel, by decide +kernel, by decide +kernel⟩
theorem mok_249 : MOK i_249 := ⟨fun _ => wt_1641, fun h => absurd rfl h, wt_8, by decide +kernel, rfl⟩
theorem np_249 : Npar i_249 3 := ⟨by decide +kernel, by decide +kernel, by decide +kernel⟩
theorem mok_250 : MOK i_250 := ⟨fun _ => wt_1638, fun h => absurd rfl h, wt_8, by decide +kernel, rfl⟩
theorem np_250 : Npar i_250 5 := ⟨by decide +kernel, by decide +kernel, by decide +kernel⟩
theorem mok_251 : MOK i_251 := ⟨fun _ => wt_1645, fun h => absurd rfl h, wt_8, by decide +kernel, rfl⟩
theorem np_251 : Npar i_251 1 := ⟨by decide +kernel, by decide +kernel, by decide +kernel⟩
theorem mok_252 : MOK i_252 := ⟨fun _ => wt_1653, fun h => absurd rfl h, wt_8, by decide +kernel, rfl⟩
theorem np_252 : Npar i_252 2 := ⟨by decide +kernel, by decide +kernel, by decide +kernel⟩
theorem mok_253 : MOK i_253 := ⟨fun _ => wt_1649, fun h => absurd rfl h, wt_8, by decide +kernel, rfl⟩
theorem np_253 : Npar i_253 2 := ⟨by decide +kernel, by decide +kernel, by decide +kernel⟩
theorem mok_254 : MOK i_254 := ⟨fun _ => wt_1657, fun h => absurd rfl h, wt_8, by decide +kernel, rfl⟩
theorem np_254 : Npar i_254 4 := ⟨by decide +kernel, by decide +kernel, by decide +kernel⟩
theorem mok_255 : MOK i_255 := ⟨fun _ => wt_1661, fun h => absurd rfl h, wt_8, by decide +kernel, rfl⟩
theorem np_255 : Npar i_255 2 := ⟨by decide +kernel, by decide +kernel, by decide +kernel⟩
theorem mok_256 : MOK i_256 := ⟨fun _ => wt_1665, fun h => absurd rfl h, wt_8, by decide +kernel, rfl⟩
theorem np_256 : Npar i_256 5 := ⟨by decide +kernel, by decide +kernel, by decide +kernel⟩
theorem mok_257 : MOK i_257 := ⟨fun _ => wt_1669, fun h => absurd rfl h, wt_8, by decide +kernel, rfl⟩
theorem np_257 : Npar i_257 1 := ⟨by decide +kernel, by decide +kernel, by decide +kernel⟩
theorem mok_258 : MOK i_258 := ⟨fun _ => wt_1673, fun h => absurd rfl h, wt_8, by decide +kernel, rfl⟩
theorem np_258 : Npar i_258 1 := ⟨by decide +kernel, by decide +kernel, by decide +kernel⟩
theorem mok_259 : MOK i_259 := ⟨fun _ => wt_1677, fun h => absurd rfl h, wt_8, by decide +kernel, rfl⟩
theorem np_259 : Npar i_259 0 := ⟨by decide +kernel, by decide +kernel, by decide +kernel⟩
theorem mok_260 : MOK i_260 := ⟨fun _ => wt_1685, fun h => absurd rfl h, wt_8, by decide +kernel, rfl⟩
theorem np_260 : Npar i_260 1 := ⟨by decide +kernel, by decide +kernel, by decide +kernel⟩
theorem mok_261 : MOK i_261 := ⟨fun _ => wt_1681, fun h => absurd rfl h, wt_8, by decide +kernel, rfl⟩
theorem np_261 : Npar i_261 0 := ⟨by decide +kernel, by decide +kernel, by decide +kernel⟩
theorem mok_262 : MOK i_262 := ⟨fun _ => wt_1689, fun h => absurd rfl h, wt_8, by decide +kernel, rfl⟩
theorem np_262 : Npar i_262 1 := ⟨by decide +kernel, by decide +kernel, by decide +kernel⟩
theorem mok_263 : MOK i_263 := ⟨fun h => absurd h (by decide), fun _ => ⟨wt_686, by decide +kernel⟩, wt_0, by decide +kernel, rfl⟩
theorem np_263 : Npar i_263 7 := ⟨by decide +kernel, by decide +kernel, by decide +kernel⟩
theorem mok_264 : MOK i_264 := ⟨fun h => absurd h (by decide), fun _ => ⟨wt_765, by decide +kernel⟩, wt_0, by decide +kernel, rfl⟩
theorem np_264 : Npar i_264 3 := ⟨by decide +kernel, by decide +kernel, by decide +kernel⟩
theorem mok_265 : MOK i_265 := ⟨fun h => absurd h (by decide), fun _ => ⟨wt_809, by decide +kernel⟩, wt_0, by decide +kernel, rfl⟩
theorem np_265 : Npar i_265 4 := ⟨by decide +kernel, by decide +kernel, by decide +kernel⟩
theorem mok_266 : MOK i_266 := ⟨fun h => absurd h (by decide), fun _ => ⟨wt_837, by decide +kernel⟩, wt_0, by decide +kernel, rfl⟩
theorem np_266 : Npar i_266 5 := ⟨by decide +kernel, by decide +kernel, by decide +kernel⟩
theorem mok_267 : MOK i_267 := ⟨fun h => absurd h (by decide), fun _ => ⟨wt_849, by decide +kernel⟩, wt_0, by decide +kernel, rfl⟩
theorem np_267 : Npar i_267 3 := ⟨by decide +kernel, by decide +kernel, by decide +kernel⟩
theorem mok_268 : MOK i_268 := ⟨fun h => absurd h (by decide), fun _ => ⟨wt_860, by decide +kernel⟩, wt_0, by decide +kernel, rfl⟩
theorem np_268 : Npar i_268 5 := ⟨by decide +kernel, by decide +kernel, by decide +kernel⟩
theorem mok_269 : MOK i_269 := ⟨fun h => absurd h (by decide), fun _ => ⟨wt_872, by decide +kernel⟩, wt_0, by decide +kernel, rfl⟩
theorem np_269 : Npar i_269 6 := ⟨by decide +kernel, by decide +kernel, by decide +kernel⟩
theorem mok_270 : MOK i_270 := ⟨fun h => absurd h (by decide), fun _ => ⟨wt_880, by decide +kernel⟩, wt_0, by decide +kernel, rfl⟩
theorem np_270 : Npar i_270 4 := ⟨by decide +kernel, by decide +kernel, by decide +kernel⟩
theorem mok_271 : MOK i_271 := ⟨fun h => absurd h (by decide), fun _ => ⟨wt_911, by decide +kernel⟩, wt_0, by decide +kernel, rfl⟩
theorem np_271 : Npar i_271 4 := ⟨by decide +kernel, by decide +kernel, by decide +kernel⟩
theorem mok_272 : MOK i_272 := ⟨fun h => absurd h (by decide), fun _ => ⟨wt_934, by decide +kernel⟩, wt_0, by decide +kernel, rfl⟩
theorem np_272 : Npar i_272 5 := ⟨by decide +kernel, by decide +kernel, by decide +kernel⟩
theorem mok_273 : MOK i_273 := ⟨fun h => absurd h (by decide), fun _ => ⟨wt_949, by decide +kernel⟩, wt_0, by decide +kernel, rfl⟩
theorem np_273 : Npar i_273 3 := ⟨by decide +kernel, by decide +kernel, by decide +kernel⟩
theorem mok_274 : MOK i_274 := ⟨fun h => absurd h (by decide), fun _ => ⟨wt_956, by decide +kernel⟩, wt_0, by decide +kernel, rfl⟩
theorem np_274 : Npar i_274 2 := ⟨by decide +kernel, by decide +kernel, by decide +kernel⟩
theorem mok_275 : MOK i_275 := ⟨fun h => absurd h (by decide), fun _ => ⟨wt_974, by decide +kernel⟩, wt_0, by decide +kernel, rfl⟩
theorem np_275 : Npar i_275 2 := ⟨by decide +kernel, by decide +kernel, by decide +kernel⟩
theorem mok_276 : MOK i_276 := ⟨fun h => absurd h (by decide), fun _ => ⟨wt_981, by decide +kernel⟩, wt_0, by decide +kernel, rfl⟩
theorem np_276 : Npar i_276 3 := ⟨by decide +kernel, by decide +kernel, by decide +kernel⟩
theorem mok_277 : MOK i_277 := ⟨fun h => absurd h (by decide), fun _ => ⟨wt_1005, by decide +kernel⟩, wt_0, by decide +kernel, rfl⟩
theorem np_277 : Npar i_277 3 := ⟨by decide +kernel, by decide +kernel, by decide +kernel⟩
theorem mok_278 : MOK i_278 := ⟨fun h => absurd h (by decide), fun _ => ⟨wt_1012, by decide +kernel⟩, wt_0, by decide +kernel, rfl⟩
theorem np_278 : Npar i_278 7 := ⟨by decide +kernel, by decide +kernel, by decide +kernel⟩
theorem mok_279 : MOK i_279 := ⟨fun h => absurd h (by decide), fun _ => ⟨wt_1025, by decide +kernel⟩, wt_0, by decide +kernel, rfl⟩
theorem np_279 : Npar i_279 3 := ⟨by decide +kernel, by decide +kernel, by decide +kernel⟩
theorem mok_280 : MOK i_280 := ⟨fun h => absurd h (by decide), fun _ => ⟨wt_1036, by decide +kernel⟩, wt_0, by decide +kernel, rfl⟩
theorem np_280 : Npar i_280 4 := ⟨by decide +kernel, by decide +kernel, by decide +kernel⟩
theorem mok_281 : MOK i_281 := ⟨fun h => absurd h (by decide), fun _ => ⟨wt_1043, by decide +kernel⟩, wt_0, by decide +kernel, rfl⟩
theorem np_281 : Npar i_281 6 := ⟨by decide +kernel, by decide +kernel, by decide +kernel⟩
theorem mok_282 : MOK i_282 := ⟨fun h => absurd h (by decide), fun _ => ⟨wt_1051, by decide +kernel⟩, wt_0, by decide +kernel, rfl⟩
theorem np_282 : Npar i_282 4 := ⟨by decide +kernel, by decide +kernel, by decide +kernel⟩
theorem mok_283 : MOK i_283 := ⟨fun h => absurd h (by decide), fun _ => ⟨wt_1058, by decide +kernel⟩, wt_0, by decide +kernel, rfl⟩
theorem np_283 : Npar i_283 7 := ⟨by decide +kernel, by decide +kernel, by decide +kernel⟩
theorem mok_284 : MOK i_284 := ⟨fun h => absurd h (by decide), fun _ => ⟨wt_1066, by decide +kernel⟩, wt_0, by decide +kernel, rfl⟩
theorem np_284 : Npar i_284 3 := ⟨by decide +kernel, by decide +kernel, by decide +kernel⟩
theorem mok_285 : MOK i_285 := ⟨fun h => absurd h (by decide), fun _ => ⟨wt_1077, by decide +kernel⟩, wt_0, by decide +kernel, rfl⟩
theorem np_285 : Npar i_285 2 := ⟨by decide +kernel, by decide +kernel, by decide +kernel⟩
theorem mok_286 : MOK i_286 := ⟨fun h => absurd h (by decide), fun _ => ⟨wt_1084, by decide +kernel⟩, wt_0, by decide +kernel, rfl⟩
theorem np_286 : Npar i_286 2 := ⟨by decide +kernel, by decide +kernel, by decide +kernel⟩
theorem mok_287 : MOK i_287 := ⟨fun h => absurd h (by decide), fun _ => ⟨wt_1095, by decide +kernel⟩, wt_0, by decide +kernel, rfl⟩
theorem np_287 : Npar i_287 2 := ⟨by decide +kernel, by decide +kernel, by decide +kernel⟩
theorem mok_288 : MOK i_288 := ⟨fun h => absurd h (by decide), fun _ => ⟨wt_1106, by decide +kernel⟩, wt_0, by decide +kernel, rfl⟩
theorem np_288 : Npar i_288 3 := ⟨by decide +kernel, by decide +kernel, by decide +kernel⟩
theorem mok_289 : MOK i_289 := ⟨fun h => absurd h (by decide), fun _ => ⟨wt_1117, by decide +kernel⟩, wt_0, by decide +kernel, rfl⟩
theorem np_289 : Npar i_289 2 := ⟨by decide +kernel, by decide +kernel, by decide +kernel⟩
theorem mok_290 : MOK i_290 := ⟨fun h => absurd h (by decide), fun _ => ⟨wt_1129, by decide +kernel⟩, wt_0, by decide +kernel, rfl⟩
theorem np_290 : Npar i_290 3 := ⟨by decide +kernel, by decide +kernel, by decide +kernel⟩
theorem mok_292 : MOK i_292 := ⟨fun _ => wt_1002, fun h => absurd rfl h, wt_4x, by decide +kernel, rfl⟩
theorem np_292 : Npar i_292 2 := ⟨by decide +kernel, by decide +kernel, by decide +kernel⟩
theorem mok_293 : MOK i_293 := ⟨fun _ => wt_968, fun h => absurd rfl h, wt_21, by decide +kernel, rfl⟩
theorem np_293 : Npar i_293 1 := ⟨by decide +kernel, by decide +kernel, by decide +kernel⟩
theorem mok_294 : MOK i_294 := ⟨fun _ => wt_312, fun h => absurd rfl h, wt_13, by decide +kernel, rfl⟩
theorem np_294 : Npar i_294 0 := ⟨by decide +kernel, by decide +kernel, by decide +kernel⟩
theorem mok_295 : MOK i_295 := ⟨fun _ => wt_322, fun h => absurd rfl h, wt_13, by decide +kernel, rfl⟩
theorem np_295 : Npar i_295 1 := ⟨by decide +kernel, by decide +kernel, by decide +kernel⟩
theorem mok_296 : MOK i_296 := ⟨fun _ => wt_316, fun h => absurd rfl h, wt_13, by decide +kernel, rfl⟩
theorem np_296 : Npar i_296 0 := ⟨by decide +kernel, by decide +kernel, by decide +kernel⟩
theorem mok_297 : MOK i_297 := ⟨fun _ => wt_326, fun h => absurd rfl h, wt_13, by decide +kernel, rfl⟩
theorem np_297 : Npar i_297 0 := ⟨by decide +kernel, by decide +kernel, by decide +kernel⟩
theorem mok_298 : MOK i_298 := ⟨fun _ => wt_329, fun h => absurd rfl h, wt_14, by decide +kernel, rfl⟩
theorem np_298 : Npar i_298 2 := ⟨by decide +kernel, by decide +kernel, by decide +kernel⟩
