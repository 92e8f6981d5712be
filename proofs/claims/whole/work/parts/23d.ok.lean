theorem ok_102_0 : BkOK mi i_102 (bpf P_102) 0 (B_102.getD 0 bk0) := ⟨8, ⟨1, s_aload_n dX5_best_0 rfl, ⟨3, s_get (C := RX5) (T := TX5) (N := 12) dX5_best_1 rfl (by decide) wt_225 uw_X5, ⟨1, s_aload_n dX5_best_4 rfl, ⟨3, s_get (C := RX5) (T := TX5) (N := 12) dX5_best_5 rfl (by decide) wt_223 uw_X5, rfl⟩⟩⟩⟩, t_cv rfl mi_30 mok_30 rfl (fun _ => ⟨rfl, by decide +kernel⟩) (fun hs' e => by cases e; intro E n b h; cases h) (fun q fs As rest h hp hA hr => (call_V (i := i_102) (j := i_30) (C := RX1) (T := TX1) (N := 13) dX5_best_8 mok_30 rfl ⟨by decide, by decide⟩ np_30 rfl rfl wt_479 wt_480 wt_481 hp hA hr rfl).thr (fun _ => True.intro))⟩
theorem ok_102_1 : BkOK mi i_102 (bpf P_102) 1 (B_102.getD 1 bk0) := ⟨18, ⟨1, s_aload_n dX5_best_11 rfl, ⟨3, s_get (C := RX5) (T := TX5) (N := 12) dX5_best_12 rfl (by decide) wt_225 uw_X5, ⟨3, s_getN (C := RX1) (T := TX1) (N := 13) dX5_best_15 rfl (by decide) wt_129 uw_X1, rfl⟩⟩⟩, t_ret dX5_best_18 rfl⟩
theorem ok_102 : ∀ b, BkOK mi i_102 (bpf P_102) b (B_102.getD b bk0)
  | 0 => ok_102_0
  | 1 => ok_102_1
  | b + 2 => bk_none mi i_102 (bpf P_102) (b + 2)
theorem ok_103_0 : BkOK mi i_103 (bpf P_103) 0 (B_103.getD 0 bk0) := ⟨3, ⟨1, s_aload_n dX5_finger_0 rfl, ⟨1, s_iload_n dX5_finger_1 rfl, ⟨1, s_iload_n dX5_finger_2 rfl, rfl⟩⟩⟩, t_cv rfl mi_132 mok_132 rfl (fun _ => ⟨rfl, by decide +kernel⟩) (fun hs' e => by cases e; intro E n b h; cases h) (fun q fs As rest h hp hA hr => (call_V (i := i_103) (j := i_132) (C := RX5) (T := TX5) (N := 12) dX5_finger_3 mok_132 rfl ⟨by decide, by decide⟩ np_132 rfl rfl wt_842 wt_844 ws_5 hp hA hr rfl).thr (fun _ => True.intro))⟩
theorem ok_103_1 : BkOK mi i_103 (bpf P_103) 1 (B_103.getD 1 bk0) := ⟨7, ⟨1, s_aload_n dX5_finger_6 rfl, rfl⟩, t_cv rfl mi_137 mok_137 rfl (fun _ => ⟨rfl, by decide +kernel⟩) (fun hs' e => by cases e; intro E n b h; cases h) (fun q fs As rest h hp hA hr => (call_V (i := i_103) (j := i_137) (C := RX5) (T := TX5) (N := 12) dX5_finger_7 mok_137 rfl ⟨by decide, by decide⟩ np_137 rfl rfl wt_886 wt_888 ws_8 hp hA hr rfl).thr (fun _ => True.intro))⟩
theorem ok_103_2 : BkOK mi i_103 (bpf P_103) 2 (B_103.getD 2 bk0) := ⟨16, ⟨1, s_aload_n dX5_finger_10 rfl, ⟨3, s_get (C := RX5) (T := TX5) (N := 12) dX5_finger_11 rfl (by decide) wt_225 uw_X5, ⟨1, s_iload_n dX5_finger_14 rfl, ⟨1, s_iload_n dX5_finger_15 rfl, rfl⟩⟩⟩⟩, t_cv rfl mi_47 mok_47 rfl (fun _ => ⟨rfl, by decide +kernel⟩) (fun hs' e => by cases e; intro E n b h; cases h) (fun q fs As rest h hp hA hr => (call_V (i := i_103) (j := i_47) (C := RX1) (T := TX1) (N := 13) dX5_finger_16 mok_47 rfl ⟨by decide, by decide⟩ np_47 rfl rfl wt_905 wt_906 wt_907 hp hA hr rfl).thr (fun _ => True.intro))⟩
theorem ok_103_3 : BkOK mi i_103 (bpf P_103) 3 (B_103.getD 3 bk0) := ⟨19, rfl, t_ret dX5_finger_19 rfl⟩
theorem ok_103 : ∀ b, BkOK mi i_103 (bpf P_103) b (B_103.getD b bk0)
  | 0 => ok_103_0
  | 1 => ok_103_1
  | 2 => ok_103_2
  | 3 => ok_103_3
  | b + 4 => bk_none mi i_103 (bpf P_103) (b + 4)
theorem ok_104_0 : BkOK mi i_104 (bpf P_104) 0 (B_104.getD 0 bk0) := ⟨2, ⟨1, s_aload_n dX5_part_0 rfl, ⟨1, s_iload_n dX5_part_1 rfl, rfl⟩⟩, t_cv rfl mi_131 mok_131 rfl (fun _ => ⟨rfl, by decide +kernel⟩) (fun hs' e => by cases e; intro E n b h; cases h) (fun q fs As rest h hp hA hr => (call_V (i := i_104) (j := i_131) (C := RX5) (T := TX5) (N := 12) dX5_part_2 mok_131 rfl ⟨by decide, by decide⟩ np_131 rfl rfl wt_815 wt_817 ws_4 hp hA hr rfl).thr (fun _ => True.intro))⟩
theorem ok_104_1 : BkOK mi i_104 (bpf P_104) 1 (B_104.getD 1 bk0) := ⟨8, ⟨1, s_iload_n dX5_part_5 rfl, ⟨1, s_iconst dX5_part_6 rfl, ⟨1, s_iconst dX5_part_7 rfl, rfl⟩⟩⟩, t_cs rfl mi_142 mok_142 rfl (fun As rest h hA hr => call_S dX5_part_8 mok_142 rfl ⟨by decide, by decide⟩ np_142 wt_819 wt_285 hA hr)⟩
theorem ok_104_2 : BkOK mi i_104 (bpf P_104) 2 (B_104.getD 2 bk0) := ⟨11, rfl, t_ne0 dX5_part_11 (by decide) rfl⟩
theorem ok_104_3 : BkOK mi i_104 (bpf P_104) 3 (B_104.getD 3 bk0) := ⟨14, rfl, t_thr ⟨121, 123, ["java/lang/RuntimeException", "java/lang/Exception"], dX5_part_14, dX5_part_17, dX5_part_18, dX5_part_21, thr_1.1, thr_1.2.1, thr_1.2.2, by decide, by decide⟩⟩
theorem ok_104_4 : BkOK mi i_104 (bpf P_104) 4 (B_104.getD 4 bk0) := ⟨23, ⟨1, s_aload_n dX5_part_22 rfl, rfl⟩, t_cv rfl mi_137 mok_137 rfl (fun _ => ⟨rfl, by decide +kernel⟩) (fun hs' e => by cases e; intro E n b h; cases h) (fun q fs As rest h hp hA hr => (call_V (i := i_104) (j := i_137) (C := RX5) (T := TX5) (N := 12) dX5_part_23 mok_137 rfl ⟨by decide, by decide⟩ np_137 rfl rfl wt_886 wt_888 ws_8 hp hA hr rfl).thr (fun _ => True.intro))⟩
theorem ok_104_5 : BkOK mi i_104 (bpf P_104) 5 (B_104.getD 5 bk0) := ⟨27, ⟨1, s_iload_n dX5_part_26 rfl, rfl⟩, t_ne0 dX5_part_27 (by decide) rfl⟩
theorem ok_104_6 : BkOK mi i_104 (bpf P_104) 6 (B_104.getD 6 bk0) := ⟨35, ⟨1, s_aload_n dX5_part_30 rfl, ⟨3, s_get (C := RX5) (T := TX5) (N := 12) dX5_part_31 rfl (by decide) wt_225 uw_X5, ⟨1, s_iload_n dX5_part_34 rfl, rfl⟩⟩⟩, t_cv rfl mi_48 mok_48 rfl (fun _ => ⟨rfl, by decide +kernel⟩) (fun hs' e => by cases e; intro E n b h; cases h) (fun q fs As rest h hp hA hr => (call_V (i := i_104) (j := i_48) (C := RX1) (T := TX1) (N := 13) dX5_part_35 mok_48 rfl ⟨by decide, by decide⟩ np_48 rfl rfl wt_916 wt_917 wt_918 hp hA hr rfl).thr (fun _ => True.intro))⟩
theorem ok_104_7 : BkOK mi i_104 (bpf P_104) 7 (B_104.getD 7 bk0) := ⟨38, rfl, t_ret dX5_part_38 rfl⟩
theorem ok_104_8 : BkOK mi i_104 (bpf P_104) 8 (B_104.getD 8 bk0) := ⟨40, ⟨1, s_iload_n dX5_part_39 rfl, rfl⟩, t_ne0 dX5_part_40 (by decide) rfl⟩
theorem ok_104_9 : BkOK mi i_104 (bpf P_104) 9 (B_104.getD 9 bk0) := ⟨44, ⟨1, s_iconst dX5_part_43 rfl, rfl⟩, t_ret dX5_part_44 rfl⟩
theorem ok_104_10 : BkOK mi i_104 (bpf P_104) 10 (B_104.getD 10 bk0) := ⟨47, ⟨1, s_iload_n dX5_part_45 rfl, ⟨1, s_iconst dX5_part_46 rfl, rfl⟩⟩, t_nei dX5_part_47 (by decide) rfl⟩
theorem ok_104_11 : BkOK mi i_104 (bpf P_104) 11 (B_104.getD 11 bk0) := ⟨57, ⟨1, s_aload_n dX5_part_50 rfl, ⟨3, s_get (C := RX5) (T := TX5) (N := 12) dX5_part_51 rfl (by decide) wt_225 uw_X5, ⟨1, s_iload_n dX5_part_54 rfl, ⟨1, s_iconst dX5_part_55 rfl, ⟨1, s_isub dX5_part_56, rfl⟩⟩⟩⟩⟩, t_cv rfl mi_49 mok_49 rfl (fun _ => ⟨rfl, by decide +kernel⟩) (fun hs' e => by cases e; intro E n b h; cases h) (fun q fs As rest h hp hA hr => (call_V (i := i_104) (j := i_49) (C := RX1) (T := TX1) (N := 13) dX5_part_57 mok_49 rfl ⟨by decide, by decide⟩ np_49 rfl rfl wt_920 wt_921 wt_922 hp hA hr rfl).thr (fun _ => True.intro))⟩
theorem ok_104_12 : BkOK mi i_104 (bpf P_104) 12 (B_104.getD 12 bk0) := ⟨60, rfl, t_go dX5_part_60 (by decide)⟩
theorem ok_104_13 : BkOK mi i_104 (bpf P_104) 13 (B_104.getD 13 bk0) := ⟨74, ⟨1, s_aload_n dX5_part_63 rfl, ⟨3, s_get (C := RX5) (T := TX5) (N := 12) dX5_part_64 rfl (by decide) wt_225 uw_X5, ⟨1, s_aload_n dX5_part_67 rfl, ⟨3, s_get (C := RX5) (T := TX5) (N := 12) dX5_part_68 rfl (by decide) wt_223 uw_X5, ⟨1, s_iload_n dX5_part_71 rfl, ⟨1, s_iconst dX5_part_72 rfl, ⟨1, s_isub dX5_part_73, rfl⟩⟩⟩⟩⟩⟩⟩, t_cv rfl mi_50 mok_50 rfl (fun _ => ⟨rfl, by decide +kernel⟩) (fun hs' e => by cases e; intro E n b h; cases h) (fun q fs As rest h hp hA hr => (call_V (i := i_104) (j := i_50) (C := RX1) (T := TX1) (N := 13) dX5_part_74 mok_50 rfl ⟨by decide, by decide⟩ np_50 rfl rfl wt_924 wt_925 wt_926 hp hA hr rfl).thr (fun _ => True.intro))⟩
theorem ok_104_14 : BkOK mi i_104 (bpf P_104) 14 (B_104.getD 14 bk0) := ⟨77, rfl, t_ret dX5_part_77 rfl⟩
theorem ok_104 : ∀ b, BkOK mi i_104 (bpf P_104) b (B_104.getD b bk0)
  | 0 => ok_104_0
  | 1 => ok_104_1
  | 2 => ok_104_2
  | 3 => ok_104_3
  | 4 => ok_104_4
  | 5 => ok_104_5
  | 6 => ok_104_6
  | 7 => ok_104_7
  | 8 => ok_104_8
  | 9 => ok_104_9
  | 10 => ok_104_10
  | 11 => ok_104_11
  | 12 => ok_104_12
  | 13 => ok_104_13
  | 14 => ok_104_14
  | b + 15 => bk_none mi i_104 (bpf P_104) (b + 15)
theorem ok_105_0 : BkOK mi i_105 (bpf P_105) 0 (B_105.getD 0 bk0) := ⟨8, ⟨1, s_aload_n dX5_many_0 rfl, ⟨3, s_get (C := RX5) (T := TX5) (N := 12) dX5_many_1 rfl (by decide) wt_225 uw_X5, ⟨1, s_aload_n dX5_many_4 rfl, ⟨3, s_get (C := RX5) (T := TX5) (N := 12) dX5_many_5 rfl (by decide) wt_223 uw_X5, rfl⟩⟩⟩⟩, t_cv rfl mi_30 mok_30 rfl (fun _ => ⟨rfl, by decide +kernel⟩) (fun hs' e => by cases e; intro E n b h; cases h) (fun q fs As rest h hp hA hr => (call_V (i := i_105) (j := i_30) (C := RX1) (T := TX1) (N := 13) dX5_many_8 mok_30 rfl ⟨by decide, by decide⟩ np_30 rfl rfl wt_479 wt_480 wt_481 hp hA hr rfl).thr (fun _ => True.intro))⟩
theorem ok_105_1 : BkOK mi i_105 (bpf P_105) 1 (B_105.getD 1 bk0) := ⟨16, ⟨1, s_aload_n dX5_many_11 rfl, ⟨3, s_get (C := RX5) (T := TX5) (N := 12) dX5_many_12 rfl (by decide) wt_225 uw_X5, ⟨1, s_iload_n dX5_many_15 rfl, rfl⟩⟩⟩, t_cv rfl mi_51 mok_51 rfl (fun _ => ⟨rfl, by decide +kernel⟩) (fun hs' e => by cases e; intro E n b h; cases h) (fun q fs As rest h hp hA hr => (call_V (i := i_105) (j := i_51) (C := RX1) (T := TX1) (N := 13) dX5_many_16 mok_51 rfl ⟨by decide, by decide⟩ np_51 rfl rfl wt_611 wt_612 wt_613 hp hA hr rfl).thr (fun _ => True.intro))⟩
theorem ok_105_2 : BkOK mi i_105 (bpf P_105) 2 (B_105.getD 2 bk0) := ⟨19, rfl, t_retL dX5_many_19 rfl⟩
theorem ok_105 : ∀ b, BkOK mi i_105 (bpf P_105) b (B_105.getD b bk0)
  | 0 => ok_105_0
  | 1 => ok_105_1
  | 2 => ok_105_2
  | b + 3 => bk_none mi i_105 (bpf P_105) (b + 3)
theorem ok_106_0 : BkOK mi i_106 (bpf P_106) 0 (B_106.getD 0 bk0) := ⟨3, ⟨1, s_aload_n dX5_costWith_0 rfl, ⟨1, s_iload_n dX5_costWith_1 rfl, ⟨1, s_iload_n dX5_costWith_2 rfl, rfl⟩⟩⟩, t_cv rfl mi_132 mok_132 rfl (fun _ => ⟨rfl, by decide +kernel⟩) (fun hs' e => by cases e; intro E n b h; cases h) (fun q fs As rest h hp hA hr => (call_V (i := i_106) (j := i_132) (C := RX5) (T := TX5) (N := 12) dX5_costWith_3 mok_132 rfl ⟨by decide, by decide⟩ np_132 rfl rfl wt_842 wt_844 ws_5 hp hA hr rfl).thr (fun _ => True.intro))⟩
theorem ok_106_1 : BkOK mi i_106 (bpf P_106) 1 (B_106.getD 1 bk0) := ⟨8, ⟨1, s_aload_n dX5_costWith_6 rfl, ⟨1, s_iload_n dX5_costWith_7 rfl, rfl⟩⟩, t_cv rfl mi_133 mok_133 rfl (fun _ => ⟨rfl, by decide +kernel⟩) (fun hs' e => by cases e; intro E n b h; cases h) (fun q fs As rest h hp hA hr => (call_V (i := i_106) (j := i_133) (C := RX5) (T := TX5) (N := 12) dX5_costWith_8 mok_133 rfl ⟨by decide, by decide⟩ np_133 rfl rfl wt_865 wt_867 ws_7 hp hA hr rfl).thr (fun _ => True.intro))⟩
theorem ok_106_2 : BkOK mi i_106 (bpf P_106) 2 (B_106.getD 2 bk0) := ⟨19, ⟨1, s_aload_n dX5_costWith_11 rfl, ⟨3, s_get (C := RX5) (T := TX5) (N := 12) dX5_costWith_12 rfl (by decide) wt_225 uw_X5, ⟨1, s_aload_n dX5_costWith_15 rfl, ⟨3, s_get (C := RX5) (T := TX5) (N := 12) dX5_costWith_16 rfl (by decide) wt_223 uw_X5, rfl⟩⟩⟩⟩, t_cv rfl mi_30 mok_30 rfl (fun _ => ⟨rfl, by decide +kernel⟩) (fun hs' e => by cases e; intro E n b h; cases h) (fun q fs As rest h hp hA hr => (call_V (i := i_106) (j := i_30) (C := RX1) (T := TX1) (N := 13) dX5_costWith_19 mok_30 rfl ⟨by decide, by decide⟩ np_30 rfl rfl wt_479 wt_480 wt_481 hp hA hr rfl).thr (fun _ => True.intro))⟩
theorem ok_106_3 : BkOK mi i_106 (bpf P_106) 3 (B_106.getD 3 bk0) := ⟨29, ⟨1, s_aload_n dX5_costWith_22 rfl, ⟨3, s_get (C := RX5) (T := TX5) (N := 12) dX5_costWith_23 rfl (by decide) wt_225 uw_X5, ⟨1, s_iload_n dX5_costWith_26 rfl, ⟨1, s_iload_n dX5_costWith_27 rfl, ⟨1, s_iload_n dX5_costWith_28 rfl, rfl⟩⟩⟩⟩⟩, t_cv rfl mi_55 mok_55 rfl (fun _ => ⟨rfl, by decide +kernel⟩) (fun hs' e => by cases e; intro E n b h; cases h) (fun q fs As rest h hp hA hr => (call_V (i := i_106) (j := i_55) (C := RX1) (T := TX1) (N := 13) dX5_costWith_29 mok_55 rfl ⟨by decide, by decide⟩ np_55 rfl rfl wt_939 wt_940 wt_941 hp hA hr rfl).thr (fun _ => True.intro))⟩
theorem ok_106_4 : BkOK mi i_106 (bpf P_106) 4 (B_106.getD 4 bk0) := ⟨32, rfl, t_ret dX5_costWith_32 rfl⟩
theorem ok_106 : ∀ b, BkOK mi i_106 (bpf P_106) b (B_106.getD b bk0)
  | 0 => ok_106_0
  | 1 => ok_106_1
  | 2 => ok_106_2
  | 3 => ok_106_3
  | 4 => ok_106_4
  | b + 5 => bk_none mi i_106 (bpf P_106) (b + 5)
theorem ok_107_0 : BkOK mi i_107 (bpf P_107) 0 (B_107.getD 0 bk0) := ⟨8, ⟨1, s_aload_n dX5_reaches_0 rfl, ⟨3, s_get (C := RX5) (T := TX5) (N := 12) dX5_reaches_1 rfl (by decide) wt_225 uw_X5, ⟨1, s_aload_n dX5_reaches_4 rfl, ⟨3, s_get (C := RX5) (T := TX5) (N := 12) dX5_reaches_5 rfl (by decide) wt_223 uw_X5, rfl⟩⟩⟩⟩, t_cv rfl mi_30 mok_30 rfl (fun _ => ⟨rfl, by decide +kernel⟩) (fun hs' e => by cases e; intro E n b h; cases h) (fun q fs As rest h hp hA hr => (call_V (i := i_107) (j := i_30) (C := RX1) (T := TX1) (N := 13) dX5_reaches_8 mok_30 rfl ⟨by decide, by decide⟩ np_30 rfl rfl wt_479 wt_480 wt_481 hp hA hr rfl).thr (fun _ => True.intro))⟩
theorem ok_107_1 : BkOK mi i_107 (bpf P_107) 1 (B_107.getD 1 bk0) := ⟨15, ⟨1, s_aload_n dX5_reaches_11 rfl, ⟨3, s_get (C := RX5) (T := TX5) (N := 12) dX5_reaches_12 rfl (by decide) wt_225 uw_X5, rfl⟩⟩, t_cv rfl mi_56 mok_56 rfl (fun _ => ⟨rfl, by decide +kernel⟩) (fun hs' e => by cases e; intro E n b h; cases h) (fun q fs As rest h hp hA hr => (call_V (i := i_107) (j := i_56) (C := RX1) (T := TX1) (N := 13) dX5_reaches_15 mok_56 rfl ⟨by decide, by decide⟩ np_56 rfl rfl wt_635 wt_636 wt_637 hp hA hr rfl).thr (fun _ => True.intro))⟩
theorem ok_107_2 : BkOK mi i_107 (bpf P_107) 2 (B_107.getD 2 bk0) := ⟨18, rfl, t_ret dX5_reaches_18 rfl⟩
theorem ok_107 : ∀ b, BkOK mi i_107 (bpf P_107) b (B_107.getD b bk0)
  | 0 => ok_107_0
  | 1 => ok_107_1
  | 2 => ok_107_2
  | b + 3 => bk_none mi i_107 (bpf P_107) (b + 3)
theorem ok_108_0 : BkOK mi i_108 (bpf P_108) 0 (B_108.getD 0 bk0) := ⟨2, ⟨1, s_aload_n dX5_uses_0 rfl, ⟨1, s_iload_n dX5_uses_1 rfl, rfl⟩⟩, t_cv rfl mi_133 mok_133 rfl (fun _ => ⟨rfl, by decide +kernel⟩) (fun hs' e => by cases e; intro E n b h; cases h) (fun q fs As rest h hp hA hr => (call_V (i := i_108) (j := i_133) (C := RX5) (T := TX5) (N := 12) dX5_uses_2 mok_133 rfl ⟨by decide, by decide⟩ np_133 rfl rfl wt_865 wt_867 ws_7 hp hA hr rfl).thr (fun _ => True.intro))⟩
theorem ok_108_1 : BkOK mi i_108 (bpf P_108) 1 (B_108.getD 1 bk0) := ⟨6, ⟨1, s_aload_n dX5_uses_5 rfl, rfl⟩, t_cv rfl mi_137 mok_137 rfl (fun _ => ⟨rfl, by decide +kernel⟩) (fun hs' e => by cases e; intro E n b h; cases h) (fun q fs As rest h hp hA hr => (call_V (i := i_108) (j := i_137) (C := RX5) (T := TX5) (N := 12) dX5_uses_6 mok_137 rfl ⟨by decide, by decide⟩ np_137 rfl rfl wt_886 wt_888 ws_8 hp hA hr rfl).thr (fun _ => True.intro))⟩
theorem ok_108_2 : BkOK mi i_108 (bpf P_108) 2 (B_108.getD 2 bk0) := ⟨13, ⟨1, s_iconst dX5_uses_9 rfl, ⟨1, s_istore_n dX5_uses_10 rfl (by decide), ⟨1, s_iconst dX5_uses_11 rfl, ⟨1, s_istore_n dX5_uses_12 rfl (by decide), rfl⟩⟩⟩⟩, t_fall rfl⟩
theorem ok_108_3 : BkOK mi i_108 (bpf P_108) 3 (B_108.getD 3 bk0) := ⟨21, ⟨1, s_iload_n dX5_uses_13 rfl, ⟨1, s_aload_n dX5_uses_14 rfl, ⟨3, s_get (C := RX5) (T := TX5) (N := 12) dX5_uses_15 rfl (by decide) wt_223 uw_X5, ⟨3, s_getN (C := RX0) (T := TX0) (N := 10) dX5_uses_18 rfl (by decide) wt_74 uw_X0, rfl⟩⟩⟩⟩, t_ge dX5_uses_21 (by decide) rfl⟩
theorem ok_108_4 : BkOK mi i_108 (bpf P_108) 4 (B_108.getD 4 bk0) := ⟨27, ⟨1, s_iconst dX5_uses_24 rfl, ⟨2, s_istore dX5_uses_25 (by decide), rfl⟩⟩, t_fall rfl⟩
theorem ok_108_5 : BkOK mi i_108 (bpf P_108) 5 (B_108.getD 5 bk0) := ⟨37, ⟨2, s_iload dX5_uses_27, ⟨1, s_aload_n dX5_uses_29 rfl, ⟨3, s_get (C := RX5) (T := TX5) (N := 12) dX5_uses_30 rfl (by decide) wt_223 uw_X5, ⟨3, s_getN (C := RX0) (T := TX0) (N := 10) dX5_uses_33 rfl (by decide) wt_78 uw_X0, ⟨1, s_iload_n dX5_uses_36 rfl, rfl⟩⟩⟩⟩⟩, t_cv rfl mi_62 mok_62 rfl (fun _ => ⟨rfl, by decide +kernel⟩) (fun hs' e => by cases e; intro E n b h; cases h) (fun q fs As rest h hp hA hr => (call_V (i := i_108) (j := i_62) (C := RX2) (T := TX2) (N := 1) dX5_uses_37 mok_62 rfl ⟨by decide, by decide⟩ np_62 rfl rfl wt_661 wt_277 wt_278 hp hA hr rfl).thr (fun _ => True.intro))⟩
theorem ok_108_6 : BkOK mi i_108 (bpf P_108) 6 (B_108.getD 6 bk0) := ⟨40, rfl, t_ge dX5_uses_40 (by decide) rfl⟩
theorem ok_108_7 : BkOK mi i_108 (bpf P_108) 7 (B_108.getD 7 bk0) := ⟨51, ⟨1, s_iload_n dX5_uses_43 rfl, ⟨1, s_aload_n dX5_uses_44 rfl, ⟨3, s_get (C := RX5) (T := TX5) (N := 12) dX5_uses_45 rfl (by decide) wt_225 uw_X5, ⟨1, s_iload_n dX5_uses_48 rfl, ⟨2, s_iload dX5_uses_49, rfl⟩⟩⟩⟩⟩, t_cv rfl mi_47 mok_47 rfl (fun _ => ⟨rfl, by decide +kernel⟩) (fun hs' e => by cases e; intro E n b h; cases h) (fun q fs As rest h hp hA hr => (call_V (i := i_108) (j := i_47) (C := RX1) (T := TX1) (N := 13) dX5_uses_51 mok_47 rfl ⟨by decide, by decide⟩ np_47 rfl rfl wt_905 wt_906 wt_907 hp hA hr rfl).thr (fun _ => True.intro))⟩
theorem ok_108_8 : BkOK mi i_108 (bpf P_108) 8 (B_108.getD 8 bk0) := ⟨55, ⟨1, s_iload_n dX5_uses_54 rfl, rfl⟩, t_nei dX5_uses_55 (by decide) rfl⟩
theorem ok_108_9 : BkOK mi i_108 (bpf P_108) 9 (B_108.getD 9 bk0) := ⟨59, ⟨1, s_iconst dX5_uses_58 rfl, rfl⟩, t_go dX5_uses_59 (by decide)⟩
theorem ok_108_10 : BkOK mi i_108 (bpf P_108) 10 (B_108.getD 10 bk0) := ⟨63, ⟨1, s_iconst dX5_uses_62 rfl, rfl⟩, t_fall rfl⟩
theorem ok_108_11 : BkOK mi i_108 (bpf P_108) 11 (B_108.getD 11 bk0) := ⟨68, ⟨1, s_iadd dX5_uses_63, ⟨1, s_istore_n dX5_uses_64 rfl (by decide), ⟨3, s_iinc dX5_uses_65 rfl (by decide), rfl⟩⟩⟩, t_go dX5_uses_68 (by decide)⟩
theorem ok_108_12 : BkOK mi i_108 (bpf P_108) 12 (B_108.getD 12 bk0) := ⟨74, ⟨3, s_iinc dX5_uses_71 rfl (by decide), rfl⟩, t_go dX5_uses_74 (by decide)⟩
theorem ok_108_13 : BkOK mi i_108 (bpf P_108) 13 (B_108.getD 13 bk0) := ⟨78, ⟨1, s_iload_n dX5_uses_77 rfl, rfl⟩, t_ret dX5_uses_78 rfl⟩
theorem ok_108 : ∀ b, BkOK mi i_108 (bpf P_108) b (B_108.getD b bk0)
  | 0 => ok_108_0
  | 1 => ok_108_1
  | 2 => ok_108_2
  | 3 => ok_108_3
  | 4 => ok_108_4
  | 5 => ok_108_5
  | 6 => ok_108_6
  | 7 => ok_108_7
  | 8 => ok_108_8
  | 9 => ok_108_9
  | 10 => ok_108_10
  | 11 => ok_108_11
  | 12 => ok_108_12
  | 13 => ok_108_13
  | b + 14 => bk_none mi i_108 (bpf P_108) (b + 14)
theorem ok_109_0 : BkOK mi i_109 (bpf P_109) 0 (B_109.getD 0 bk0) := ⟨1, ⟨1, s_aload_n dX5_sure_0 rfl, rfl⟩, t_cv rfl mi_137 mok_137 rfl (fun _ => ⟨rfl, by decide +kernel⟩) (fun hs' e => by cases e; intro E n b h; cases h) (fun q fs As rest h hp hA hr => (call_V (i := i_109) (j := i_137) (C := RX5) (T := TX5) (N := 12) dX5_sure_1 mok_137 rfl ⟨by decide, by decide⟩ np_137 rfl rfl wt_886 wt_888 ws_8 hp hA hr rfl).thr (fun _ => True.intro))⟩
theorem ok_109_1 : BkOK mi i_109 (bpf P_109) 1 (B_109.getD 1 bk0) := ⟨8, ⟨1, s_iconst dX5_sure_4 rfl, ⟨1, s_istore_n dX5_sure_5 rfl (by decide), ⟨1, s_iconst dX5_sure_6 rfl, ⟨1, s_istore_n dX5_sure_7 rfl (by decide), rfl⟩⟩⟩⟩, t_fall rfl⟩
theorem ok_109_2 : BkOK mi i_109 (bpf P_109) 2 (B_109.getD 2 bk0) := ⟨16, ⟨1, s_iload_n dX5_sure_8 rfl, ⟨1, s_aload_n dX5_sure_9 rfl, ⟨3, s_get (C := RX5) (T := TX5) (N := 12) dX5_sure_10 rfl (by decide) wt_223 uw_X5, ⟨3, s_getN (C := RX0) (T := TX0) (N := 10) dX5_sure_13 rfl (by decide) wt_74 uw_X0, rfl⟩⟩⟩⟩, t_ge dX5_sure_16 (by decide) rfl⟩
theorem ok_109_3 : BkOK mi i_109 (bpf P_109) 3 (B_109.getD 3 bk0) := ⟨21, ⟨1, s_iconst dX5_sure_19 rfl, ⟨1, s_istore_n dX5_sure_20 rfl (by decide), rfl⟩⟩, t_fall rfl⟩
theorem ok_109_4 : BkOK mi i_109 (bpf P_109) 4 (B_109.getD 4 bk0) := ⟨30, ⟨1, s_iload_n dX5_sure_21 rfl, ⟨1, s_aload_n dX5_sure_22 rfl, ⟨3, s_get (C := RX5) (T := TX5) (N := 12) dX5_sure_23 rfl (by decide) wt_223 uw_X5, ⟨3, s_getN (C := RX0) (T := TX0) (N := 10) dX5_sure_26 rfl (by decide) wt_78 uw_X0, ⟨1, s_iload_n dX5_sure_29 rfl, rfl⟩⟩⟩⟩⟩, t_cv rfl mi_62 mok_62 rfl (fun _ => ⟨rfl, by decide +kernel⟩) (fun hs' e => by cases e; intro E n b h; cases h) (fun q fs As rest h hp hA hr => (call_V (i := i_109) (j := i_62) (C := RX2) (T := TX2) (N := 1) dX5_sure_30 mok_62 rfl ⟨by decide, by decide⟩ np_62 rfl rfl wt_661 wt_277 wt_278 hp hA hr rfl).thr (fun _ => True.intro))⟩
theorem ok_109_5 : BkOK mi i_109 (bpf P_109) 5 (B_109.getD 5 bk0) := ⟨33, rfl, t_ge dX5_sure_33 (by decide) rfl⟩
theorem ok_109_6 : BkOK mi i_109 (bpf P_109) 6 (B_109.getD 6 bk0) := ⟨43, ⟨1, s_iload_n dX5_sure_36 rfl, ⟨1, s_aload_n dX5_sure_37 rfl, ⟨3, s_get (C := RX5) (T := TX5) (N := 12) dX5_sure_38 rfl (by decide) wt_225 uw_X5, ⟨1, s_iload_n dX5_sure_41 rfl, ⟨1, s_iload_n dX5_sure_42 rfl, rfl⟩⟩⟩⟩⟩, t_cv rfl mi_58 mok_58 rfl (fun _ => ⟨rfl, by decide +kernel⟩) (fun hs' e => by cases e; intro E n b h; cases h) (fun q fs As rest h hp hA hr => (call_V (i := i_109) (j := i_58) (C := RX1) (T := TX1) (N := 13) dX5_sure_43 mok_58 rfl ⟨by decide, by decide⟩ np_58 rfl rfl wt_961 wt_962 wt_963 hp hA hr rfl).thr (fun _ => True.intro))⟩
theorem ok_109_7 : BkOK mi i_109 (bpf P_109) 7 (B_109.getD 7 bk0) := ⟨46, rfl, t_cs rfl mi_293 mok_293 rfl (fun As rest h hA hr => call_S dX5_sure_46 mok_293 rfl ⟨by decide, by decide⟩ np_293 wt_966 wt_967 hA hr)⟩
theorem ok_109_8 : BkOK mi i_109 (bpf P_109) 8 (B_109.getD 8 bk0) := ⟨50, ⟨1, s_iconst dX5_sure_49 rfl, rfl⟩, t_nei dX5_sure_50 (by decide) rfl⟩
theorem ok_109_9 : BkOK mi i_109 (bpf P_109) 9 (B_109.getD 9 bk0) := ⟨54, ⟨1, s_iconst dX5_sure_53 rfl, rfl⟩, t_go dX5_sure_54 (by decide)⟩
theorem ok_109_10 : BkOK mi i_109 (bpf P_109) 10 (B_109.getD 10 bk0) := ⟨58, ⟨1, s_iconst dX5_sure_57 rfl, rfl⟩, t_fall rfl⟩
theorem ok_109_11 : BkOK mi i_109 (bpf P_109) 11 (B_109.getD 11 bk0) := ⟨63, ⟨1, s_iadd dX5_sure_58, ⟨1, s_istore_n dX5_sure_59 rfl (by decide), ⟨3, s_iinc dX5_sure_60 rfl (by decide), rfl⟩⟩⟩, t_go dX5_sure_63 (by decide)⟩
theorem ok_109_12 : BkOK mi i_109 (bpf P_109) 12 (B_109.getD 12 bk0) := ⟨69, ⟨3, s_iinc dX5_sure_66 rfl (by decide), rfl⟩, t_go dX5_sure_69 (by decide)⟩
theorem ok_109_13 : BkOK mi i_109 (bpf P_109) 13 (B_109.getD 13 bk0) := ⟨73, ⟨1, s_iload_n dX5_sure_72 rfl, rfl⟩, t_ret dX5_sure_73 rfl⟩
theorem ok_109 : ∀ b, BkOK mi i_109 (bpf P_109) b (B_109.getD b bk0)
  | 0 => ok_109_0
  | 1 => ok_109_1
  | 2 => ok_109_2
  | 3 => ok_109_3
  | 4 => ok_109_4
  | 5 => ok_109_5
  | 6 => ok_109_6
  | 7 => ok_109_7
  | 8 => ok_109_8
  | 9 => ok_109_9
  | 10 => ok_109_10
  | 11 => ok_109_11
  | 12 => ok_109_12
  | 13 => ok_109_13
  | b + 14 => bk_none mi i_109 (bpf P_109) (b + 14)
theorem ok_110_0 : BkOK mi i_110 (bpf P_110) 0 (B_110.getD 0 bk0) := ⟨1, ⟨1, s_aload_n dX5_mean_0 rfl, rfl⟩, t_cv rfl mi_137 mok_137 rfl (fun _ => ⟨rfl, by decide +kernel⟩) (fun hs' e => by cases e; intro E n b h; cases h) (fun q fs As rest h hp hA hr => (call_V (i := i_110) (j := i_137) (C := RX5) (T := TX5) (N := 12) dX5_mean_1 mok_137 rfl ⟨by decide, by decide⟩ np_137 rfl rfl wt_886 wt_888 ws_8 hp hA hr rfl).thr (fun _ => True.intro))⟩
theorem ok_110_1 : BkOK mi i_110 (bpf P_110) 1 (B_110.getD 1 bk0) := ⟨8, ⟨1, s_aload_n dX5_mean_4 rfl, ⟨3, s_get (C := RX5) (T := TX5) (N := 12) dX5_mean_5 rfl (by decide) wt_223 uw_X5, rfl⟩⟩, t_cv rfl mi_11 mok_11 rfl (fun _ => ⟨rfl, by decide +kernel⟩) (fun hs' e => by cases e; intro E n b h; cases h) (fun q fs As rest h hp hA hr => (call_V (i := i_110) (j := i_11) (C := RX0) (T := TX0) (N := 10) dX5_mean_8 mok_11 rfl ⟨by decide, by decide⟩ np_11 rfl rfl wt_771 wt_772 wt_773 hp hA hr rfl).thr (fun _ => True.intro))⟩
theorem ok_110_2 : BkOK mi i_110 (bpf P_110) 2 (B_110.getD 2 bk0) := ⟨13, ⟨1, s_istore_n dX5_mean_11 rfl (by decide), ⟨1, s_iload_n dX5_mean_12 rfl, rfl⟩⟩, t_ne0 dX5_mean_13 (by decide) rfl⟩
theorem ok_110_3 : BkOK mi i_110 (bpf P_110) 3 (B_110.getD 3 bk0) := ⟨17, ⟨1, s_dconst dX5_mean_16, rfl⟩, t_go dX5_mean_17 (by decide)⟩
theorem ok_110_4 : BkOK mi i_110 (bpf P_110) 4 (B_110.getD 4 bk0) := ⟨31, ⟨1, s_aload_n dX5_mean_20 rfl, ⟨3, s_get (C := RX5) (T := TX5) (N := 12) dX5_mean_21 rfl (by decide) wt_225 uw_X5, ⟨3, s_getN (C := RX1) (T := TX1) (N := 13) dX5_mean_24 rfl (by decide) wt_129 uw_X1, ⟨1, s_i2d dX5_mean_27, ⟨1, s_iload_n dX5_mean_28 rfl, ⟨1, s_i2d dX5_mean_29, ⟨1, s_ddiv dX5_mean_30, rfl⟩⟩⟩⟩⟩⟩⟩, t_fall rfl⟩
theorem ok_110_5 : BkOK mi i_110 (bpf P_110) 5 (B_110.getD 5 bk0) := ⟨31, rfl, t_retD dX5_mean_31 rfl⟩
theorem ok_110 : ∀ b, BkOK mi i_110 (bpf P_110) b (B_110.getD b bk0)
  | 0 => ok_110_0
  | 1 => ok_110_1
  | 2 => ok_110_2
  | 3 => ok_110_3
  | 4 => ok_110_4
  | 5 => ok_110_5
  | b + 6 => bk_none mi i_110 (bpf P_110) (b + 6)
theorem ok_111_0 : BkOK mi i_111 (bpf P_111) 0 (B_111.getD 0 bk0) := ⟨12, ⟨1, s_aload_n dX5_costOfTold_0 rfl, ⟨3, s_get (C := RX5) (T := TX5) (N := 12) dX5_costOfTold_1 rfl (by decide) wt_227 uw_X5, ⟨1, s_aload_n dX5_costOfTold_4 rfl, ⟨3, s_get (C := RX5) (T := TX5) (N := 12) dX5_costOfTold_5 rfl (by decide) wt_223 uw_X5, ⟨1, s_aload_n dX5_costOfTold_8 rfl, ⟨3, s_get (C := RX5) (T := TX5) (N := 12) dX5_costOfTold_9 rfl (by decide) wt_228 uw_X5, rfl⟩⟩⟩⟩⟩⟩, t_cv rfl mi_72 mok_72 rfl (fun _ => ⟨rfl, by decide +kernel⟩) (fun hs' e => by cases e; intro E n b h; cases h) (fun q fs As rest h hp hA hr => (call_V (i := i_111) (j := i_72) (C := RX4) (T := TX4) (N := 9) dX5_costOfTold_12 mok_72 rfl ⟨by decide, by decide⟩ np_72 rfl rfl wt_647 wt_648 wt_649 hp hA hr rfl).thr (fun _ => True.intro))⟩
theorem ok_111_1 : BkOK mi i_111 (bpf P_111) 1 (B_111.getD 1 bk0) := ⟨25, ⟨1, s_istore_n dX5_costOfTold_15 rfl (by decide), ⟨1, s_aload_n dX5_costOfTold_16 rfl, ⟨3, s_get (C := RX5) (T := TX5) (N := 12) dX5_costOfTold_17 rfl (by decide) wt_227 uw_X5, ⟨1, s_iconst dX5_costOfTold_20 rfl, ⟨3, s_putN (C := RX4) (T := TX4) (N := 9) tyX4 tyX4_ok nmX4 dX5_costOfTold_21 rfl (by decide) rfl (tyX4_ok 1 (by decide)) wt_179 uw_X4, ⟨1, s_iload_n dX5_costOfTold_24 rfl, rfl⟩⟩⟩⟩⟩⟩, t_ne0 dX5_costOfTold_25 (by decide) rfl⟩
theorem ok_111_2 : BkOK mi i_111 (bpf P_111) 2 (B_111.getD 2 bk0) := ⟨35, ⟨1, s_aload_n dX5_costOfTold_28 rfl, ⟨3, s_get (C := RX5) (T := TX5) (N := 12) dX5_costOfTold_29 rfl (by decide) wt_227 uw_X5, ⟨3, s_getN (C := RX4) (T := TX4) (N := 9) dX5_costOfTold_32 rfl (by decide) wt_181 uw_X4, rfl⟩⟩⟩, t_ret dX5_costOfTold_35 rfl⟩
theorem ok_111_3 : BkOK mi i_111 (bpf P_111) 3 (B_111.getD 3 bk0) := ⟨40, ⟨1, s_iconst dX5_costOfTold_36 rfl, ⟨1, s_istore_n dX5_costOfTold_37 rfl (by decide), ⟨1, s_iconst dX5_costOfTold_38 rfl, ⟨1, s_istore_n dX5_costOfTold_39 rfl (by decide), rfl⟩⟩⟩⟩, t_fall rfl⟩
theorem ok_111_4 : BkOK mi i_111 (bpf P_111) 4 (B_111.getD 4 bk0) := ⟨48, ⟨1, s_iload_n dX5_costOfTold_40 rfl, ⟨1, s_aload_n dX5_costOfTold_41 rfl, ⟨3, s_get (C := RX5) (T := TX5) (N := 12) dX5_costOfTold_42 rfl (by decide) wt_223 uw_X5, ⟨3, s_getN (C := RX0) (T := TX0) (N := 10) dX5_costOfTold_45 rfl (by decide) wt_74 uw_X0, rfl⟩⟩⟩⟩, t_ge dX5_costOfTold_48 (by decide) rfl⟩
theorem ok_111_5 : BkOK mi i_111 (bpf P_111) 5 (B_111.getD 5 bk0) := ⟨53, ⟨1, s_aload_n dX5_costOfTold_51 rfl, ⟨1, s_iload_n dX5_costOfTold_52 rfl, rfl⟩⟩, t_cv rfl mi_139 mok_139 rfl (fun _ => ⟨rfl, by decide +kernel⟩) (fun hs' e => by cases e; intro E n b h; cases h) (fun q fs As rest h hp hA hr => (call_V (i := i_111) (j := i_139) (C := RX5) (T := TX5) (N := 12) dX5_costOfTold_53 mok_139 rfl ⟨by decide, by decide⟩ np_139 rfl rfl wt_651 wt_653 ws_1 hp hA hr rfl).thr (fun _ => True.intro))⟩
theorem ok_111_6 : BkOK mi i_111 (bpf P_111) 6 (B_111.getD 6 bk0) := ⟨58, ⟨1, s_aload_n dX5_costOfTold_56 rfl, ⟨1, s_iload_n dX5_costOfTold_57 rfl, rfl⟩⟩, t_cv rfl mi_140 mok_140 rfl (fun _ => ⟨rfl, by decide +kernel⟩) (fun hs' e => by cases e; intro E n b h; cases h) (fun q fs As rest h hp hA hr => (call_V (i := i_111) (j := i_140) (C := RX5) (T := TX5) (N := 12) dX5_costOfTold_58 mok_140 rfl ⟨by decide, by decide⟩ np_140 rfl rfl wt_657 wt_659 ws_2 hp hA hr rfl).thr (fun _ => True.intro))⟩
theorem ok_111_7 : BkOK mi i_111 (bpf P_111) 7 (B_111.getD 7 bk0) := ⟨61, rfl, t_cs rfl mi_148 mok_148 rfl (fun As rest h hA hr => call_S dX5_costOfTold_61 mok_148 rfl ⟨by decide, by decide⟩ np_148 wt_663 wt_573 hA hr)⟩
theorem ok_111_8 : BkOK mi i_111 (bpf P_111) 8 (B_111.getD 8 bk0) := ⟨69, ⟨2, s_istore dX5_costOfTold_64 (by decide), ⟨2, s_iload dX5_costOfTold_66, ⟨1, s_iconst dX5_costOfTold_68 rfl, rfl⟩⟩⟩, t_nei dX5_costOfTold_69 (by decide) rfl⟩
theorem ok_111_9 : BkOK mi i_111 (bpf P_111) 9 (B_111.getD 9 bk0) := ⟨74, ⟨2, s_bipush dX5_costOfTold_72 rfl, rfl⟩, t_ret dX5_costOfTold_74 rfl⟩
theorem ok_111_10 : BkOK mi i_111 (bpf P_111) 10 (B_111.getD 10 bk0) := ⟨83, ⟨1, s_iload_n dX5_costOfTold_75 rfl, ⟨2, s_iload dX5_costOfTold_76, ⟨1, s_iadd dX5_costOfTold_78, ⟨1, s_istore_n dX5_costOfTold_79 rfl (by decide), ⟨3, s_iinc dX5_costOfTold_80 rfl (by decide), rfl⟩⟩⟩⟩⟩, t_go dX5_costOfTold_83 (by decide)⟩
theorem ok_111_11 : BkOK mi i_111 (bpf P_111) 11 (B_111.getD 11 bk0) := ⟨87, ⟨1, s_iload_n dX5_costOfTold_86 rfl, rfl⟩, t_ret dX5_costOfTold_87 rfl⟩
theorem ok_111 : ∀ b, BkOK mi i_111 (bpf P_111) b (B_111.getD b bk0)
  | 0 => ok_111_0
  | 1 => ok_111_1
  | 2 => ok_111_2
  | 3 => ok_111_3
  | 4 => ok_111_4
  | 5 => ok_111_5
  | 6 => ok_111_6
  | 7 => ok_111_7
  | 8 => ok_111_8
  | 9 => ok_111_9
  | 10 => ok_111_10
  | 11 => ok_111_11
  | b + 12 => bk_none mi i_111 (bpf P_111) (b + 12)
theorem ok_112_0 : BkOK mi i_112 (bpf P_112) 0 (B_112.getD 0 bk0) := ⟨12, ⟨1, s_aload_n dX5_faultOfTold_0 rfl, ⟨3, s_get (C := RX5) (T := TX5) (N := 12) dX5_faultOfTold_1 rfl (by decide) wt_227 uw_X5, ⟨1, s_aload_n dX5_faultOfTold_4 rfl, ⟨3, s_get (C := RX5) (T := TX5) (N := 12) dX5_faultOfTold_5 rfl (by decide) wt_223 uw_X5, ⟨1, s_aload_n dX5_faultOfTold_8 rfl, ⟨3, s_get (C := RX5) (T := TX5) (N := 12) dX5_faultOfTold_9 rfl (by decide) wt_228 uw_X5, rfl⟩⟩⟩⟩⟩⟩, t_cv rfl mi_72 mok_72 rfl (fun _ => ⟨rfl, by decide +kernel⟩) (fun hs' e => by cases e; intro E n b h; cases h) (fun q fs As rest h hp hA hr => (call_V (i := i_112) (j := i_72) (C := RX4) (T := TX4) (N := 9) dX5_faultOfTold_12 mok_72 rfl ⟨by decide, by decide⟩ np_72 rfl rfl wt_647 wt_648 wt_649 hp hA hr rfl).thr (fun _ => True.intro))⟩
theorem ok_112_1 : BkOK mi i_112 (bpf P_112) 1 (B_112.getD 1 bk0) := ⟨25, ⟨1, s_istore_n dX5_faultOfTold_15 rfl (by decide), ⟨1, s_aload_n dX5_faultOfTold_16 rfl, ⟨3, s_get (C := RX5) (T := TX5) (N := 12) dX5_faultOfTold_17 rfl (by decide) wt_227 uw_X5, ⟨1, s_iconst dX5_faultOfTold_20 rfl, ⟨3, s_putN (C := RX4) (T := TX4) (N := 9) tyX4 tyX4_ok nmX4 dX5_faultOfTold_21 rfl (by decide) rfl (tyX4_ok 1 (by decide)) wt_179 uw_X4, ⟨1, s_iload_n dX5_faultOfTold_24 rfl, rfl⟩⟩⟩⟩⟩⟩, t_ne0 dX5_faultOfTold_25 (by decide) rfl⟩
theorem ok_112_2 : BkOK mi i_112 (bpf P_112) 2 (B_112.getD 2 bk0) := ⟨35, ⟨1, s_aload_n dX5_faultOfTold_28 rfl, ⟨3, s_get (C := RX5) (T := TX5) (N := 12) dX5_faultOfTold_29 rfl (by decide) wt_227 uw_X5, ⟨3, s_getN (C := RX4) (T := TX4) (N := 9) dX5_faultOfTold_32 rfl (by decide) wt_181 uw_X4, rfl⟩⟩⟩, t_ret dX5_faultOfTold_35 rfl⟩
theorem ok_112_3 : BkOK mi i_112 (bpf P_112) 3 (B_112.getD 3 bk0) := ⟨38, ⟨1, s_iconst dX5_faultOfTold_36 rfl, ⟨1, s_istore_n dX5_faultOfTold_37 rfl (by decide), rfl⟩⟩, t_fall rfl⟩
theorem ok_112_4 : BkOK mi i_112 (bpf P_112) 4 (B_112.getD 4 bk0) := ⟨46, ⟨1, s_iload_n dX5_faultOfTold_38 rfl, ⟨1, s_aload_n dX5_faultOfTold_39 rfl, ⟨3, s_get (C := RX5) (T := TX5) (N := 12) dX5_faultOfTold_40 rfl (by decide) wt_223 uw_X5, ⟨3, s_getN (C := RX0) (T := TX0) (N := 10) dX5_faultOfTold_43 rfl (by decide) wt_74 uw_X0, rfl⟩⟩⟩⟩, t_ge dX5_faultOfTold_46 (by decide) rfl⟩
theorem ok_112_5 : BkOK mi i_112 (bpf P_112) 5 (B_112.getD 5 bk0) := ⟨51, ⟨1, s_aload_n dX5_faultOfTold_49 rfl, ⟨1, s_iload_n dX5_faultOfTold_50 rfl, rfl⟩⟩, t_cv rfl mi_139 mok_139 rfl (fun _ => ⟨rfl, by decide +kernel⟩) (fun hs' e => by cases e; intro E n b h; cases h) (fun q fs As rest h hp hA hr => (call_V (i := i_112) (j := i_139) (C := RX5) (T := TX5) (N := 12) dX5_faultOfTold_51 mok_139 rfl ⟨by decide, by decide⟩ np_139 rfl rfl wt_651 wt_653 ws_1 hp hA hr rfl).thr (fun _ => True.intro))⟩
theorem ok_112_6 : BkOK mi i_112 (bpf P_112) 6 (B_112.getD 6 bk0) := ⟨55, ⟨1, s_iconst dX5_faultOfTold_54 rfl, rfl⟩, t_nei dX5_faultOfTold_55 (by decide) rfl⟩
theorem ok_112_7 : BkOK mi i_112 (bpf P_112) 7 (B_112.getD 7 bk0) := ⟨64, ⟨2, s_bipush dX5_faultOfTold_58 rfl, ⟨1, s_iload_n dX5_faultOfTold_60 rfl, ⟨1, s_imul dX5_faultOfTold_61, ⟨1, s_iconst dX5_faultOfTold_62 rfl, ⟨1, s_iadd dX5_faultOfTold_63, rfl⟩⟩⟩⟩⟩, t_ret dX5_faultOfTold_64 rfl⟩
theorem ok_112_8 : BkOK mi i_112 (bpf P_112) 8 (B_112.getD 8 bk0) := ⟨67, ⟨1, s_aload_n dX5_faultOfTold_65 rfl, ⟨1, s_iload_n dX5_faultOfTold_66 rfl, rfl⟩⟩, t_cv rfl mi_140 mok_140 rfl (fun _ => ⟨rfl, by decide +kernel⟩) (fun hs' e => by cases e; intro E n b h; cases h) (fun q fs As rest h hp hA hr => (call_V (i := i_112) (j := i_140) (C := RX5) (T := TX5) (N := 12) dX5_faultOfTold_67 mok_140 rfl ⟨by decide, by decide⟩ np_140 rfl rfl wt_657 wt_659 ws_2 hp hA hr rfl).thr (fun _ => True.intro))⟩
theorem ok_112_9 : BkOK mi i_112 (bpf P_112) 9 (B_112.getD 9 bk0) := ⟨71, ⟨1, s_iconst dX5_faultOfTold_70 rfl, rfl⟩, t_nei dX5_faultOfTold_71 (by decide) rfl⟩
theorem ok_112_10 : BkOK mi i_112 (bpf P_112) 10 (B_112.getD 10 bk0) := ⟨80, ⟨2, s_bipush dX5_faultOfTold_74 rfl, ⟨1, s_iload_n dX5_faultOfTold_76 rfl, ⟨1, s_imul dX5_faultOfTold_77, ⟨1, s_iconst dX5_faultOfTold_78 rfl, ⟨1, s_iadd dX5_faultOfTold_79, rfl⟩⟩⟩⟩⟩, t_ret dX5_faultOfTold_80 rfl⟩
theorem ok_112_11 : BkOK mi i_112 (bpf P_112) 11 (B_112.getD 11 bk0) := ⟨84, ⟨3, s_iinc dX5_faultOfTold_81 rfl (by decide), rfl⟩, t_go dX5_faultOfTold_84 (by decide)⟩
theorem ok_112_12 : BkOK mi i_112 (bpf P_112) 12 (B_112.getD 12 bk0) := ⟨89, ⟨2, s_bipush dX5_faultOfTold_87 rfl, rfl⟩, t_ret dX5_faultOfTold_89 rfl⟩
theorem ok_112 : ∀ b, BkOK mi i_112 (bpf P_112) b (B_112.getD b bk0)
  | 0 => ok_112_0
  | 1 => ok_112_1
  | 2 => ok_112_2
  | 3 => ok_112_3
  | 4 => ok_112_4
  | 5 => ok_112_5
  | 6 => ok_112_6
  | 7 => ok_112_7
  | 8 => ok_112_8
  | 9 => ok_112_9
  | 10 => ok_112_10
  | 11 => ok_112_11
  | 12 => ok_112_12
  | b + 13 => bk_none mi i_112 (bpf P_112) (b + 13)
theorem ok_113_0 : BkOK mi i_113 (bpf P_113) 0 (B_113.getD 0 bk0) := ⟨8, ⟨1, s_aload_n dX5_otherHand_0 rfl, ⟨3, s_get (C := RX5) (T := TX5) (N := 12) dX5_otherHand_1 rfl (by decide) wt_224 uw_X5, ⟨1, s_aload_n dX5_otherHand_4 rfl, ⟨3, s_get (C := RX5) (T := TX5) (N := 12) dX5_otherHand_5 rfl (by decide) wt_223 uw_X5, rfl⟩⟩⟩⟩, t_cv rfl mi_2 mok_2 rfl (fun _ => ⟨rfl, by decide +kernel⟩) (fun hs' e => by cases e; intro E n b h; cases h) (fun q fs As rest h hp hA hr => (call_V (i := i_113) (j := i_2) (C := RX0) (T := TX0) (N := 10) dX5_otherHand_8 mok_2 rfl ⟨by decide, by decide⟩ np_2 rfl rfl wt_469 wt_454 wt_455 hp hA hr rfl).thr (fun _ => True.intro))⟩
theorem ok_113_1 : BkOK mi i_113 (bpf P_113) 1 (B_113.getD 1 bk0) := ⟨22, ⟨1, s_aload_n dX5_otherHand_11 rfl, ⟨3, s_get (C := RX5) (T := TX5) (N := 12) dX5_otherHand_12 rfl (by decide) wt_224 uw_X5, ⟨1, s_aload_n dX5_otherHand_15 rfl, ⟨3, s_get (C := RX5) (T := TX5) (N := 12) dX5_otherHand_16 rfl (by decide) wt_223 uw_X5, ⟨3, s_getN (C := RX0) (T := TX0) (N := 10) dX5_otherHand_19 rfl (by decide) wt_71 uw_X0, rfl⟩⟩⟩⟩⟩, t_ne0 dX5_otherHand_22 (by decide) rfl⟩
theorem ok_113_2 : BkOK mi i_113 (bpf P_113) 2 (B_113.getD 2 bk0) := ⟨26, ⟨1, s_iconst dX5_otherHand_25 rfl, rfl⟩, t_go dX5_otherHand_26 (by decide)⟩
theorem ok_113_3 : BkOK mi i_113 (bpf P_113) 3 (B_113.getD 3 bk0) := ⟨30, ⟨1, s_iconst dX5_otherHand_29 rfl, rfl⟩, t_fall rfl⟩
theorem ok_113_4 : BkOK mi i_113 (bpf P_113) 4 (B_113.getD 4 bk0) := ⟨37, ⟨3, s_putN (C := RX0) (T := TX0) (N := 10) tyX0 tyX0_ok nmX0 dX5_otherHand_30 rfl (by decide) rfl (tyX0_ok 0 (by decide)) wt_71 uw_X0, ⟨1, s_aload_n dX5_otherHand_33 rfl, ⟨3, s_get (C := RX5) (T := TX5) (N := 12) dX5_otherHand_34 rfl (by decide) wt_226 uw_X5, rfl⟩⟩⟩, t_cv rfl mi_29 mok_29 rfl (fun _ => ⟨rfl, by decide +kernel⟩) (fun hs' e => by cases e; intro E n b h; cases h) (fun q fs As rest h hp hA hr => (call_V (i := i_113) (j := i_29) (C := RX1) (T := TX1) (N := 13) dX5_otherHand_37 mok_29 rfl ⟨by decide, by decide⟩ np_29 rfl rfl wt_465 wt_466 wt_467 hp hA hr rfl).thr (fun _ => True.intro))⟩
theorem ok_113_5 : BkOK mi i_113 (bpf P_113) 5 (B_113.getD 5 bk0) := ⟨48, ⟨1, s_aload_n dX5_otherHand_40 rfl, ⟨3, s_get (C := RX5) (T := TX5) (N := 12) dX5_otherHand_41 rfl (by decide) wt_226 uw_X5, ⟨1, s_aload_n dX5_otherHand_44 rfl, ⟨3, s_get (C := RX5) (T := TX5) (N := 12) dX5_otherHand_45 rfl (by decide) wt_224 uw_X5, rfl⟩⟩⟩⟩, t_cv rfl mi_30 mok_30 rfl (fun _ => ⟨rfl, by decide +kernel⟩) (fun hs' e => by cases e; intro E n b h; cases h) (fun q fs As rest h hp hA hr => (call_V (i := i_113) (j := i_30) (C := RX1) (T := TX1) (N := 13) dX5_otherHand_48 mok_30 rfl ⟨by decide, by decide⟩ np_30 rfl rfl wt_479 wt_480 wt_481 hp hA hr rfl).thr (fun _ => True.intro))⟩
theorem ok_113_6 : BkOK mi i_113 (bpf P_113) 6 (B_113.getD 6 bk0) := ⟨58, ⟨1, s_aload_n dX5_otherHand_51 rfl, ⟨3, s_get (C := RX5) (T := TX5) (N := 12) dX5_otherHand_52 rfl (by decide) wt_226 uw_X5, ⟨3, s_getN (C := RX1) (T := TX1) (N := 13) dX5_otherHand_55 rfl (by decide) wt_129 uw_X1, rfl⟩⟩⟩, t_ret dX5_otherHand_58 rfl⟩
theorem ok_113 : ∀ b, BkOK mi i_113 (bpf P_113) b (B_113.getD b bk0)
  | 0 => ok_113_0
  | 1 => ok_113_1
  | 2 => ok_113_2
  | 3 => ok_113_3
  | 4 => ok_113_4
  | 5 => ok_113_5
  | 6 => ok_113_6
  | b + 7 => bk_none mi i_113 (bpf P_113) (b + 7)
theorem ok_114_0 : BkOK mi i_114 (bpf P_114) 0 (B_114.getD 0 bk0) := ⟨2, ⟨1, s_aload_n dX5_transposed_0 rfl, ⟨1, s_iload_n dX5_transposed_1 rfl, rfl⟩⟩, t_cv rfl mi_136 mok_136 rfl (fun _ => ⟨rfl, by decide +kernel⟩) (fun hs' e => by cases e; intro E n b h; cases h) (fun q fs As rest h hp hA hr => (call_V (i := i_114) (j := i_136) (C := RX5) (T := TX5) (N := 12) dX5_transposed_2 mok_136 rfl ⟨by decide, by decide⟩ np_136 rfl rfl wt_986 wt_988 ws_9 hp hA hr rfl).thr (fun _ => True.intro))⟩
theorem ok_114_1 : BkOK mi i_114 (bpf P_114) 1 (B_114.getD 1 bk0) := ⟨13, ⟨1, s_aload_n dX5_transposed_5 rfl, ⟨3, s_get (C := RX5) (T := TX5) (N := 12) dX5_transposed_6 rfl (by decide) wt_225 uw_X5, ⟨1, s_aload_n dX5_transposed_9 rfl, ⟨3, s_get (C := RX5) (T := TX5) (N := 12) dX5_transposed_10 rfl (by decide) wt_223 uw_X5, rfl⟩⟩⟩⟩, t_cv rfl mi_30 mok_30 rfl (fun _ => ⟨rfl, by decide +kernel⟩) (fun hs' e => by cases e; intro E n b h; cases h) (fun q fs As rest h hp hA hr => (call_V (i := i_114) (j := i_30) (C := RX1) (T := TX1) (N := 13) dX5_transposed_13 mok_30 rfl ⟨by decide, by decide⟩ np_30 rfl rfl wt_479 wt_480 wt_481 hp hA hr rfl).thr (fun _ => True.intro))⟩
theorem ok_114_2 : BkOK mi i_114 (bpf P_114) 2 (B_114.getD 2 bk0) := ⟨25, ⟨1, s_aload_n dX5_transposed_16 rfl, ⟨3, s_get (C := RX5) (T := TX5) (N := 12) dX5_transposed_17 rfl (by decide) wt_225 uw_X5, ⟨1, s_aload_n dX5_transposed_20 rfl, ⟨3, s_get (C := RX5) (T := TX5) (N := 12) dX5_transposed_21 rfl (by decide) wt_223 uw_X5, ⟨1, s_iload_n dX5_transposed_24 rfl, rfl⟩⟩⟩⟩⟩, t_cv rfl mi_59 mok_59 rfl (fun _ => ⟨rfl, by decide +kernel⟩) (fun hs' e => by cases e; intro E n b h; cases h) (fun q fs As rest h hp hA hr => (call_V (i := i_114) (j := i_59) (C := RX1) (T := TX1) (N := 13) dX5_transposed_25 mok_59 rfl ⟨by decide, by decide⟩ np_59 rfl rfl wt_996 wt_997 wt_998 hp hA hr rfl).thr (fun _ => True.intro))⟩
theorem ok_114_3 : BkOK mi i_114 (bpf P_114) 3 (B_114.getD 3 bk0) := ⟨28, rfl, t_ret dX5_transposed_28 rfl⟩
theorem ok_114 : ∀ b, BkOK mi i_114 (bpf P_114) b (B_114.getD b bk0)
  | 0 => ok_114_0
  | 1 => ok_114_1
  | 2 => ok_114_2
  | 3 => ok_114_3
  | b + 4 => bk_none mi i_114 (bpf P_114) (b + 4)
theorem ok_115_0 : BkOK mi i_115 (bpf P_115) 0 (B_115.getD 0 bk0) := ⟨4, ⟨1, s_iload_n dX5_easiest_0 rfl, ⟨1, s_iconst dX5_easiest_1 rfl, ⟨2, s_bipush dX5_easiest_2 rfl, rfl⟩⟩⟩, t_cs rfl mi_142 mok_142 rfl (fun As rest h hA hr => call_S dX5_easiest_4 mok_142 rfl ⟨by decide, by decide⟩ np_142 wt_819 wt_285 hA hr)⟩
theorem ok_115_1 : BkOK mi i_115 (bpf P_115) 1 (B_115.getD 1 bk0) := ⟨7, rfl, t_ne0 dX5_easiest_7 (by decide) rfl⟩
theorem ok_115_2 : BkOK mi i_115 (bpf P_115) 2 (B_115.getD 2 bk0) := ⟨10, rfl, t_thr ⟨121, 123, ["java/lang/RuntimeException", "java/lang/Exception"], dX5_easiest_10, dX5_easiest_13, dX5_easiest_14, dX5_easiest_17, thr_1.1, thr_1.2.1, thr_1.2.2, by decide, by decide⟩⟩
theorem ok_115_3 : BkOK mi i_115 (bpf P_115) 3 (B_115.getD 3 bk0) := ⟨19, ⟨1, s_aload_n dX5_easiest_18 rfl, rfl⟩, t_cv rfl mi_137 mok_137 rfl (fun _ => ⟨rfl, by decide +kernel⟩) (fun hs' e => by cases e; intro E n b h; cases h) (fun q fs As rest h hp hA hr => (call_V (i := i_115) (j := i_137) (C := RX5) (T := TX5) (N := 12) dX5_easiest_19 mok_137 rfl ⟨by decide, by decide⟩ np_137 rfl rfl wt_886 wt_888 ws_8 hp hA hr rfl).thr (fun _ => True.intro))⟩
theorem ok_115_4 : BkOK mi i_115 (bpf P_115) 4 (B_115.getD 4 bk0) := ⟨35, ⟨1, s_iconst dX5_easiest_22 rfl, ⟨1, s_istore_n dX5_easiest_23 rfl (by decide), ⟨1, s_aload_n dX5_easiest_24 rfl, ⟨3, s_get (C := RX5) (T := TX5) (N := 12) dX5_easiest_25 rfl (by decide) wt_225 uw_X5, ⟨3, s_getN (C := RX1) (T := TX1) (N := 13) dX5_easiest_28 rfl (by decide) wt_129 uw_X1, ⟨1, s_istore_n dX5_easiest_31 rfl (by decide), ⟨1, s_iconst dX5_easiest_32 rfl, ⟨2, s_istore dX5_easiest_33 (by decide), rfl⟩⟩⟩⟩⟩⟩⟩⟩, t_fall rfl⟩
theorem ok_115_5 : BkOK mi i_115 (bpf P_115) 5 (B_115.getD 5 bk0) := ⟨38, ⟨2, s_iload dX5_easiest_35, ⟨1, s_iload_n dX5_easiest_37 rfl, rfl⟩⟩, t_gt dX5_easiest_38 (by decide) rfl⟩
theorem ok_115_6 : BkOK mi i_115 (bpf P_115) 6 (B_115.getD 6 bk0) := ⟨46, ⟨2, s_iload dX5_easiest_41, ⟨1, s_ineg dX5_easiest_43, ⟨2, s_istore dX5_easiest_44 (by decide), rfl⟩⟩⟩, t_fall rfl⟩
theorem ok_115_7 : BkOK mi i_115 (bpf P_115) 7 (B_115.getD 7 bk0) := ⟨50, ⟨2, s_iload dX5_easiest_46, ⟨2, s_iload dX5_easiest_48, rfl⟩⟩, t_gt dX5_easiest_50 (by decide) rfl⟩
theorem ok_115_8 : BkOK mi i_115 (bpf P_115) 8 (B_115.getD 8 bk0) := ⟨59, ⟨1, s_aload_n dX5_easiest_53 rfl, ⟨3, s_get (C := RX5) (T := TX5) (N := 12) dX5_easiest_54 rfl (by decide) wt_223 uw_X5, ⟨2, s_iload dX5_easiest_57, rfl⟩⟩⟩, t_cv rfl mi_8 mok_8 rfl (fun _ => ⟨rfl, by decide +kernel⟩) (fun hs' e => by cases e; intro E n b h; cases h) (fun q fs As rest h hp hA hr => (call_V (i := i_115) (j := i_8) (C := RX0) (T := TX0) (N := 10) dX5_easiest_59 mok_8 rfl ⟨by decide, by decide⟩ np_8 rfl rfl wt_990 wt_991 wt_992 hp hA hr rfl).thr (fun _ => True.intro))⟩
theorem ok_115_9 : BkOK mi i_115 (bpf P_115) 9 (B_115.getD 9 bk0) := ⟨62, rfl, t_eq0 dX5_easiest_62 (by decide) rfl⟩
theorem ok_115_10 : BkOK mi i_115 (bpf P_115) 10 (B_115.getD 10 bk0) := ⟨75, ⟨1, s_aload_n dX5_easiest_65 rfl, ⟨3, s_get (C := RX5) (T := TX5) (N := 12) dX5_easiest_66 rfl (by decide) wt_225 uw_X5, ⟨1, s_aload_n dX5_easiest_69 rfl, ⟨3, s_get (C := RX5) (T := TX5) (N := 12) dX5_easiest_70 rfl (by decide) wt_223 uw_X5, ⟨2, s_iload dX5_easiest_73, rfl⟩⟩⟩⟩⟩, t_cv rfl mi_59 mok_59 rfl (fun _ => ⟨rfl, by decide +kernel⟩) (fun hs' e => by cases e; intro E n b h; cases h) (fun q fs As rest h hp hA hr => (call_V (i := i_115) (j := i_59) (C := RX1) (T := TX1) (N := 13) dX5_easiest_75 mok_59 rfl ⟨by decide, by decide⟩ np_59 rfl rfl wt_996 wt_997 wt_998 hp hA hr rfl).thr (fun _ => True.intro))⟩
theorem ok_115_11 : BkOK mi i_115 (bpf P_115) 11 (B_115.getD 11 bk0) := ⟨79, ⟨1, s_iload_n dX5_easiest_78 rfl, rfl⟩, t_ge dX5_easiest_79 (by decide) rfl⟩
theorem ok_115_12 : BkOK mi i_115 (bpf P_115) 12 (B_115.getD 12 bk0) := ⟨95, ⟨2, s_iload dX5_easiest_82, ⟨1, s_istore_n dX5_easiest_84 rfl (by decide), ⟨1, s_aload_n dX5_easiest_85 rfl, ⟨3, s_get (C := RX5) (T := TX5) (N := 12) dX5_easiest_86 rfl (by decide) wt_225 uw_X5, ⟨1, s_aload_n dX5_easiest_89 rfl, ⟨3, s_get (C := RX5) (T := TX5) (N := 12) dX5_easiest_90 rfl (by decide) wt_223 uw_X5, ⟨2, s_iload dX5_easiest_93, rfl⟩⟩⟩⟩⟩⟩⟩, t_cv rfl mi_59 mok_59 rfl (fun _ => ⟨rfl, by decide +kernel⟩) (fun hs' e => by cases e; intro E n b h; cases h) (fun q fs As rest h hp hA hr => (call_V (i := i_115) (j := i_59) (C := RX1) (T := TX1) (N := 13) dX5_easiest_95 mok_59 rfl ⟨by decide, by decide⟩ np_59 rfl rfl wt_996 wt_997 wt_998 hp hA hr rfl).thr (fun _ => True.intro))⟩
theorem ok_115_13 : BkOK mi i_115 (bpf P_115) 13 (B_115.getD 13 bk0) := ⟨99, ⟨1, s_istore_n dX5_easiest_98 rfl (by decide), rfl⟩, t_fall rfl⟩
theorem ok_115_14 : BkOK mi i_115 (bpf P_115) 14 (B_115.getD 14 bk0) := ⟨108, ⟨2, s_iload dX5_easiest_99, ⟨1, s_iconst dX5_easiest_101 rfl, ⟨2, s_iload dX5_easiest_102, ⟨1, s_imul dX5_easiest_104, ⟨1, s_iadd dX5_easiest_105, ⟨2, s_istore dX5_easiest_106 (by decide), rfl⟩⟩⟩⟩⟩⟩, t_go dX5_easiest_108 (by decide)⟩
theorem ok_115_15 : BkOK mi i_115 (bpf P_115) 15 (B_115.getD 15 bk0) := ⟨114, ⟨3, s_iinc dX5_easiest_111 rfl (by decide), rfl⟩, t_go dX5_easiest_114 (by decide)⟩
theorem ok_115_16 : BkOK mi i_115 (bpf P_115) 16 (B_115.getD 16 bk0) := ⟨118, ⟨1, s_iload_n dX5_easiest_117 rfl, rfl⟩, t_ret dX5_easiest_118 rfl⟩
theorem ok_115 : ∀ b, BkOK mi i_115 (bpf P_115) b (B_115.getD b bk0)
  | 0 => ok_115_0
  | 1 => ok_115_1
  | 2 => ok_115_2
  | 3 => ok_115_3
  | 4 => ok_115_4
  | 5 => ok_115_5
  | 6 => ok_115_6
  | 7 => ok_115_7
  | 8 => ok_115_8
  | 9 => ok_115_9
  | 10 => ok_115_10
  | 11 => ok_115_11
  | 12 => ok_115_12
  | 13 => ok_115_13
  | 14 => ok_115_14
  | 15 => ok_115_15
  | 16 => ok_115_16
  | b + 17 => bk_none mi i_115 (bpf P_115) (b + 17)
theorem ok_116_0 : BkOK mi i_116 (bpf P_116) 0 (B_116.getD 0 bk0) := ⟨8, ⟨1, s_aload_n dX5_restBehind_0 rfl, ⟨3, s_get (C := RX5) (T := TX5) (N := 12) dX5_restBehind_1 rfl (by decide) wt_225 uw_X5, ⟨1, s_aload_n dX5_restBehind_4 rfl, ⟨3, s_get (C := RX5) (T := TX5) (N := 12) dX5_restBehind_5 rfl (by decide) wt_223 uw_X5, rfl⟩⟩⟩⟩, t_cv rfl mi_30 mok_30 rfl (fun _ => ⟨rfl, by decide +kernel⟩) (fun hs' e => by cases e; intro E n b h; cases h) (fun q fs As rest h hp hA hr => (call_V (i := i_116) (j := i_30) (C := RX1) (T := TX1) (N := 13) dX5_restBehind_8 mok_30 rfl ⟨by decide, by decide⟩ np_30 rfl rfl wt_479 wt_480 wt_481 hp hA hr rfl).thr (fun _ => True.intro))⟩
theorem ok_116_1 : BkOK mi i_116 (bpf P_116) 1 (B_116.getD 1 bk0) := ⟨23, ⟨1, s_iconst dX5_restBehind_11 rfl, ⟨1, s_istore_n dX5_restBehind_12 rfl (by decide), ⟨1, s_aload_n dX5_restBehind_13 rfl, ⟨3, s_get (C := RX5) (T := TX5) (N := 12) dX5_restBehind_14 rfl (by decide) wt_225 uw_X5, ⟨3, s_getN (C := RX1) (T := TX1) (N := 13) dX5_restBehind_17 rfl (by decide) wt_129 uw_X1, ⟨1, s_istore_n dX5_restBehind_20 rfl (by decide), ⟨1, s_iconst dX5_restBehind_21 rfl, ⟨1, s_istore_n dX5_restBehind_22 rfl (by decide), rfl⟩⟩⟩⟩⟩⟩⟩⟩, t_fall rfl⟩
theorem ok_116_2 : BkOK mi i_116 (bpf P_116) 2 (B_116.getD 2 bk0) := ⟨33, ⟨1, s_iload_n dX5_restBehind_23 rfl, ⟨1, s_aload_n dX5_restBehind_24 rfl, ⟨3, s_get (C := RX5) (T := TX5) (N := 12) dX5_restBehind_25 rfl (by decide) wt_223 uw_X5, ⟨3, s_getN (C := RX0) (T := TX0) (N := 10) dX5_restBehind_28 rfl (by decide) wt_74 uw_X0, ⟨1, s_iconst dX5_restBehind_31 rfl, ⟨1, s_isub dX5_restBehind_32, rfl⟩⟩⟩⟩⟩⟩, t_ge dX5_restBehind_33 (by decide) rfl⟩
theorem ok_116_3 : BkOK mi i_116 (bpf P_116) 3 (B_116.getD 3 bk0) := ⟨45, ⟨1, s_aload_n dX5_restBehind_36 rfl, ⟨3, s_get (C := RX5) (T := TX5) (N := 12) dX5_restBehind_37 rfl (by decide) wt_225 uw_X5, ⟨1, s_aload_n dX5_restBehind_40 rfl, ⟨3, s_get (C := RX5) (T := TX5) (N := 12) dX5_restBehind_41 rfl (by decide) wt_223 uw_X5, ⟨1, s_iload_n dX5_restBehind_44 rfl, rfl⟩⟩⟩⟩⟩, t_cv rfl mi_60 mok_60 rfl (fun _ => ⟨rfl, by decide +kernel⟩) (fun hs' e => by cases e; intro E n b h; cases h) (fun q fs As rest h hp hA hr => (call_V (i := i_116) (j := i_60) (C := RX1) (T := TX1) (N := 13) dX5_restBehind_45 mok_60 rfl ⟨by decide, by decide⟩ np_60 rfl rfl wt_676 wt_677 wt_678 hp hA hr rfl).thr (fun _ => True.intro))⟩
theorem ok_116_4 : BkOK mi i_116 (bpf P_116) 4 (B_116.getD 4 bk0) := ⟨53, ⟨2, s_istore dX5_restBehind_48 (by decide), ⟨2, s_iload dX5_restBehind_50, ⟨1, s_iconst dX5_restBehind_52 rfl, rfl⟩⟩⟩, t_eq dX5_restBehind_53 (by decide) rfl⟩
theorem ok_116_5 : BkOK mi i_116 (bpf P_116) 5 (B_116.getD 5 bk0) := ⟨58, ⟨1, s_iload_n dX5_restBehind_56 rfl, ⟨1, s_iconst dX5_restBehind_57 rfl, rfl⟩⟩, t_eq dX5_restBehind_58 (by decide) rfl⟩
theorem ok_116_6 : BkOK mi i_116 (bpf P_116) 6 (B_116.getD 6 bk0) := ⟨64, ⟨2, s_iload dX5_restBehind_61, ⟨1, s_iload_n dX5_restBehind_63 rfl, rfl⟩⟩, t_ge dX5_restBehind_64 (by decide) rfl⟩
theorem ok_116_7 : BkOK mi i_116 (bpf P_116) 7 (B_116.getD 7 bk0) := ⟨72, ⟨1, s_iload_n dX5_restBehind_67 rfl, ⟨1, s_istore_n dX5_restBehind_68 rfl (by decide), ⟨2, s_iload dX5_restBehind_69, ⟨1, s_istore_n dX5_restBehind_71 rfl (by decide), rfl⟩⟩⟩⟩, t_fall rfl⟩
theorem ok_116_8 : BkOK mi i_116 (bpf P_116) 8 (B_116.getD 8 bk0) := ⟨75, ⟨3, s_iinc dX5_restBehind_72 rfl (by decide), rfl⟩, t_go dX5_restBehind_75 (by decide)⟩
theorem ok_116_9 : BkOK mi i_116 (bpf P_116) 9 (B_116.getD 9 bk0) := ⟨79, ⟨1, s_iload_n dX5_restBehind_78 rfl, rfl⟩, t_ret dX5_restBehind_79 rfl⟩
theorem ok_116 : ∀ b, BkOK mi i_116 (bpf P_116) b (B_116.getD b bk0)
  | 0 => ok_116_0
  | 1 => ok_116_1
  | 2 => ok_116_2
  | 3 => ok_116_3
  | 4 => ok_116_4
  | 5 => ok_116_5
  | 6 => ok_116_6
  | 7 => ok_116_7
  | 8 => ok_116_8
  | 9 => ok_116_9
  | b + 10 => bk_none mi i_116 (bpf P_116) (b + 10)
theorem ok_117_0 : BkOK mi i_117 (bpf P_117) 0 (B_117.getD 0 bk0) := ⟨9, ⟨1, s_iload_n dX5_play_0 rfl, ⟨1, s_iconst dX5_play_1 rfl, ⟨1, s_aload_n dX5_play_2 rfl, ⟨3, s_get (C := RX5) (T := TX5) (N := 12) dX5_play_3 rfl (by decide) wt_223 uw_X5, ⟨3, s_getN (C := RX0) (T := TX0) (N := 10) dX5_play_6 rfl (by decide) wt_74 uw_X0, rfl⟩⟩⟩⟩⟩, t_cs rfl mi_142 mok_142 rfl (fun As rest h hA hr => call_S dX5_play_9 mok_142 rfl ⟨by decide, by decide⟩ np_142 wt_819 wt_285 hA hr)⟩
theorem ok_117_1 : BkOK mi i_117 (bpf P_117) 1 (B_117.getD 1 bk0) := ⟨12, rfl, t_ne0 dX5_play_12 (by decide) rfl⟩
theorem ok_117_2 : BkOK mi i_117 (bpf P_117) 2 (B_117.getD 2 bk0) := ⟨15, rfl, t_thr ⟨252, 254, ["java/lang/RuntimeException", "java/lang/Exception"], dX5_play_15, dX5_play_18, dX5_play_19, dX5_play_22, thr_2.1, thr_2.2.1, thr_2.2.2, by decide, by decide⟩⟩
theorem ok_117_3 : BkOK mi i_117 (bpf P_117) 3 (B_117.getD 3 bk0) := ⟨27, ⟨1, s_iload_n dX5_play_23 rfl, ⟨1, s_iload_n dX5_play_24 rfl, ⟨2, s_iload dX5_play_25, rfl⟩⟩⟩, t_cs rfl mi_143 mok_143 rfl (fun As rest h hA hr => call_S dX5_play_27 mok_143 rfl ⟨by decide, by decide⟩ np_143 wt_1017 wt_1018 hA hr)⟩
theorem ok_117_4 : BkOK mi i_117 (bpf P_117) 4 (B_117.getD 4 bk0) := ⟨30, rfl, t_eq0 dX5_play_30 (by decide) rfl⟩
theorem ok_117_5 : BkOK mi i_117 (bpf P_117) 5 (B_117.getD 5 bk0) := ⟨38, ⟨2, s_iload dX5_play_33, ⟨1, s_iconst dX5_play_35 rfl, ⟨2, s_bipush dX5_play_36 rfl, rfl⟩⟩⟩, t_cs rfl mi_142 mok_142 rfl (fun As rest h hA hr => call_S dX5_play_38 mok_142 rfl ⟨by decide, by decide⟩ np_142 wt_819 wt_285 hA hr)⟩
theorem ok_117_6 : BkOK mi i_117 (bpf P_117) 6 (B_117.getD 6 bk0) := ⟨41, rfl, t_ne0 dX5_play_41 (by decide) rfl⟩
theorem ok_117_7 : BkOK mi i_117 (bpf P_117) 7 (B_117.getD 7 bk0) := ⟨44, rfl, t_thr ⟨121, 123, ["java/lang/RuntimeException", "java/lang/Exception"], dX5_play_44, dX5_play_47, dX5_play_48, dX5_play_51, thr_1.1, thr_1.2.1, thr_1.2.2, by decide, by decide⟩⟩
theorem ok_117_8 : BkOK mi i_117 (bpf P_117) 8 (B_117.getD 8 bk0) := ⟨61, ⟨1, s_aload_n dX5_play_52 rfl, ⟨3, s_get (C := RX5) (T := TX5) (N := 12) dX5_play_53 rfl (by decide) wt_223 uw_X5, ⟨3, s_getN (C := RX0) (T := TX0) (N := 10) dX5_play_56 rfl (by decide) wt_74 uw_X0, ⟨2, s_bipush dX5_play_59 rfl, rfl⟩⟩⟩⟩, t_lt dX5_play_61 (by decide) rfl⟩
theorem ok_117_9 : BkOK mi i_117 (bpf P_117) 9 (B_117.getD 9 bk0) := ⟨66, ⟨2, s_bipush dX5_play_64 rfl, rfl⟩, t_ret dX5_play_66 rfl⟩
theorem ok_117_10 : BkOK mi i_117 (bpf P_117) 10 (B_117.getD 10 bk0) := ⟨68, ⟨1, s_aload_n dX5_play_67 rfl, rfl⟩, t_cv rfl mi_138 mok_138 rfl (fun _ => ⟨rfl, by decide +kernel⟩) (fun hs' e => by cases e; intro E n b h; cases h) (fun q fs As rest h hp hA hr => (call_V (i := i_117) (j := i_138) (C := RX5) (T := TX5) (N := 12) dX5_play_68 mok_138 rfl ⟨by decide, by decide⟩ np_138 rfl rfl wt_444 wt_446 ws_0 hp hA hr rfl).thr (fun _ => True.intro))⟩
theorem ok_117_11 : BkOK mi i_117 (bpf P_117) 11 (B_117.getD 11 bk0) := ⟨76, ⟨1, s_aload_n dX5_play_71 rfl, ⟨3, s_get (C := RX5) (T := TX5) (N := 12) dX5_play_72 rfl (by decide) wt_223 uw_X5, ⟨1, s_iload_n dX5_play_75 rfl, rfl⟩⟩⟩, t_cv rfl mi_4 mok_4 rfl (fun _ => ⟨rfl, by decide +kernel⟩) (fun hs' e => by cases e; intro E n b h; cases h) (fun q fs As rest h hp hA hr => (call_V (i := i_117) (j := i_4) (C := RX0) (T := TX0) (N := 10) dX5_play_76 mok_4 rfl ⟨by decide, by decide⟩ np_4 rfl rfl wt_1020 wt_407 wt_408 hp hA hr rfl).thr (fun _ => True.intro))⟩
theorem ok_117_12 : BkOK mi i_117 (bpf P_117) 12 (B_117.getD 12 bk0) := ⟨86, ⟨1, s_aload_n dX5_play_79 rfl, ⟨3, s_get (C := RX5) (T := TX5) (N := 12) dX5_play_80 rfl (by decide) wt_223 uw_X5, ⟨1, s_iload_n dX5_play_83 rfl, ⟨1, s_iconst dX5_play_84 rfl, ⟨1, s_iload_n dX5_play_85 rfl, rfl⟩⟩⟩⟩⟩, t_cv rfl mi_7 mok_7 rfl (fun _ => ⟨rfl, by decide +kernel⟩) (fun hs' e => by cases e; intro E n b h; cases h) (fun q fs As rest h hp hA hr => (call_V (i := i_117) (j := i_7) (C := RX0) (T := TX0) (N := 10) dX5_play_86 mok_7 rfl ⟨by decide, by decide⟩ np_7 rfl rfl wt_1021 wt_423 wt_424 hp hA hr rfl).thr (fun _ => True.intro))⟩
theorem ok_117_13 : BkOK mi i_117 (bpf P_117) 13 (B_117.getD 13 bk0) := ⟨90, ⟨1, s_iload_n dX5_play_89 rfl, rfl⟩, t_eq0 dX5_play_90 (by decide) rfl⟩
theorem ok_117_14 : BkOK mi i_117 (bpf P_117) 14 (B_117.getD 14 bk0) := ⟨100, ⟨1, s_aload_n dX5_play_93 rfl, ⟨3, s_get (C := RX5) (T := TX5) (N := 12) dX5_play_94 rfl (by decide) wt_223 uw_X5, ⟨1, s_iload_n dX5_play_97 rfl, ⟨1, s_iconst dX5_play_98 rfl, ⟨1, s_iload_n dX5_play_99 rfl, rfl⟩⟩⟩⟩⟩, t_cv rfl mi_7 mok_7 rfl (fun _ => ⟨rfl, by decide +kernel⟩) (fun hs' e => by cases e; intro E n b h; cases h) (fun q fs As rest h hp hA hr => (call_V (i := i_117) (j := i_7) (C := RX0) (T := TX0) (N := 10) dX5_play_100 mok_7 rfl ⟨by decide, by decide⟩ np_7 rfl rfl wt_1021 wt_423 wt_424 hp hA hr rfl).thr (fun _ => True.intro))⟩
theorem ok_117_15 : BkOK mi i_117 (bpf P_117) 15 (B_117.getD 15 bk0) := ⟨105, ⟨2, s_iload dX5_play_103, rfl⟩, t_eq0 dX5_play_105 (by decide) rfl⟩
theorem ok_117_16 : BkOK mi i_117 (bpf P_117) 16 (B_117.getD 16 bk0) := ⟨116, ⟨1, s_aload_n dX5_play_108 rfl, ⟨3, s_get (C := RX5) (T := TX5) (N := 12) dX5_play_109 rfl (by decide) wt_223 uw_X5, ⟨1, s_iload_n dX5_play_112 rfl, ⟨1, s_iconst dX5_play_113 rfl, ⟨2, s_iload dX5_play_114, rfl⟩⟩⟩⟩⟩, t_cv rfl mi_7 mok_7 rfl (fun _ => ⟨rfl, by decide +kernel⟩) (fun hs' e => by cases e; intro E n b h; cases h) (fun q fs As rest h hp hA hr => (call_V (i := i_117) (j := i_7) (C := RX0) (T := TX0) (N := 10) dX5_play_116 mok_7 rfl ⟨by decide, by decide⟩ np_7 rfl rfl wt_1021 wt_423 wt_424 hp hA hr rfl).thr (fun _ => True.intro))⟩
theorem ok_117_17 : BkOK mi i_117 (bpf P_117) 17 (B_117.getD 17 bk0) := ⟨129, ⟨1, s_aload_n dX5_play_119 rfl, ⟨3, s_get (C := RX5) (T := TX5) (N := 12) dX5_play_120 rfl (by decide) wt_223 uw_X5, ⟨3, s_getN (C := RX0) (T := TX0) (N := 10) dX5_play_123 rfl (by decide) wt_81 uw_X0, ⟨1, s_iload_n dX5_play_126 rfl, ⟨2, s_iload dX5_play_127, rfl⟩⟩⟩⟩⟩, t_cv rfl mi_63 mok_63 rfl (fun _ => ⟨rfl, by decide +kernel⟩) (fun hs' e => by cases e; intro E n b h; cases h) (fun q fs As rest h hp hA hr => (call_V (i := i_117) (j := i_63) (C := RX2) (T := TX2) (N := 1) dX5_play_129 mok_63 rfl ⟨by decide, by decide⟩ np_63 rfl rfl wt_1022 wt_57 wt_58 hp hA hr rfl).thr (fun _ => True.intro))⟩
theorem ok_117_18 : BkOK mi i_117 (bpf P_117) 18 (B_117.getD 18 bk0) := ⟨139, ⟨1, s_aload_n dX5_play_132 rfl, ⟨3, s_get (C := RX5) (T := TX5) (N := 12) dX5_play_133 rfl (by decide) wt_223 uw_X5, ⟨3, s_getN (C := RX0) (T := TX0) (N := 10) dX5_play_136 rfl (by decide) wt_74 uw_X0, rfl⟩⟩⟩, t_ret dX5_play_139 rfl⟩
theorem ok_117 : ∀ b, BkOK mi i_117 (bpf P_117) b (B_117.getD b bk0)
  | 0 => ok_117_0
  | 1 => ok_117_1
  | 2 => ok_117_2
  | 3 => ok_117_3
  | 4 => ok_117_4
  | 5 => ok_117_5
  | 6 => ok_117_6
  | 7 => ok_117_7
  | 8 => ok_117_8
  | 9 => ok_117_9
  | 10 => ok_117_10
  | 11 => ok_117_11
  | 12 => ok_117_12
  | 13 => ok_117_13
  | 14 => ok_117_14
  | 15 => ok_117_15
  | 16 => ok_117_16
  | 17 => ok_117_17
  | 18 => ok_117_18
  | b + 19 => bk_none mi i_117 (bpf P_117) (b + 19)
theorem ok_118_0 : BkOK mi i_118 (bpf P_118) 0 (B_118.getD 0 bk0) := ⟨2, ⟨1, s_aload_n dX5_drop_0 rfl, ⟨1, s_iload_n dX5_drop_1 rfl, rfl⟩⟩, t_cv rfl mi_131 mok_131 rfl (fun _ => ⟨rfl, by decide +kernel⟩) (fun hs' e => by cases e; intro E n b h; cases h) (fun q fs As rest h hp hA hr => (call_V (i := i_118) (j := i_131) (C := RX5) (T := TX5) (N := 12) dX5_drop_2 mok_131 rfl ⟨by decide, by decide⟩ np_131 rfl rfl wt_815 wt_817 ws_4 hp hA hr rfl).thr (fun _ => True.intro))⟩
theorem ok_118_1 : BkOK mi i_118 (bpf P_118) 1 (B_118.getD 1 bk0) := ⟨6, ⟨1, s_aload_n dX5_drop_5 rfl, rfl⟩, t_cv rfl mi_138 mok_138 rfl (fun _ => ⟨rfl, by decide +kernel⟩) (fun hs' e => by cases e; intro E n b h; cases h) (fun q fs As rest h hp hA hr => (call_V (i := i_118) (j := i_138) (C := RX5) (T := TX5) (N := 12) dX5_drop_6 mok_138 rfl ⟨by decide, by decide⟩ np_138 rfl rfl wt_444 wt_446 ws_0 hp hA hr rfl).thr (fun _ => True.intro))⟩
theorem ok_118_2 : BkOK mi i_118 (bpf P_118) 2 (B_118.getD 2 bk0) := ⟨14, ⟨1, s_aload_n dX5_drop_9 rfl, ⟨3, s_get (C := RX5) (T := TX5) (N := 12) dX5_drop_10 rfl (by decide) wt_223 uw_X5, ⟨1, s_iload_n dX5_drop_13 rfl, rfl⟩⟩⟩, t_cv rfl mi_5 mok_5 rfl (fun _ => ⟨rfl, by decide +kernel⟩) (fun hs' e => by cases e; intro E n b h; cases h) (fun q fs As rest h hp hA hr => (call_V (i := i_118) (j := i_5) (C := RX0) (T := TX0) (N := 10) dX5_drop_14 mok_5 rfl ⟨by decide, by decide⟩ np_5 rfl rfl wt_1030 wt_1031 wt_1032 hp hA hr rfl).thr (fun _ => True.intro))⟩
theorem ok_118_3 : BkOK mi i_118 (bpf P_118) 3 (B_118.getD 3 bk0) := ⟨24, ⟨1, s_aload_n dX5_drop_17 rfl, ⟨3, s_get (C := RX5) (T := TX5) (N := 12) dX5_drop_18 rfl (by decide) wt_223 uw_X5, ⟨3, s_getN (C := RX0) (T := TX0) (N := 10) dX5_drop_21 rfl (by decide) wt_74 uw_X0, rfl⟩⟩⟩, t_ret dX5_drop_24 rfl⟩
theorem ok_118 : ∀ b, BkOK mi i_118 (bpf P_118) b (B_118.getD b bk0)
  | 0 => ok_118_0
  | 1 => ok_118_1
  | 2 => ok_118_2
  | 3 => ok_118_3
  | b + 4 => bk_none mi i_118 (bpf P_118) (b + 4)
theorem ok_119_0 : BkOK mi i_119 (bpf P_119) 0 (B_119.getD 0 bk0) := ⟨2, ⟨1, s_aload_n dX5_setRest_0 rfl, ⟨1, s_iload_n dX5_setRest_1 rfl, rfl⟩⟩, t_cv rfl mi_131 mok_131 rfl (fun _ => ⟨rfl, by decide +kernel⟩) (fun hs' e => by cases e; intro E n b h; cases h) (fun q fs As rest h hp hA hr => (call_V (i := i_119) (j := i_131) (C := RX5) (T := TX5) (N := 12) dX5_setRest_2 mok_131 rfl ⟨by decide, by decide⟩ np_131 rfl rfl wt_815 wt_817 ws_4 hp hA hr rfl).thr (fun _ => True.intro))⟩
theorem ok_119_1 : BkOK mi i_119 (bpf P_119) 1 (B_119.getD 1 bk0) := ⟨9, ⟨1, s_iload_n dX5_setRest_5 rfl, ⟨1, s_iconst dX5_setRest_6 rfl, ⟨2, s_bipush dX5_setRest_7 rfl, rfl⟩⟩⟩, t_cs rfl mi_142 mok_142 rfl (fun As rest h hA hr => call_S dX5_setRest_9 mok_142 rfl ⟨by decide, by decide⟩ np_142 wt_819 wt_285 hA hr)⟩
theorem ok_119_2 : BkOK mi i_119 (bpf P_119) 2 (B_119.getD 2 bk0) := ⟨12, rfl, t_ne0 dX5_setRest_12 (by decide) rfl⟩
theorem ok_119_3 : BkOK mi i_119 (bpf P_119) 3 (B_119.getD 3 bk0) := ⟨15, rfl, t_thr ⟨121, 123, ["java/lang/RuntimeException", "java/lang/Exception"], dX5_setRest_15, dX5_setRest_18, dX5_setRest_19, dX5_setRest_22, thr_1.1, thr_1.2.1, thr_1.2.2, by decide, by decide⟩⟩
theorem ok_119_4 : BkOK mi i_119 (bpf P_119) 4 (B_119.getD 4 bk0) := ⟨24, ⟨1, s_aload_n dX5_setRest_23 rfl, rfl⟩, t_cv rfl mi_138 mok_138 rfl (fun _ => ⟨rfl, by decide +kernel⟩) (fun hs' e => by cases e; intro E n b h; cases h) (fun q fs As rest h hp hA hr => (call_V (i := i_119) (j := i_138) (C := RX5) (T := TX5) (N := 12) dX5_setRest_24 mok_138 rfl ⟨by decide, by decide⟩ np_138 rfl rfl wt_444 wt_446 ws_0 hp hA hr rfl).thr (fun _ => True.intro))⟩
theorem ok_119_5 : BkOK mi i_119 (bpf P_119) 5 (B_119.getD 5 bk0) := ⟨35, ⟨1, s_aload_n dX5_setRest_27 rfl, ⟨3, s_get (C := RX5) (T := TX5) (N := 12) dX5_setRest_28 rfl (by decide) wt_223 uw_X5, ⟨3, s_getN (C := RX0) (T := TX0) (N := 10) dX5_setRest_31 rfl (by decide) wt_81 uw_X0, ⟨1, s_iload_n dX5_setRest_34 rfl, rfl⟩⟩⟩⟩, t_cv rfl mi_62 mok_62 rfl (fun _ => ⟨rfl, by decide +kernel⟩) (fun hs' e => by cases e; intro E n b h; cases h) (fun q fs As rest h hp hA hr => (call_V (i := i_119) (j := i_62) (C := RX2) (T := TX2) (N := 1) dX5_setRest_35 mok_62 rfl ⟨by decide, by decide⟩ np_62 rfl rfl wt_661 wt_277 wt_278 hp hA hr rfl).thr (fun _ => True.intro))⟩
theorem ok_119_6 : BkOK mi i_119 (bpf P_119) 6 (B_119.getD 6 bk0) := ⟨48, ⟨1, s_istore_n dX5_setRest_38 rfl (by decide), ⟨1, s_aload_n dX5_setRest_39 rfl, ⟨3, s_get (C := RX5) (T := TX5) (N := 12) dX5_setRest_40 rfl (by decide) wt_223 uw_X5, ⟨3, s_getN (C := RX0) (T := TX0) (N := 10) dX5_setRest_43 rfl (by decide) wt_81 uw_X0, ⟨1, s_iload_n dX5_setRest_46 rfl, ⟨1, s_iload_n dX5_setRest_47 rfl, rfl⟩⟩⟩⟩⟩⟩, t_cv rfl mi_63 mok_63 rfl (fun _ => ⟨rfl, by decide +kernel⟩) (fun hs' e => by cases e; intro E n b h; cases h) (fun q fs As rest h hp hA hr => (call_V (i := i_119) (j := i_63) (C := RX2) (T := TX2) (N := 1) dX5_setRest_48 mok_63 rfl ⟨by decide, by decide⟩ np_63 rfl rfl wt_1022 wt_57 wt_58 hp hA hr rfl).thr (fun _ => True.intro))⟩
theorem ok_119_7 : BkOK mi i_119 (bpf P_119) 7 (B_119.getD 7 bk0) := ⟨52, ⟨1, s_iload_n dX5_setRest_51 rfl, rfl⟩, t_ret dX5_setRest_52 rfl⟩
theorem ok_119 : ∀ b, BkOK mi i_119 (bpf P_119) b (B_119.getD b bk0)
  | 0 => ok_119_0
  | 1 => ok_119_1
  | 2 => ok_119_2
  | 3 => ok_119_3
  | 4 => ok_119_4
  | 5 => ok_119_5
  | 6 => ok_119_6
  | 7 => ok_119_7
  | b + 8 => bk_none mi i_119 (bpf P_119) (b + 8)
theorem ok_120_0 : BkOK mi i_120 (bpf P_120) 0 (B_120.getD 0 bk0) := ⟨3, ⟨1, s_aload_n dX5_let_0 rfl, ⟨1, s_iload_n dX5_let_1 rfl, ⟨1, s_iload_n dX5_let_2 rfl, rfl⟩⟩⟩, t_cv rfl mi_132 mok_132 rfl (fun _ => ⟨rfl, by decide +kernel⟩) (fun hs' e => by cases e; intro E n b h; cases h) (fun q fs As rest h hp hA hr => (call_V (i := i_120) (j := i_132) (C := RX5) (T := TX5) (N := 12) dX5_let_3 mok_132 rfl ⟨by decide, by decide⟩ np_132 rfl rfl wt_842 wt_844 ws_5 hp hA hr rfl).thr (fun _ => True.intro))⟩
theorem ok_120_1 : BkOK mi i_120 (bpf P_120) 1 (B_120.getD 1 bk0) := ⟨8, ⟨1, s_aload_n dX5_let_6 rfl, ⟨1, s_iload_n dX5_let_7 rfl, rfl⟩⟩, t_cv rfl mi_133 mok_133 rfl (fun _ => ⟨rfl, by decide +kernel⟩) (fun hs' e => by cases e; intro E n b h; cases h) (fun q fs As rest h hp hA hr => (call_V (i := i_120) (j := i_133) (C := RX5) (T := TX5) (N := 12) dX5_let_8 mok_133 rfl ⟨by decide, by decide⟩ np_133 rfl rfl wt_865 wt_867 ws_7 hp hA hr rfl).thr (fun _ => True.intro))⟩
theorem ok_120_2 : BkOK mi i_120 (bpf P_120) 2 (B_120.getD 2 bk0) := ⟨12, ⟨1, s_aload_n dX5_let_11 rfl, rfl⟩, t_cv rfl mi_138 mok_138 rfl (fun _ => ⟨rfl, by decide +kernel⟩) (fun hs' e => by cases e; intro E n b h; cases h) (fun q fs As rest h hp hA hr => (call_V (i := i_120) (j := i_138) (C := RX5) (T := TX5) (N := 12) dX5_let_12 mok_138 rfl ⟨by decide, by decide⟩ np_138 rfl rfl wt_444 wt_446 ws_0 hp hA hr rfl).thr (fun _ => True.intro))⟩
theorem ok_120_3 : BkOK mi i_120 (bpf P_120) 3 (B_120.getD 3 bk0) := ⟨17, ⟨1, s_iload_n dX5_let_15 rfl, ⟨1, s_iload_n dX5_let_16 rfl, rfl⟩⟩, t_cs rfl mi_146 mok_146 rfl (fun As rest h hA hr => call_S dX5_let_17 mok_146 rfl ⟨by decide, by decide⟩ np_146 wt_655 wt_416 hA hr)⟩
theorem ok_120_4 : BkOK mi i_120 (bpf P_120) 4 (B_120.getD 4 bk0) := ⟨31, ⟨2, s_istore dX5_let_20 (by decide), ⟨1, s_aload_n dX5_let_22 rfl, ⟨3, s_get (C := RX5) (T := TX5) (N := 12) dX5_let_23 rfl (by decide) wt_223 uw_X5, ⟨3, s_getN (C := RX0) (T := TX0) (N := 10) dX5_let_26 rfl (by decide) wt_86 uw_X0, ⟨2, s_iload dX5_let_29, rfl⟩⟩⟩⟩⟩, t_cv rfl mi_62 mok_62 rfl (fun _ => ⟨rfl, by decide +kernel⟩) (fun hs' e => by cases e; intro E n b h; cases h) (fun q fs As rest h hp hA hr => (call_V (i := i_120) (j := i_62) (C := RX2) (T := TX2) (N := 1) dX5_let_31 mok_62 rfl ⟨by decide, by decide⟩ np_62 rfl rfl wt_661 wt_277 wt_278 hp hA hr rfl).thr (fun _ => True.intro))⟩
theorem ok_120_5 : BkOK mi i_120 (bpf P_120) 5 (B_120.getD 5 bk0) := ⟨47, ⟨2, s_istore dX5_let_34 (by decide), ⟨1, s_aload_n dX5_let_36 rfl, ⟨3, s_get (C := RX5) (T := TX5) (N := 12) dX5_let_37 rfl (by decide) wt_223 uw_X5, ⟨3, s_getN (C := RX0) (T := TX0) (N := 10) dX5_let_40 rfl (by decide) wt_86 uw_X0, ⟨2, s_iload dX5_let_43, ⟨2, s_iload dX5_let_45, rfl⟩⟩⟩⟩⟩⟩, t_eq0 dX5_let_47 (by decide) rfl⟩
theorem ok_120_6 : BkOK mi i_120 (bpf P_120) 6 (B_120.getD 6 bk0) := ⟨53, ⟨2, s_iload dX5_let_50, ⟨1, s_iload_n dX5_let_52 rfl, rfl⟩⟩, t_cs rfl mi_145 mok_145 rfl (fun As rest h hA hr => call_S dX5_let_53 mok_145 rfl ⟨by decide, by decide⟩ np_145 wt_1048 wt_438 hA hr)⟩
theorem ok_120_7 : BkOK mi i_120 (bpf P_120) 7 (B_120.getD 7 bk0) := ⟨57, ⟨1, s_ior dX5_let_56, rfl⟩, t_go dX5_let_57 (by decide)⟩
theorem ok_120_8 : BkOK mi i_120 (bpf P_120) 8 (B_120.getD 8 bk0) := ⟨63, ⟨2, s_iload dX5_let_60, ⟨1, s_iload_n dX5_let_62 rfl, rfl⟩⟩, t_cs rfl mi_145 mok_145 rfl (fun As rest h hA hr => call_S dX5_let_63 mok_145 rfl ⟨by decide, by decide⟩ np_145 wt_1048 wt_438 hA hr)⟩
theorem ok_120_9 : BkOK mi i_120 (bpf P_120) 9 (B_120.getD 9 bk0) := ⟨69, ⟨1, s_iconst dX5_let_66 rfl, ⟨1, s_ixor dX5_let_67, ⟨1, s_iand dX5_let_68, rfl⟩⟩⟩, t_fall rfl⟩
theorem ok_120_10 : BkOK mi i_120 (bpf P_120) 10 (B_120.getD 10 bk0) := ⟨69, rfl, t_cv rfl mi_63 mok_63 rfl (fun _ => ⟨rfl, by decide +kernel⟩) (fun hs' e => by cases e; intro E n b h; cases h) (fun q fs As rest h hp hA hr => (call_V (i := i_120) (j := i_63) (C := RX2) (T := TX2) (N := 1) dX5_let_69 mok_63 rfl ⟨by decide, by decide⟩ np_63 rfl rfl wt_1022 wt_57 wt_58 hp hA hr rfl).thr (fun _ => True.intro))⟩
theorem ok_120_11 : BkOK mi i_120 (bpf P_120) 11 (B_120.getD 11 bk0) := ⟨81, ⟨1, s_aload_n dX5_let_72 rfl, ⟨3, s_get (C := RX5) (T := TX5) (N := 12) dX5_let_73 rfl (by decide) wt_223 uw_X5, ⟨3, s_getN (C := RX0) (T := TX0) (N := 10) dX5_let_76 rfl (by decide) wt_86 uw_X0, ⟨2, s_iload dX5_let_79, rfl⟩⟩⟩⟩, t_cv rfl mi_62 mok_62 rfl (fun _ => ⟨rfl, by decide +kernel⟩) (fun hs' e => by cases e; intro E n b h; cases h) (fun q fs As rest h hp hA hr => (call_V (i := i_120) (j := i_62) (C := RX2) (T := TX2) (N := 1) dX5_let_81 mok_62 rfl ⟨by decide, by decide⟩ np_62 rfl rfl wt_661 wt_277 wt_278 hp hA hr rfl).thr (fun _ => True.intro))⟩
theorem ok_120_12 : BkOK mi i_120 (bpf P_120) 12 (B_120.getD 12 bk0) := ⟨84, rfl, t_ret dX5_let_84 rfl⟩
theorem ok_120 : ∀ b, BkOK mi i_120 (bpf P_120) b (B_120.getD b bk0)
  | 0 => ok_120_0
  | 1 => ok_120_1
  | 2 => ok_120_2
  | 3 => ok_120_3
  | 4 => ok_120_4
  | 5 => ok_120_5
  | 6 => ok_120_6
  | 7 => ok_120_7
  | 8 => ok_120_8
  | 9 => ok_120_9
  | 10 => ok_120_10
  | 11 => ok_120_11
  | 12 => ok_120_12
  | b + 13 => bk_none mi i_120 (bpf P_120) (b + 13)
theorem ok_121_0 : BkOK mi i_121 (bpf P_121) 0 (B_121.getD 0 bk0) := ⟨2, ⟨1, s_aload_n dX5_setWeight_0 rfl, ⟨1, s_iload_n dX5_setWeight_1 rfl, rfl⟩⟩, t_cv rfl mi_134 mok_134 rfl (fun _ => ⟨rfl, by decide +kernel⟩) (fun hs' e => by cases e; intro E n b h; cases h) (fun q fs As rest h hp hA hr => (call_V (i := i_121) (j := i_134) (C := RX5) (T := TX5) (N := 12) dX5_setWeight_2 mok_134 rfl ⟨by decide, by decide⟩ np_134 rfl rfl wt_854 wt_856 ws_6 hp hA hr rfl).thr (fun _ => True.intro))⟩
theorem ok_121_1 : BkOK mi i_121 (bpf P_121) 1 (B_121.getD 1 bk0) := ⟨9, ⟨1, s_iload_n dX5_setWeight_5 rfl, ⟨1, s_iconst dX5_setWeight_6 rfl, ⟨2, s_bipush dX5_setWeight_7 rfl, rfl⟩⟩⟩, t_cs rfl mi_142 mok_142 rfl (fun As rest h hA hr => call_S dX5_setWeight_9 mok_142 rfl ⟨by decide, by decide⟩ np_142 wt_819 wt_285 hA hr)⟩
theorem ok_121_2 : BkOK mi i_121 (bpf P_121) 2 (B_121.getD 2 bk0) := ⟨12, rfl, t_ne0 dX5_setWeight_12 (by decide) rfl⟩
theorem ok_121_3 : BkOK mi i_121 (bpf P_121) 3 (B_121.getD 3 bk0) := ⟨15, rfl, t_thr ⟨121, 123, ["java/lang/RuntimeException", "java/lang/Exception"], dX5_setWeight_15, dX5_setWeight_18, dX5_setWeight_19, dX5_setWeight_22, thr_1.1, thr_1.2.1, thr_1.2.2, by decide, by decide⟩⟩
theorem ok_121_4 : BkOK mi i_121 (bpf P_121) 4 (B_121.getD 4 bk0) := ⟨24, ⟨1, s_aload_n dX5_setWeight_23 rfl, rfl⟩, t_cv rfl mi_138 mok_138 rfl (fun _ => ⟨rfl, by decide +kernel⟩) (fun hs' e => by cases e; intro E n b h; cases h) (fun q fs As rest h hp hA hr => (call_V (i := i_121) (j := i_138) (C := RX5) (T := TX5) (N := 12) dX5_setWeight_24 mok_138 rfl ⟨by decide, by decide⟩ np_138 rfl rfl wt_444 wt_446 ws_0 hp hA hr rfl).thr (fun _ => True.intro))⟩
theorem ok_121_5 : BkOK mi i_121 (bpf P_121) 5 (B_121.getD 5 bk0) := ⟨35, ⟨1, s_aload_n dX5_setWeight_27 rfl, ⟨3, s_get (C := RX5) (T := TX5) (N := 12) dX5_setWeight_28 rfl (by decide) wt_223 uw_X5, ⟨3, s_getN (C := RX0) (T := TX0) (N := 10) dX5_setWeight_31 rfl (by decide) wt_90 uw_X0, ⟨1, s_iload_n dX5_setWeight_34 rfl, rfl⟩⟩⟩⟩, t_cv rfl mi_62 mok_62 rfl (fun _ => ⟨rfl, by decide +kernel⟩) (fun hs' e => by cases e; intro E n b h; cases h) (fun q fs As rest h hp hA hr => (call_V (i := i_121) (j := i_62) (C := RX2) (T := TX2) (N := 1) dX5_setWeight_35 mok_62 rfl ⟨by decide, by decide⟩ np_62 rfl rfl wt_661 wt_277 wt_278 hp hA hr rfl).thr (fun _ => True.intro))⟩
theorem ok_121_6 : BkOK mi i_121 (bpf P_121) 6 (B_121.getD 6 bk0) := ⟨48, ⟨1, s_istore_n dX5_setWeight_38 rfl (by decide), ⟨1, s_aload_n dX5_setWeight_39 rfl, ⟨3, s_get (C := RX5) (T := TX5) (N := 12) dX5_setWeight_40 rfl (by decide) wt_223 uw_X5, ⟨3, s_getN (C := RX0) (T := TX0) (N := 10) dX5_setWeight_43 rfl (by decide) wt_90 uw_X0, ⟨1, s_iload_n dX5_setWeight_46 rfl, ⟨1, s_iload_n dX5_setWeight_47 rfl, rfl⟩⟩⟩⟩⟩⟩, t_cv rfl mi_63 mok_63 rfl (fun _ => ⟨rfl, by decide +kernel⟩) (fun hs' e => by cases e; intro E n b h; cases h) (fun q fs As rest h hp hA hr => (call_V (i := i_121) (j := i_63) (C := RX2) (T := TX2) (N := 1) dX5_setWeight_48 mok_63 rfl ⟨by decide, by decide⟩ np_63 rfl rfl wt_1022 wt_57 wt_58 hp hA hr rfl).thr (fun _ => True.intro))⟩
theorem ok_121_7 : BkOK mi i_121 (bpf P_121) 7 (B_121.getD 7 bk0) := ⟨52, ⟨1, s_iload_n dX5_setWeight_51 rfl, rfl⟩, t_ret dX5_setWeight_52 rfl⟩
theorem ok_121 : ∀ b, BkOK mi i_121 (bpf P_121) b (B_121.getD b bk0)
  | 0 => ok_121_0
  | 1 => ok_121_1
  | 2 => ok_121_2
  | 3 => ok_121_3
  | 4 => ok_121_4
  | 5 => ok_121_5
  | 6 => ok_121_6
  | 7 => ok_121_7
  | b + 8 => bk_none mi i_121 (bpf P_121) (b + 8)
theorem ok_122_0 : BkOK mi i_122 (bpf P_122) 0 (B_122.getD 0 bk0) := ⟨2, ⟨1, s_aload_n dX5_setSpan_0 rfl, ⟨1, s_iload_n dX5_setSpan_1 rfl, rfl⟩⟩, t_cv rfl mi_133 mok_133 rfl (fun _ => ⟨rfl, by decide +kernel⟩) (fun hs' e => by cases e; intro E n b h; cases h) (fun q fs As rest h hp hA hr => (call_V (i := i_122) (j := i_133) (C := RX5) (T := TX5) (N := 12) dX5_setSpan_2 mok_133 rfl ⟨by decide, by decide⟩ np_133 rfl rfl wt_865 wt_867 ws_7 hp hA hr rfl).thr (fun _ => True.intro))⟩
theorem ok_122_1 : BkOK mi i_122 (bpf P_122) 1 (B_122.getD 1 bk0) := ⟨7, ⟨1, s_aload_n dX5_setSpan_5 rfl, ⟨1, s_iload_n dX5_setSpan_6 rfl, rfl⟩⟩, t_cv rfl mi_133 mok_133 rfl (fun _ => ⟨rfl, by decide +kernel⟩) (fun hs' e => by cases e; intro E n b h; cases h) (fun q fs As rest h hp hA hr => (call_V (i := i_122) (j := i_133) (C := RX5) (T := TX5) (N := 12) dX5_setSpan_7 mok_133 rfl ⟨by decide, by decide⟩ np_133 rfl rfl wt_865 wt_867 ws_7 hp hA hr rfl).thr (fun _ => True.intro))⟩
theorem ok_122_2 : BkOK mi i_122 (bpf P_122) 2 (B_122.getD 2 bk0) := ⟨12, ⟨1, s_iload_n dX5_setSpan_10 rfl, ⟨1, s_iload_n dX5_setSpan_11 rfl, rfl⟩⟩, t_eq dX5_setSpan_12 (by decide) rfl⟩
theorem ok_122_3 : BkOK mi i_122 (bpf P_122) 3 (B_122.getD 3 bk0) := ⟨19, ⟨1, s_iload_n dX5_setSpan_15 rfl, ⟨1, s_iconst dX5_setSpan_16 rfl, ⟨2, s_bipush dX5_setSpan_17 rfl, rfl⟩⟩⟩, t_cs rfl mi_142 mok_142 rfl (fun As rest h hA hr => call_S dX5_setSpan_19 mok_142 rfl ⟨by decide, by decide⟩ np_142 wt_819 wt_285 hA hr)⟩
theorem ok_122_4 : BkOK mi i_122 (bpf P_122) 4 (B_122.getD 4 bk0) := ⟨22, rfl, t_eq0 dX5_setSpan_22 (by decide) rfl⟩
theorem ok_122_5 : BkOK mi i_122 (bpf P_122) 5 (B_122.getD 5 bk0) := ⟨30, ⟨2, s_iload dX5_setSpan_25, ⟨1, s_iload_n dX5_setSpan_27 rfl, ⟨2, s_bipush dX5_setSpan_28 rfl, rfl⟩⟩⟩, t_cs rfl mi_142 mok_142 rfl (fun As rest h hA hr => call_S dX5_setSpan_30 mok_142 rfl ⟨by decide, by decide⟩ np_142 wt_819 wt_285 hA hr)⟩
theorem ok_122_6 : BkOK mi i_122 (bpf P_122) 6 (B_122.getD 6 bk0) := ⟨33, rfl, t_eq0 dX5_setSpan_33 (by decide) rfl⟩
theorem ok_122_7 : BkOK mi i_122 (bpf P_122) 7 (B_122.getD 7 bk0) := ⟨42, ⟨2, s_iload dX5_setSpan_36, ⟨2, s_iload dX5_setSpan_38, ⟨2, s_bipush dX5_setSpan_40 rfl, rfl⟩⟩⟩, t_cs rfl mi_142 mok_142 rfl (fun As rest h hA hr => call_S dX5_setSpan_42 mok_142 rfl ⟨by decide, by decide⟩ np_142 wt_819 wt_285 hA hr)⟩
theorem ok_122_8 : BkOK mi i_122 (bpf P_122) 8 (B_122.getD 8 bk0) := ⟨45, rfl, t_ne0 dX5_setSpan_45 (by decide) rfl⟩
theorem ok_122_9 : BkOK mi i_122 (bpf P_122) 9 (B_122.getD 9 bk0) := ⟨48, rfl, t_thr ⟨121, 123, ["java/lang/RuntimeException", "java/lang/Exception"], dX5_setSpan_48, dX5_setSpan_51, dX5_setSpan_52, dX5_setSpan_55, thr_1.1, thr_1.2.1, thr_1.2.2, by decide, by decide⟩⟩
theorem ok_122_10 : BkOK mi i_122 (bpf P_122) 10 (B_122.getD 10 bk0) := ⟨57, ⟨1, s_aload_n dX5_setSpan_56 rfl, rfl⟩, t_cv rfl mi_138 mok_138 rfl (fun _ => ⟨rfl, by decide +kernel⟩) (fun hs' e => by cases e; intro E n b h; cases h) (fun q fs As rest h hp hA hr => (call_V (i := i_122) (j := i_138) (C := RX5) (T := TX5) (N := 12) dX5_setSpan_57 mok_138 rfl ⟨by decide, by decide⟩ np_138 rfl rfl wt_444 wt_446 ws_0 hp hA hr rfl).thr (fun _ => True.intro))⟩
theorem ok_122_11 : BkOK mi i_122 (bpf P_122) 11 (B_122.getD 11 bk0) := ⟨69, ⟨1, s_aload_n dX5_setSpan_60 rfl, ⟨3, s_get (C := RX5) (T := TX5) (N := 12) dX5_setSpan_61 rfl (by decide) wt_223 uw_X5, ⟨3, s_getN (C := RX0) (T := TX0) (N := 10) dX5_setSpan_64 rfl (by decide) wt_96 uw_X0, ⟨1, s_iload_n dX5_setSpan_67 rfl, ⟨1, s_iload_n dX5_setSpan_68 rfl, rfl⟩⟩⟩⟩⟩, t_cs rfl mi_147 mok_147 rfl (fun As rest h hA hr => call_S dX5_setSpan_69 mok_147 rfl ⟨by decide, by decide⟩ np_147 wt_869 wt_67 hA hr)⟩
theorem ok_122_12 : BkOK mi i_122 (bpf P_122) 12 (B_122.getD 12 bk0) := ⟨72, rfl, t_cv rfl mi_62 mok_62 rfl (fun _ => ⟨rfl, by decide +kernel⟩) (fun hs' e => by cases e; intro E n b h; cases h) (fun q fs As rest h hp hA hr => (call_V (i := i_122) (j := i_62) (C := RX2) (T := TX2) (N := 1) dX5_setSpan_72 mok_62 rfl ⟨by decide, by decide⟩ np_62 rfl rfl wt_661 wt_277 wt_278 hp hA hr rfl).thr (fun _ => True.intro))⟩
theorem ok_122_13 : BkOK mi i_122 (bpf P_122) 13 (B_122.getD 13 bk0) := ⟨88, ⟨2, s_istore dX5_setSpan_75 (by decide), ⟨1, s_aload_n dX5_setSpan_77 rfl, ⟨3, s_get (C := RX5) (T := TX5) (N := 12) dX5_setSpan_78 rfl (by decide) wt_223 uw_X5, ⟨1, s_iload_n dX5_setSpan_81 rfl, ⟨1, s_iload_n dX5_setSpan_82 rfl, ⟨1, s_iload_n dX5_setSpan_83 rfl, ⟨2, s_iload dX5_setSpan_84, ⟨2, s_iload dX5_setSpan_86, rfl⟩⟩⟩⟩⟩⟩⟩⟩, t_cv rfl mi_3 mok_3 rfl (fun _ => ⟨rfl, by decide +kernel⟩) (fun hs' e => by cases e; intro E n b h; cases h) (fun q fs As rest h hp hA hr => (call_V (i := i_122) (j := i_3) (C := RX0) (T := TX0) (N := 10) dX5_setSpan_88 mok_3 rfl ⟨by decide, by decide⟩ np_3 rfl rfl wt_1063 wt_63 wt_64 hp hA hr rfl).thr (fun _ => True.intro))⟩
theorem ok_122_14 : BkOK mi i_122 (bpf P_122) 14 (B_122.getD 14 bk0) := ⟨93, ⟨2, s_iload dX5_setSpan_91, rfl⟩, t_ret dX5_setSpan_93 rfl⟩
theorem ok_122 : ∀ b, BkOK mi i_122 (bpf P_122) b (B_122.getD b bk0)
  | 0 => ok_122_0
  | 1 => ok_122_1
  | 2 => ok_122_2
  | 3 => ok_122_3
  | 4 => ok_122_4
  | 5 => ok_122_5
  | 6 => ok_122_6
  | 7 => ok_122_7
  | 8 => ok_122_8
  | 9 => ok_122_9
  | 10 => ok_122_10
  | 11 => ok_122_11
  | 12 => ok_122_12
  | 13 => ok_122_13
  | 14 => ok_122_14
  | b + 15 => bk_none mi i_122 (bpf P_122) (b + 15)
theorem ok_123_0 : BkOK mi i_123 (bpf P_123) 0 (B_123.getD 0 bk0) := ⟨1, ⟨1, s_aload_n dX5_setHand_0 rfl, rfl⟩, t_cv rfl mi_138 mok_138 rfl (fun _ => ⟨rfl, by decide +kernel⟩) (fun hs' e => by cases e; intro E n b h; cases h) (fun q fs As rest h hp hA hr => (call_V (i := i_123) (j := i_138) (C := RX5) (T := TX5) (N := 12) dX5_setHand_1 mok_138 rfl ⟨by decide, by decide⟩ np_138 rfl rfl wt_444 wt_446 ws_0 hp hA hr rfl).thr (fun _ => True.intro))⟩
theorem ok_123_1 : BkOK mi i_123 (bpf P_123) 1 (B_123.getD 1 bk0) := ⟨20, ⟨1, s_aload_n dX5_setHand_4 rfl, ⟨3, s_get (C := RX5) (T := TX5) (N := 12) dX5_setHand_5 rfl (by decide) wt_223 uw_X5, ⟨1, s_iload_n dX5_setHand_8 rfl, ⟨3, s_putN (C := RX0) (T := TX0) (N := 10) tyX0 tyX0_ok nmX0 dX5_setHand_9 rfl (by decide) rfl (tyX0_ok 0 (by decide)) wt_71 uw_X0, ⟨1, s_aload_n dX5_setHand_12 rfl, ⟨3, s_get (C := RX5) (T := TX5) (N := 12) dX5_setHand_13 rfl (by decide) wt_225 uw_X5, ⟨1, s_aload_n dX5_setHand_16 rfl, ⟨3, s_get (C := RX5) (T := TX5) (N := 12) dX5_setHand_17 rfl (by decide) wt_223 uw_X5, rfl⟩⟩⟩⟩⟩⟩⟩⟩, t_cv rfl mi_30 mok_30 rfl (fun _ => ⟨rfl, by decide +kernel⟩) (fun hs' e => by cases e; intro E n b h; cases h) (fun q fs As rest h hp hA hr => (call_V (i := i_123) (j := i_30) (C := RX1) (T := TX1) (N := 13) dX5_setHand_20 mok_30 rfl ⟨by decide, by decide⟩ np_30 rfl rfl wt_479 wt_480 wt_481 hp hA hr rfl).thr (fun _ => True.intro))⟩
theorem ok_123_2 : BkOK mi i_123 (bpf P_123) 2 (B_123.getD 2 bk0) := ⟨30, ⟨1, s_aload_n dX5_setHand_23 rfl, ⟨3, s_get (C := RX5) (T := TX5) (N := 12) dX5_setHand_24 rfl (by decide) wt_225 uw_X5, ⟨3, s_getN (C := RX1) (T := TX1) (N := 13) dX5_setHand_27 rfl (by decide) wt_129 uw_X1, rfl⟩⟩⟩, t_ret dX5_setHand_30 rfl⟩
theorem ok_123 : ∀ b, BkOK mi i_123 (bpf P_123) b (B_123.getD b bk0)
  | 0 => ok_123_0
  | 1 => ok_123_1
  | 2 => ok_123_2
  | b + 3 => bk_none mi i_123 (bpf P_123) (b + 3)
theorem ok_124_0 : BkOK mi i_124 (bpf P_124) 0 (B_124.getD 0 bk0) := ⟨2, ⟨1, s_aload_n dX5_transpose_0 rfl, ⟨1, s_iload_n dX5_transpose_1 rfl, rfl⟩⟩, t_cv rfl mi_136 mok_136 rfl (fun _ => ⟨rfl, by decide +kernel⟩) (fun hs' e => by cases e; intro E n b h; cases h) (fun q fs As rest h hp hA hr => (call_V (i := i_124) (j := i_136) (C := RX5) (T := TX5) (N := 12) dX5_transpose_2 mok_136 rfl ⟨by decide, by decide⟩ np_136 rfl rfl wt_986 wt_988 ws_9 hp hA hr rfl).thr (fun _ => True.intro))⟩
theorem ok_124_1 : BkOK mi i_124 (bpf P_124) 1 (B_124.getD 1 bk0) := ⟨6, ⟨1, s_aload_n dX5_transpose_5 rfl, rfl⟩, t_cv rfl mi_138 mok_138 rfl (fun _ => ⟨rfl, by decide +kernel⟩) (fun hs' e => by cases e; intro E n b h; cases h) (fun q fs As rest h hp hA hr => (call_V (i := i_124) (j := i_138) (C := RX5) (T := TX5) (N := 12) dX5_transpose_6 mok_138 rfl ⟨by decide, by decide⟩ np_138 rfl rfl wt_444 wt_446 ws_0 hp hA hr rfl).thr (fun _ => True.intro))⟩
theorem ok_124_2 : BkOK mi i_124 (bpf P_124) 2 (B_124.getD 2 bk0) := ⟨14, ⟨1, s_aload_n dX5_transpose_9 rfl, ⟨3, s_get (C := RX5) (T := TX5) (N := 12) dX5_transpose_10 rfl (by decide) wt_223 uw_X5, ⟨1, s_iload_n dX5_transpose_13 rfl, rfl⟩⟩⟩, t_cv rfl mi_9 mok_9 rfl (fun _ => ⟨rfl, by decide +kernel⟩) (fun hs' e => by cases e; intro E n b h; cases h) (fun q fs As rest h hp hA hr => (call_V (i := i_124) (j := i_9) (C := RX0) (T := TX0) (N := 10) dX5_transpose_14 mok_9 rfl ⟨by decide, by decide⟩ np_9 rfl rfl wt_1071 wt_1072 wt_1073 hp hA hr rfl).thr (fun _ => True.intro))⟩
theorem ok_124_3 : BkOK mi i_124 (bpf P_124) 3 (B_124.getD 3 bk0) := ⟨25, ⟨1, s_aload_n dX5_transpose_17 rfl, ⟨3, s_get (C := RX5) (T := TX5) (N := 12) dX5_transpose_18 rfl (by decide) wt_225 uw_X5, ⟨1, s_aload_n dX5_transpose_21 rfl, ⟨3, s_get (C := RX5) (T := TX5) (N := 12) dX5_transpose_22 rfl (by decide) wt_223 uw_X5, rfl⟩⟩⟩⟩, t_cv rfl mi_30 mok_30 rfl (fun _ => ⟨rfl, by decide +kernel⟩) (fun hs' e => by cases e; intro E n b h; cases h) (fun q fs As rest h hp hA hr => (call_V (i := i_124) (j := i_30) (C := RX1) (T := TX1) (N := 13) dX5_transpose_25 mok_30 rfl ⟨by decide, by decide⟩ np_30 rfl rfl wt_479 wt_480 wt_481 hp hA hr rfl).thr (fun _ => True.intro))⟩
theorem ok_124_4 : BkOK mi i_124 (bpf P_124) 4 (B_124.getD 4 bk0) := ⟨35, ⟨1, s_aload_n dX5_transpose_28 rfl, ⟨3, s_get (C := RX5) (T := TX5) (N := 12) dX5_transpose_29 rfl (by decide) wt_225 uw_X5, ⟨3, s_getN (C := RX1) (T := TX1) (N := 13) dX5_transpose_32 rfl (by decide) wt_129 uw_X1, rfl⟩⟩⟩, t_ret dX5_transpose_35 rfl⟩
theorem ok_124 : ∀ b, BkOK mi i_124 (bpf P_124) b (B_124.getD b bk0)
  | 0 => ok_124_0
  | 1 => ok_124_1
  | 2 => ok_124_2
  | 3 => ok_124_3
  | 4 => ok_124_4
  | b + 5 => bk_none mi i_124 (bpf P_124) (b + 5)
theorem ok_125_0 : BkOK mi i_125 (bpf P_125) 0 (B_125.getD 0 bk0) := ⟨1, ⟨1, s_aload_n dX5_fix_0 rfl, rfl⟩, t_cv rfl mi_137 mok_137 rfl (fun _ => ⟨rfl, by decide +kernel⟩) (fun hs' e => by cases e; intro E n b h; cases h) (fun q fs As rest h hp hA hr => (call_V (i := i_125) (j := i_137) (C := RX5) (T := TX5) (N := 12) dX5_fix_1 mok_137 rfl ⟨by decide, by decide⟩ np_137 rfl rfl wt_886 wt_888 ws_8 hp hA hr rfl).thr (fun _ => True.intro))⟩
theorem ok_125_1 : BkOK mi i_125 (bpf P_125) 1 (B_125.getD 1 bk0) := ⟨5, ⟨1, s_aload_n dX5_fix_4 rfl, rfl⟩, t_cv rfl mi_138 mok_138 rfl (fun _ => ⟨rfl, by decide +kernel⟩) (fun hs' e => by cases e; intro E n b h; cases h) (fun q fs As rest h hp hA hr => (call_V (i := i_125) (j := i_138) (C := RX5) (T := TX5) (N := 12) dX5_fix_5 mok_138 rfl ⟨by decide, by decide⟩ np_138 rfl rfl wt_444 wt_446 ws_0 hp hA hr rfl).thr (fun _ => True.intro))⟩
theorem ok_125_2 : BkOK mi i_125 (bpf P_125) 2 (B_125.getD 2 bk0) := ⟨12, ⟨1, s_iconst dX5_fix_8 rfl, ⟨1, s_istore_n dX5_fix_9 rfl (by decide), ⟨1, s_iconst dX5_fix_10 rfl, ⟨1, s_istore_n dX5_fix_11 rfl (by decide), rfl⟩⟩⟩⟩, t_fall rfl⟩
theorem ok_125_3 : BkOK mi i_125 (bpf P_125) 3 (B_125.getD 3 bk0) := ⟨20, ⟨1, s_iload_n dX5_fix_12 rfl, ⟨1, s_aload_n dX5_fix_13 rfl, ⟨3, s_get (C := RX5) (T := TX5) (N := 12) dX5_fix_14 rfl (by decide) wt_223 uw_X5, ⟨3, s_getN (C := RX0) (T := TX0) (N := 10) dX5_fix_17 rfl (by decide) wt_74 uw_X0, rfl⟩⟩⟩⟩, t_ge dX5_fix_20 (by decide) rfl⟩
theorem ok_125_4 : BkOK mi i_125 (bpf P_125) 4 (B_125.getD 4 bk0) := ⟨25, ⟨1, s_iconst dX5_fix_23 rfl, ⟨1, s_istore_n dX5_fix_24 rfl (by decide), rfl⟩⟩, t_fall rfl⟩
theorem ok_125_5 : BkOK mi i_125 (bpf P_125) 5 (B_125.getD 5 bk0) := ⟨34, ⟨1, s_iload_n dX5_fix_25 rfl, ⟨1, s_aload_n dX5_fix_26 rfl, ⟨3, s_get (C := RX5) (T := TX5) (N := 12) dX5_fix_27 rfl (by decide) wt_223 uw_X5, ⟨3, s_getN (C := RX0) (T := TX0) (N := 10) dX5_fix_30 rfl (by decide) wt_78 uw_X0, ⟨1, s_iload_n dX5_fix_33 rfl, rfl⟩⟩⟩⟩⟩, t_cv rfl mi_62 mok_62 rfl (fun _ => ⟨rfl, by decide +kernel⟩) (fun hs' e => by cases e; intro E n b h; cases h) (fun q fs As rest h hp hA hr => (call_V (i := i_125) (j := i_62) (C := RX2) (T := TX2) (N := 1) dX5_fix_34 mok_62 rfl ⟨by decide, by decide⟩ np_62 rfl rfl wt_661 wt_277 wt_278 hp hA hr rfl).thr (fun _ => True.intro))⟩
theorem ok_125_6 : BkOK mi i_125 (bpf P_125) 6 (B_125.getD 6 bk0) := ⟨37, rfl, t_ge dX5_fix_37 (by decide) rfl⟩
theorem ok_125_7 : BkOK mi i_125 (bpf P_125) 7 (B_125.getD 7 bk0) := ⟨42, ⟨1, s_iload_n dX5_fix_40 rfl, ⟨1, s_iload_n dX5_fix_41 rfl, rfl⟩⟩, t_cs rfl mi_146 mok_146 rfl (fun As rest h hA hr => call_S dX5_fix_42 mok_146 rfl ⟨by decide, by decide⟩ np_146 wt_655 wt_416 hA hr)⟩
theorem ok_125_8 : BkOK mi i_125 (bpf P_125) 8 (B_125.getD 8 bk0) := ⟨57, ⟨2, s_istore dX5_fix_45 (by decide), ⟨1, s_iload_n dX5_fix_47 rfl, ⟨1, s_aload_n dX5_fix_48 rfl, ⟨3, s_get (C := RX5) (T := TX5) (N := 12) dX5_fix_49 rfl (by decide) wt_223 uw_X5, ⟨3, s_getN (C := RX0) (T := TX0) (N := 10) dX5_fix_52 rfl (by decide) wt_86 uw_X0, ⟨2, s_iload dX5_fix_55, rfl⟩⟩⟩⟩⟩⟩, t_cv rfl mi_62 mok_62 rfl (fun _ => ⟨rfl, by decide +kernel⟩) (fun hs' e => by cases e; intro E n b h; cases h) (fun q fs As rest h hp hA hr => (call_V (i := i_125) (j := i_62) (C := RX2) (T := TX2) (N := 1) dX5_fix_57 mok_62 rfl ⟨by decide, by decide⟩ np_62 rfl rfl wt_661 wt_277 wt_278 hp hA hr rfl).thr (fun _ => True.intro))⟩
theorem ok_125_9 : BkOK mi i_125 (bpf P_125) 9 (B_125.getD 9 bk0) := ⟨60, rfl, t_cs rfl mi_293 mok_293 rfl (fun As rest h hA hr => call_S dX5_fix_60 mok_293 rfl ⟨by decide, by decide⟩ np_293 wt_966 wt_967 hA hr)⟩
theorem ok_125_10 : BkOK mi i_125 (bpf P_125) 10 (B_125.getD 10 bk0) := ⟨64, ⟨1, s_iconst dX5_fix_63 rfl, rfl⟩, t_le dX5_fix_64 (by decide) rfl⟩
theorem ok_125_11 : BkOK mi i_125 (bpf P_125) 11 (B_125.getD 11 bk0) := ⟨68, ⟨1, s_iconst dX5_fix_67 rfl, rfl⟩, t_go dX5_fix_68 (by decide)⟩
theorem ok_125_12 : BkOK mi i_125 (bpf P_125) 12 (B_125.getD 12 bk0) := ⟨72, ⟨1, s_iconst dX5_fix_71 rfl, rfl⟩, t_fall rfl⟩
theorem ok_125_13 : BkOK mi i_125 (bpf P_125) 13 (B_125.getD 13 bk0) := ⟨89, ⟨1, s_iadd dX5_fix_72, ⟨1, s_istore_n dX5_fix_73 rfl (by decide), ⟨1, s_aload_n dX5_fix_74 rfl, ⟨3, s_get (C := RX5) (T := TX5) (N := 12) dX5_fix_75 rfl (by decide) wt_223 uw_X5, ⟨3, s_getN (C := RX0) (T := TX0) (N := 10) dX5_fix_78 rfl (by decide) wt_86 uw_X0, ⟨2, s_iload dX5_fix_81, ⟨1, s_aload_n dX5_fix_83 rfl, ⟨3, s_get (C := RX5) (T := TX5) (N := 12) dX5_fix_84 rfl (by decide) wt_225 uw_X5, ⟨1, s_iload_n dX5_fix_87 rfl, ⟨1, s_iload_n dX5_fix_88 rfl, rfl⟩⟩⟩⟩⟩⟩⟩⟩⟩⟩, t_cv rfl mi_47 mok_47 rfl (fun _ => ⟨rfl, by decide +kernel⟩) (fun hs' e => by cases e; intro E n b h; cases h) (fun q fs As rest h hp hA hr => (call_V (i := i_125) (j := i_47) (C := RX1) (T := TX1) (N := 13) dX5_fix_89 mok_47 rfl ⟨by decide, by decide⟩ np_47 rfl rfl wt_905 wt_906 wt_907 hp hA hr rfl).thr (fun _ => True.intro))⟩
theorem ok_125_14 : BkOK mi i_125 (bpf P_125) 14 (B_125.getD 14 bk0) := ⟨92, rfl, t_cs rfl mi_145 mok_145 rfl (fun As rest h hA hr => call_S dX5_fix_92 mok_145 rfl ⟨by decide, by decide⟩ np_145 wt_1048 wt_438 hA hr)⟩
theorem ok_125_15 : BkOK mi i_125 (bpf P_125) 15 (B_125.getD 15 bk0) := ⟨95, rfl, t_cv rfl mi_63 mok_63 rfl (fun _ => ⟨rfl, by decide +kernel⟩) (fun hs' e => by cases e; intro E n b h; cases h) (fun q fs As rest h hp hA hr => (call_V (i := i_125) (j := i_63) (C := RX2) (T := TX2) (N := 1) dX5_fix_95 mok_63 rfl ⟨by decide, by decide⟩ np_63 rfl rfl wt_1022 wt_57 wt_58 hp hA hr rfl).thr (fun _ => True.intro))⟩
theorem ok_125_16 : BkOK mi i_125 (bpf P_125) 16 (B_125.getD 16 bk0) := ⟨101, ⟨3, s_iinc dX5_fix_98 rfl (by decide), rfl⟩, t_go dX5_fix_101 (by decide)⟩
theorem ok_125_17 : BkOK mi i_125 (bpf P_125) 17 (B_125.getD 17 bk0) := ⟨107, ⟨3, s_iinc dX5_fix_104 rfl (by decide), rfl⟩, t_go dX5_fix_107 (by decide)⟩
theorem ok_125_18 : BkOK mi i_125 (bpf P_125) 18 (B_125.getD 18 bk0) := ⟨111, ⟨1, s_iload_n dX5_fix_110 rfl, rfl⟩, t_ret dX5_fix_111 rfl⟩
theorem ok_125 : ∀ b, BkOK mi i_125 (bpf P_125) b (B_125.getD b bk0)
  | 0 => ok_125_0
  | 1 => ok_125_1
  | 2 => ok_125_2
  | 3 => ok_125_3
  | 4 => ok_125_4
  | 5 => ok_125_5
  | 6 => ok_125_6
  | 7 => ok_125_7
  | 8 => ok_125_8
  | 9 => ok_125_9
  | 10 => ok_125_10
  | 11 => ok_125_11
  | 12 => ok_125_12
  | 13 => ok_125_13
  | 14 => ok_125_14
  | 15 => ok_125_15
  | 16 => ok_125_16
  | 17 => ok_125_17
  | 18 => ok_125_18
  | b + 19 => bk_none mi i_125 (bpf P_125) (b + 19)
theorem ok_126_0 : BkOK mi i_126 (bpf P_126) 0 (B_126.getD 0 bk0) := ⟨4, ⟨1, s_aload_n dX5_undo_0 rfl, ⟨3, s_get (C := RX5) (T := TX5) (N := 12) dX5_undo_1 rfl (by decide) wt_233 uw_X5, rfl⟩⟩, t_ne0 dX5_undo_4 (by decide) rfl⟩
theorem ok_126_1 : BkOK mi i_126 (bpf P_126) 1 (B_126.getD 1 bk0) := ⟨7, rfl, t_thr ⟨75, 77, ["java/lang/RuntimeException", "java/lang/Exception"], dX5_undo_7, dX5_undo_10, dX5_undo_11, dX5_undo_14, thr_0.1, thr_0.2.1, thr_0.2.2, by decide, by decide⟩⟩
theorem ok_126_2 : BkOK mi i_126 (bpf P_126) 2 (B_126.getD 2 bk0) := ⟨45, ⟨1, s_aload_n dX5_undo_15 rfl, ⟨1, s_dup dX5_undo_16, ⟨3, s_get (C := RX5) (T := TX5) (N := 12) dX5_undo_17 rfl (by decide) wt_233 uw_X5, ⟨1, s_iconst dX5_undo_20 rfl, ⟨1, s_isub dX5_undo_21, ⟨3, s_put (C := RX5) (T := TX5) (N := 12) tyX5 tyX5_ok nmX5 dX5_undo_22 rfl (by decide) rfl (tyX5_ok 10 (by decide)) wt_233 uw_X5, ⟨1, s_aload_n dX5_undo_25 rfl, ⟨3, s_get (C := RX5) (T := TX5) (N := 12) dX5_undo_26 rfl (by decide) wt_231 uw_X5, ⟨1, s_aload_n dX5_undo_29 rfl, ⟨3, s_get (C := RX5) (T := TX5) (N := 12) dX5_undo_30 rfl (by decide) wt_232 uw_X5, ⟨1, s_aload_n dX5_undo_33 rfl, ⟨3, s_get (C := RX5) (T := TX5) (N := 12) dX5_undo_34 rfl (by decide) wt_233 uw_X5, ⟨1, s_iadd dX5_undo_37, ⟨2, s_bipush dX5_undo_38 rfl, ⟨1, s_irem dX5_undo_40, ⟨1, s_aload_n dX5_undo_41 rfl, ⟨3, s_get (C := RX5) (T := TX5) (N := 12) dX5_undo_42 rfl (by decide) wt_223 uw_X5, rfl⟩⟩⟩⟩⟩⟩⟩⟩⟩⟩⟩⟩⟩⟩⟩⟩⟩, t_cv rfl mi_68 mok_68 rfl (fun _ => ⟨rfl, by decide +kernel⟩) (fun hs' e => by cases e; intro E n b h; cases h) (fun q fs As rest h hp hA hr => (call_V (i := i_126) (j := i_68) (C := RX3) (T := TX3) (N := 1) dX5_undo_45 mok_68 rfl ⟨by decide, by decide⟩ np_68 rfl rfl wt_1089 wt_1090 wt_1091 hp hA hr rfl).thr (fun _ => True.intro))⟩
theorem ok_126_3 : BkOK mi i_126 (bpf P_126) 3 (B_126.getD 3 bk0) := ⟨52, ⟨1, s_aload_n dX5_undo_48 rfl, ⟨3, s_get (C := RX5) (T := TX5) (N := 12) dX5_undo_49 rfl (by decide) wt_225 uw_X5, rfl⟩⟩, t_cv rfl mi_29 mok_29 rfl (fun _ => ⟨rfl, by decide +kernel⟩) (fun hs' e => by cases e; intro E n b h; cases h) (fun q fs As rest h hp hA hr => (call_V (i := i_126) (j := i_29) (C := RX1) (T := TX1) (N := 13) dX5_undo_52 mok_29 rfl ⟨by decide, by decide⟩ np_29 rfl rfl wt_465 wt_466 wt_467 hp hA hr rfl).thr (fun _ => True.intro))⟩
theorem ok_126_4 : BkOK mi i_126 (bpf P_126) 4 (B_126.getD 4 bk0) := ⟨59, ⟨1, s_aload_n dX5_undo_55 rfl, ⟨3, s_get (C := RX5) (T := TX5) (N := 12) dX5_undo_56 rfl (by decide) wt_233 uw_X5, rfl⟩⟩, t_ret dX5_undo_59 rfl⟩
theorem ok_126 : ∀ b, BkOK mi i_126 (bpf P_126) b (B_126.getD b bk0)
  | 0 => ok_126_0
  | 1 => ok_126_1
  | 2 => ok_126_2
  | 3 => ok_126_3
  | 4 => ok_126_4
  | b + 5 => bk_none mi i_126 (bpf P_126) (b + 5)
theorem ok_127_0 : BkOK mi i_127 (bpf P_127) 0 (B_127.getD 0 bk0) := ⟨2, ⟨1, s_aload_n dX5_save_0 rfl, ⟨1, s_iload_n dX5_save_1 rfl, rfl⟩⟩, t_cv rfl mi_135 mok_135 rfl (fun _ => ⟨rfl, by decide +kernel⟩) (fun hs' e => by cases e; intro E n b h; cases h) (fun q fs As rest h hp hA hr => (call_V (i := i_127) (j := i_135) (C := RX5) (T := TX5) (N := 12) dX5_save_2 mok_135 rfl ⟨by decide, by decide⟩ np_135 rfl rfl wt_1100 wt_1102 ws_10 hp hA hr rfl).thr (fun _ => True.intro))⟩
theorem ok_127_1 : BkOK mi i_127 (bpf P_127) 1 (B_127.getD 1 bk0) := ⟨14, ⟨1, s_aload_n dX5_save_5 rfl, ⟨3, s_get (C := RX5) (T := TX5) (N := 12) dX5_save_6 rfl (by decide) wt_234 uw_X5, ⟨1, s_iload_n dX5_save_9 rfl, ⟨1, s_aload_n dX5_save_10 rfl, ⟨3, s_get (C := RX5) (T := TX5) (N := 12) dX5_save_11 rfl (by decide) wt_223 uw_X5, rfl⟩⟩⟩⟩⟩, t_cv rfl mi_67 mok_67 rfl (fun _ => ⟨rfl, by decide +kernel⟩) (fun hs' e => by cases e; intro E n b h; cases h) (fun q fs As rest h hp hA hr => (call_V (i := i_127) (j := i_67) (C := RX3) (T := TX3) (N := 1) dX5_save_14 mok_67 rfl ⟨by decide, by decide⟩ np_67 rfl rfl wt_448 wt_449 wt_450 hp hA hr rfl).thr (fun _ => True.intro))⟩
theorem ok_127_2 : BkOK mi i_127 (bpf P_127) 2 (B_127.getD 2 bk0) := ⟨17, rfl, t_retV dX5_save_17 rfl⟩
theorem ok_127 : ∀ b, BkOK mi i_127 (bpf P_127) b (B_127.getD b bk0)
  | 0 => ok_127_0
  | 1 => ok_127_1
  | 2 => ok_127_2
  | b + 3 => bk_none mi i_127 (bpf P_127) (b + 3)
theorem ok_128_0 : BkOK mi i_128 (bpf P_128) 0 (B_128.getD 0 bk0) := ⟨2, ⟨1, s_aload_n dX5_restore_0 rfl, ⟨1, s_iload_n dX5_restore_1 rfl, rfl⟩⟩, t_cv rfl mi_135 mok_135 rfl (fun _ => ⟨rfl, by decide +kernel⟩) (fun hs' e => by cases e; intro E n b h; cases h) (fun q fs As rest h hp hA hr => (call_V (i := i_128) (j := i_135) (C := RX5) (T := TX5) (N := 12) dX5_restore_2 mok_135 rfl ⟨by decide, by decide⟩ np_135 rfl rfl wt_1100 wt_1102 ws_10 hp hA hr rfl).thr (fun _ => True.intro))⟩
theorem ok_128_1 : BkOK mi i_128 (bpf P_128) 1 (B_128.getD 1 bk0) := ⟨10, ⟨1, s_aload_n dX5_restore_5 rfl, ⟨3, s_get (C := RX5) (T := TX5) (N := 12) dX5_restore_6 rfl (by decide) wt_234 uw_X5, ⟨1, s_iload_n dX5_restore_9 rfl, rfl⟩⟩⟩, t_cv rfl mi_66 mok_66 rfl (fun _ => ⟨rfl, by decide +kernel⟩) (fun hs' e => by cases e; intro E n b h; cases h) (fun q fs As rest h hp hA hr => (call_V (i := i_128) (j := i_66) (C := RX3) (T := TX3) (N := 1) dX5_restore_10 mok_66 rfl ⟨by decide, by decide⟩ np_66 rfl rfl wt_1111 wt_1112 wt_1113 hp hA hr rfl).thr (fun _ => True.intro))⟩
theorem ok_128_2 : BkOK mi i_128 (bpf P_128) 2 (B_128.getD 2 bk0) := ⟨13, rfl, t_ne0 dX5_restore_13 (by decide) rfl⟩
theorem ok_128_3 : BkOK mi i_128 (bpf P_128) 3 (B_128.getD 3 bk0) := ⟨16, rfl, t_thr ⟨75, 77, ["java/lang/RuntimeException", "java/lang/Exception"], dX5_restore_16, dX5_restore_19, dX5_restore_20, dX5_restore_23, thr_0.1, thr_0.2.1, thr_0.2.2, by decide, by decide⟩⟩
theorem ok_128_4 : BkOK mi i_128 (bpf P_128) 4 (B_128.getD 4 bk0) := ⟨25, ⟨1, s_aload_n dX5_restore_24 rfl, rfl⟩, t_cv rfl mi_138 mok_138 rfl (fun _ => ⟨rfl, by decide +kernel⟩) (fun hs' e => by cases e; intro E n b h; cases h) (fun q fs As rest h hp hA hr => (call_V (i := i_128) (j := i_138) (C := RX5) (T := TX5) (N := 12) dX5_restore_25 mok_138 rfl ⟨by decide, by decide⟩ np_138 rfl rfl wt_444 wt_446 ws_0 hp hA hr rfl).thr (fun _ => True.intro))⟩
theorem ok_128_5 : BkOK mi i_128 (bpf P_128) 5 (B_128.getD 5 bk0) := ⟨37, ⟨1, s_aload_n dX5_restore_28 rfl, ⟨3, s_get (C := RX5) (T := TX5) (N := 12) dX5_restore_29 rfl (by decide) wt_234 uw_X5, ⟨1, s_iload_n dX5_restore_32 rfl, ⟨1, s_aload_n dX5_restore_33 rfl, ⟨3, s_get (C := RX5) (T := TX5) (N := 12) dX5_restore_34 rfl (by decide) wt_223 uw_X5, rfl⟩⟩⟩⟩⟩, t_cv rfl mi_68 mok_68 rfl (fun _ => ⟨rfl, by decide +kernel⟩) (fun hs' e => by cases e; intro E n b h; cases h) (fun q fs As rest h hp hA hr => (call_V (i := i_128) (j := i_68) (C := RX3) (T := TX3) (N := 1) dX5_restore_37 mok_68 rfl ⟨by decide, by decide⟩ np_68 rfl rfl wt_1089 wt_1090 wt_1091 hp hA hr rfl).thr (fun _ => True.intro))⟩
theorem ok_128_6 : BkOK mi i_128 (bpf P_128) 6 (B_128.getD 6 bk0) := ⟨47, ⟨1, s_aload_n dX5_restore_40 rfl, ⟨3, s_get (C := RX5) (T := TX5) (N := 12) dX5_restore_41 rfl (by decide) wt_223 uw_X5, ⟨3, s_getN (C := RX0) (T := TX0) (N := 10) dX5_restore_44 rfl (by decide) wt_74 uw_X0, rfl⟩⟩⟩, t_ret dX5_restore_47 rfl⟩
theorem ok_128 : ∀ b, BkOK mi i_128 (bpf P_128) b (B_128.getD b bk0)
  | 0 => ok_128_0
  | 1 => ok_128_1
  | 2 => ok_128_2
  | 3 => ok_128_3
  | 4 => ok_128_4
  | 5 => ok_128_5
  | 6 => ok_128_6
  | b + 7 => bk_none mi i_128 (bpf P_128) (b + 7)
theorem ok_129_0 : BkOK mi i_129 (bpf P_129) 0 (B_129.getD 0 bk0) := ⟨1, ⟨1, s_aload_n dX5_writeFingers_0 rfl, rfl⟩, t_cv rfl mi_137 mok_137 rfl (fun _ => ⟨rfl, by decide +kernel⟩) (fun hs' e => by cases e; intro E n b h; cases h) (fun q fs As rest h hp hA hr => (call_V (i := i_129) (j := i_137) (C := RX5) (T := TX5) (N := 12) dX5_writeFingers_1 mok_137 rfl ⟨by decide, by decide⟩ np_137 rfl rfl wt_886 wt_888 ws_8 hp hA hr rfl).thr (fun _ => True.intro))⟩
theorem ok_129_1 : BkOK mi i_129 (bpf P_129) 1 (B_129.getD 1 bk0) := ⟨11, ⟨1, s_aload_n dX5_writeFingers_4 rfl, ⟨1, s_iconst dX5_writeFingers_5 rfl, ⟨3, s_put (C := RX5) (T := TX5) (N := 12) tyX5 tyX5_ok nmX5 dX5_writeFingers_6 rfl (by decide) rfl (tyX5_ok 7 (by decide)) wt_230 uw_X5, ⟨1, s_iconst dX5_writeFingers_9 rfl, ⟨1, s_istore_n dX5_writeFingers_10 rfl (by decide), rfl⟩⟩⟩⟩⟩, t_fall rfl⟩
theorem ok_129_2 : BkOK mi i_129 (bpf P_129) 2 (B_129.getD 2 bk0) := ⟨19, ⟨1, s_iload_n dX5_writeFingers_11 rfl, ⟨1, s_aload_n dX5_writeFingers_12 rfl, ⟨3, s_get (C := RX5) (T := TX5) (N := 12) dX5_writeFingers_13 rfl (by decide) wt_223 uw_X5, ⟨3, s_getN (C := RX0) (T := TX0) (N := 10) dX5_writeFingers_16 rfl (by decide) wt_74 uw_X0, rfl⟩⟩⟩⟩, t_ge dX5_writeFingers_19 (by decide) rfl⟩
theorem ok_129_3 : BkOK mi i_129 (bpf P_129) 3 (B_129.getD 3 bk0) := ⟨23, ⟨1, s_iload_n dX5_writeFingers_22 rfl, rfl⟩, t_le0 dX5_writeFingers_23 (by decide) rfl⟩
theorem ok_129_4 : BkOK mi i_129 (bpf P_129) 4 (B_129.getD 4 bk0) := ⟨29, ⟨1, s_aload_n dX5_writeFingers_26 rfl, ⟨2, s_bipush dX5_writeFingers_27 rfl, rfl⟩⟩, t_cv rfl mi_141 mok_141 rfl (fun _ => ⟨rfl, by decide +kernel⟩) (fun hs' e => by cases e; intro E n b h; cases h) (fun q fs As rest h hp hA hr => (call_V (i := i_129) (j := i_141) (C := RX5) (T := TX5) (N := 12) dX5_writeFingers_29 mok_141 rfl ⟨by decide, by decide⟩ np_141 rfl rfl wt_1122 wt_1124 ws_11 hp hA hr rfl).thr (fun _ => True.intro))⟩
theorem ok_129_5 : BkOK mi i_129 (bpf P_129) 5 (B_129.getD 5 bk0) := ⟨34, ⟨1, s_iconst dX5_writeFingers_32 rfl, ⟨1, s_istore_n dX5_writeFingers_33 rfl (by decide), rfl⟩⟩, t_fall rfl⟩
theorem ok_129_6 : BkOK mi i_129 (bpf P_129) 6 (B_129.getD 6 bk0) := ⟨43, ⟨1, s_iload_n dX5_writeFingers_34 rfl, ⟨1, s_aload_n dX5_writeFingers_35 rfl, ⟨3, s_get (C := RX5) (T := TX5) (N := 12) dX5_writeFingers_36 rfl (by decide) wt_223 uw_X5, ⟨3, s_getN (C := RX0) (T := TX0) (N := 10) dX5_writeFingers_39 rfl (by decide) wt_78 uw_X0, ⟨1, s_iload_n dX5_writeFingers_42 rfl, rfl⟩⟩⟩⟩⟩, t_cv rfl mi_62 mok_62 rfl (fun _ => ⟨rfl, by decide +kernel⟩) (fun hs' e => by cases e; intro E n b h; cases h) (fun q fs As rest h hp hA hr => (call_V (i := i_129) (j := i_62) (C := RX2) (T := TX2) (N := 1) dX5_writeFingers_43 mok_62 rfl ⟨by decide, by decide⟩ np_62 rfl rfl wt_661 wt_277 wt_278 hp hA hr rfl).thr (fun _ => True.intro))⟩
theorem ok_129_7 : BkOK mi i_129 (bpf P_129) 7 (B_129.getD 7 bk0) := ⟨46, rfl, t_ge dX5_writeFingers_46 (by decide) rfl⟩
theorem ok_129_8 : BkOK mi i_129 (bpf P_129) 8 (B_129.getD 8 bk0) := ⟨58, ⟨1, s_aload_n dX5_writeFingers_49 rfl, ⟨2, s_bipush dX5_writeFingers_50 rfl, ⟨1, s_aload_n dX5_writeFingers_52 rfl, ⟨3, s_get (C := RX5) (T := TX5) (N := 12) dX5_writeFingers_53 rfl (by decide) wt_225 uw_X5, ⟨1, s_iload_n dX5_writeFingers_56 rfl, ⟨1, s_iload_n dX5_writeFingers_57 rfl, rfl⟩⟩⟩⟩⟩⟩, t_cv rfl mi_47 mok_47 rfl (fun _ => ⟨rfl, by decide +kernel⟩) (fun hs' e => by cases e; intro E n b h; cases h) (fun q fs As rest h hp hA hr => (call_V (i := i_129) (j := i_47) (C := RX1) (T := TX1) (N := 13) dX5_writeFingers_58 mok_47 rfl ⟨by decide, by decide⟩ np_47 rfl rfl wt_905 wt_906 wt_907 hp hA hr rfl).thr (fun _ => True.intro))⟩
theorem ok_129_9 : BkOK mi i_129 (bpf P_129) 9 (B_129.getD 9 bk0) := ⟨62, ⟨1, s_iadd dX5_writeFingers_61, rfl⟩, t_cv rfl mi_141 mok_141 rfl (fun _ => ⟨rfl, by decide +kernel⟩) (fun hs' e => by cases e; intro E n b h; cases h) (fun q fs As rest h hp hA hr => (call_V (i := i_129) (j := i_141) (C := RX5) (T := TX5) (N := 12) dX5_writeFingers_62 mok_141 rfl ⟨by decide, by decide⟩ np_141 rfl rfl wt_1122 wt_1124 ws_11 hp hA hr rfl).thr (fun _ => True.intro))⟩
theorem ok_129_10 : BkOK mi i_129 (bpf P_129) 10 (B_129.getD 10 bk0) := ⟨68, ⟨3, s_iinc dX5_writeFingers_65 rfl (by decide), rfl⟩, t_go dX5_writeFingers_68 (by decide)⟩
theorem ok_129_11 : BkOK mi i_129 (bpf P_129) 11 (B_129.getD 11 bk0) := ⟨81, ⟨1, s_iload_n dX5_writeFingers_71 rfl, ⟨1, s_aload_n dX5_writeFingers_72 rfl, ⟨3, s_get (C := RX5) (T := TX5) (N := 12) dX5_writeFingers_73 rfl (by decide) wt_223 uw_X5, ⟨3, s_getN (C := RX0) (T := TX0) (N := 10) dX5_writeFingers_76 rfl (by decide) wt_74 uw_X0, ⟨1, s_iconst dX5_writeFingers_79 rfl, ⟨1, s_isub dX5_writeFingers_80, rfl⟩⟩⟩⟩⟩⟩, t_ge dX5_writeFingers_81 (by decide) rfl⟩
theorem ok_129_12 : BkOK mi i_129 (bpf P_129) 12 (B_129.getD 12 bk0) := ⟨96, ⟨1, s_aload_n dX5_writeFingers_84 rfl, ⟨3, s_get (C := RX5) (T := TX5) (N := 12) dX5_writeFingers_85 rfl (by decide) wt_223 uw_X5, ⟨1, s_aload_n dX5_writeFingers_88 rfl, ⟨3, s_get (C := RX5) (T := TX5) (N := 12) dX5_writeFingers_89 rfl (by decide) wt_223 uw_X5, ⟨3, s_getN (C := RX0) (T := TX0) (N := 10) dX5_writeFingers_92 rfl (by decide) wt_81 uw_X0, ⟨1, s_iload_n dX5_writeFingers_95 rfl, rfl⟩⟩⟩⟩⟩⟩, t_cv rfl mi_62 mok_62 rfl (fun _ => ⟨rfl, by decide +kernel⟩) (fun hs' e => by cases e; intro E n b h; cases h) (fun q fs As rest h hp hA hr => (call_V (i := i_129) (j := i_62) (C := RX2) (T := TX2) (N := 1) dX5_writeFingers_96 mok_62 rfl ⟨by decide, by decide⟩ np_62 rfl rfl wt_661 wt_277 wt_278 hp hA hr rfl).thr (fun _ => True.intro))⟩
theorem ok_129_13 : BkOK mi i_129 (bpf P_129) 13 (B_129.getD 13 bk0) := ⟨99, rfl, t_cv rfl mi_16 mok_16 rfl (fun _ => ⟨rfl, by decide +kernel⟩) (fun hs' e => by cases e; intro E n b h; cases h) (fun q fs As rest h hp hA hr => (call_V (i := i_129) (j := i_16) (C := RX0) (T := TX0) (N := 10) dX5_writeFingers_99 mok_16 rfl ⟨by decide, by decide⟩ np_16 rfl rfl wt_1126 wt_541 wt_542 hp hA hr rfl).thr (fun _ => True.intro))⟩
theorem ok_129_14 : BkOK mi i_129 (bpf P_129) 14 (B_129.getD 14 bk0) := ⟨102, rfl, t_eq0 dX5_writeFingers_102 (by decide) rfl⟩
theorem ok_129_15 : BkOK mi i_129 (bpf P_129) 15 (B_129.getD 15 bk0) := ⟨108, ⟨1, s_aload_n dX5_writeFingers_105 rfl, ⟨2, s_bipush dX5_writeFingers_106 rfl, rfl⟩⟩, t_cv rfl mi_141 mok_141 rfl (fun _ => ⟨rfl, by decide +kernel⟩) (fun hs' e => by cases e; intro E n b h; cases h) (fun q fs As rest h hp hA hr => (call_V (i := i_129) (j := i_141) (C := RX5) (T := TX5) (N := 12) dX5_writeFingers_108 mok_141 rfl ⟨by decide, by decide⟩ np_141 rfl rfl wt_1122 wt_1124 ws_11 hp hA hr rfl).thr (fun _ => True.intro))⟩
theorem ok_129_16 : BkOK mi i_129 (bpf P_129) 16 (B_129.getD 16 bk0) := ⟨114, ⟨3, s_iinc dX5_writeFingers_111 rfl (by decide), rfl⟩, t_go dX5_writeFingers_114 (by decide)⟩
theorem ok_129_17 : BkOK mi i_129 (bpf P_129) 17 (B_129.getD 17 bk0) := ⟨121, ⟨1, s_aload_n dX5_writeFingers_117 rfl, ⟨3, s_get (C := RX5) (T := TX5) (N := 12) dX5_writeFingers_118 rfl (by decide) wt_230 uw_X5, rfl⟩⟩, t_ret dX5_writeFingers_121 rfl⟩
theorem ok_129 : ∀ b, BkOK mi i_129 (bpf P_129) b (B_129.getD b bk0)
  | 0 => ok_129_0
  | 1 => ok_129_1
  | 2 => ok_129_2
  | 3 => ok_129_3
  | 4 => ok_129_4
  | 5 => ok_129_5
  | 6 => ok_129_6
  | 7 => ok_129_7
  | 8 => ok_129_8
  | 9 => ok_129_9
  | 10 => ok_129_10
  | 11 => ok_129_11
  | 12 => ok_129_12
  | 13 => ok_129_13
  | 14 => ok_129_14
  | 15 => ok_129_15
  | 16 => ok_129_16
  | 17 => ok_129_17
  | b + 18 => bk_none mi i_129 (bpf P_129) (b + 18)
theorem ok_130_0 : BkOK mi i_130 (bpf P_130) 0 (B_130.getD 0 bk0) := ⟨8, ⟨1, s_iload_n dX5_writtenByte_0 rfl, ⟨1, s_iconst dX5_writtenByte_1 rfl, ⟨1, s_aload_n dX5_writtenByte_2 rfl, ⟨3, s_get (C := RX5) (T := TX5) (N := 12) dX5_writtenByte_3 rfl (by decide) wt_230 uw_X5, ⟨1, s_iconst dX5_writtenByte_6 rfl, ⟨1, s_isub dX5_writtenByte_7, rfl⟩⟩⟩⟩⟩⟩, t_cs rfl mi_142 mok_142 rfl (fun As rest h hA hr => call_S dX5_writtenByte_8 mok_142 rfl ⟨by decide, by decide⟩ np_142 wt_819 wt_285 hA hr)⟩
theorem ok_130_1 : BkOK mi i_130 (bpf P_130) 1 (B_130.getD 1 bk0) := ⟨11, rfl, t_ne0 dX5_writtenByte_11 (by decide) rfl⟩
theorem ok_130_2 : BkOK mi i_130 (bpf P_130) 2 (B_130.getD 2 bk0) := ⟨14, rfl, t_thr ⟨252, 254, ["java/lang/RuntimeException", "java/lang/Exception"], dX5_writtenByte_14, dX5_writtenByte_17, dX5_writtenByte_18, dX5_writtenByte_21, thr_2.1, thr_2.2.1, thr_2.2.2, by decide, by decide⟩⟩
theorem ok_130_3 : BkOK mi i_130 (bpf P_130) 3 (B_130.getD 3 bk0) := ⟨27, ⟨1, s_aload_n dX5_writtenByte_22 rfl, ⟨3, s_get (C := RX5) (T := TX5) (N := 12) dX5_writtenByte_23 rfl (by decide) wt_229 uw_X5, ⟨1, s_iload_n dX5_writtenByte_26 rfl, rfl⟩⟩⟩, t_cv rfl mi_62 mok_62 rfl (fun _ => ⟨rfl, by decide +kernel⟩) (fun hs' e => by cases e; intro E n b h; cases h) (fun q fs As rest h hp hA hr => (call_V (i := i_130) (j := i_62) (C := RX2) (T := TX2) (N := 1) dX5_writtenByte_27 mok_62 rfl ⟨by decide, by decide⟩ np_62 rfl rfl wt_661 wt_277 wt_278 hp hA hr rfl).thr (fun _ => True.intro))⟩
theorem ok_130_4 : BkOK mi i_130 (bpf P_130) 4 (B_130.getD 4 bk0) := ⟨30, rfl, t_ret dX5_writtenByte_30 rfl⟩
theorem ok_130 : ∀ b, BkOK mi i_130 (bpf P_130) b (B_130.getD b bk0)
  | 0 => ok_130_0
  | 1 => ok_130_1
  | 2 => ok_130_2
  | 3 => ok_130_3
  | 4 => ok_130_4
  | b + 5 => bk_none mi i_130 (bpf P_130) (b + 5)
theorem ok_131_0 : BkOK mi i_131 (bpf P_131) 0 (B_131.getD 0 bk0) := ⟨11, ⟨1, s_iload_n dX5_needEvent_0 rfl, ⟨1, s_iconst dX5_needEvent_1 rfl, ⟨1, s_aload_n dX5_needEvent_2 rfl, ⟨3, s_get (C := RX5) (T := TX5) (N := 12) dX5_needEvent_3 rfl (by decide) wt_223 uw_X5, ⟨3, s_getN (C := RX0) (T := TX0) (N := 10) dX5_needEvent_6 rfl (by decide) wt_74 uw_X0, ⟨1, s_iconst dX5_needEvent_9 rfl, ⟨1, s_isub dX5_needEvent_10, rfl⟩⟩⟩⟩⟩⟩⟩, t_cs rfl mi_142 mok_142 rfl (fun As rest h hA hr => call_S dX5_needEvent_11 mok_142 rfl ⟨by decide, by decide⟩ np_142 wt_819 wt_285 hA hr)⟩
theorem ok_131_1 : BkOK mi i_131 (bpf P_131) 1 (B_131.getD 1 bk0) := ⟨14, rfl, t_ne0 dX5_needEvent_14 (by decide) rfl⟩
theorem ok_131_2 : BkOK mi i_131 (bpf P_131) 2 (B_131.getD 2 bk0) := ⟨17, rfl, t_thr ⟨252, 254, ["java/lang/RuntimeException", "java/lang/Exception"], dX5_needEvent_17, dX5_needEvent_20, dX5_needEvent_21, dX5_needEvent_24, thr_2.1, thr_2.2.1, thr_2.2.2, by decide, by decide⟩⟩
theorem ok_131_3 : BkOK mi i_131 (bpf P_131) 3 (B_131.getD 3 bk0) := ⟨25, rfl, t_retV dX5_needEvent_25 rfl⟩
theorem ok_131 : ∀ b, BkOK mi i_131 (bpf P_131) b (B_131.getD b bk0)
  | 0 => ok_131_0
  | 1 => ok_131_1
  | 2 => ok_131_2
  | 3 => ok_131_3
  | b + 4 => bk_none mi i_131 (bpf P_131) (b + 4)
theorem ok_132_0 : BkOK mi i_132 (bpf P_132) 0 (B_132.getD 0 bk0) := ⟨2, ⟨1, s_aload_n dX5_needNote_0 rfl, ⟨1, s_iload_n dX5_needNote_1 rfl, rfl⟩⟩, t_cv rfl mi_131 mok_131 rfl (fun _ => ⟨rfl, by decide +kernel⟩) (fun hs' e => by cases e; intro E n b h; cases h) (fun q fs As rest h hp hA hr => (call_V (i := i_132) (j := i_131) (C := RX5) (T := TX5) (N := 12) dX5_needNote_2 mok_131 rfl ⟨by decide, by decide⟩ np_131 rfl rfl wt_815 wt_817 ws_4 hp hA hr rfl).thr (fun _ => True.intro))⟩
theorem ok_132_1 : BkOK mi i_132 (bpf P_132) 1 (B_132.getD 1 bk0) := ⟨15, ⟨1, s_iload_n dX5_needNote_5 rfl, ⟨1, s_iconst dX5_needNote_6 rfl, ⟨1, s_aload_n dX5_needNote_7 rfl, ⟨3, s_get (C := RX5) (T := TX5) (N := 12) dX5_needNote_8 rfl (by decide) wt_223 uw_X5, ⟨3, s_getN (C := RX0) (T := TX0) (N := 10) dX5_needNote_11 rfl (by decide) wt_78 uw_X0, ⟨1, s_iload_n dX5_needNote_14 rfl, rfl⟩⟩⟩⟩⟩⟩, t_cv rfl mi_62 mok_62 rfl (fun _ => ⟨rfl, by decide +kernel⟩) (fun hs' e => by cases e; intro E n b h; cases h) (fun q fs As rest h hp hA hr => (call_V (i := i_132) (j := i_62) (C := RX2) (T := TX2) (N := 1) dX5_needNote_15 mok_62 rfl ⟨by decide, by decide⟩ np_62 rfl rfl wt_661 wt_277 wt_278 hp hA hr rfl).thr (fun _ => True.intro))⟩
theorem ok_132_2 : BkOK mi i_132 (bpf P_132) 2 (B_132.getD 2 bk0) := ⟨20, ⟨1, s_iconst dX5_needNote_18 rfl, ⟨1, s_isub dX5_needNote_19, rfl⟩⟩, t_cs rfl mi_142 mok_142 rfl (fun As rest h hA hr => call_S dX5_needNote_20 mok_142 rfl ⟨by decide, by decide⟩ np_142 wt_819 wt_285 hA hr)⟩
theorem ok_132_3 : BkOK mi i_132 (bpf P_132) 3 (B_132.getD 3 bk0) := ⟨23, rfl, t_ne0 dX5_needNote_23 (by decide) rfl⟩
theorem ok_132_4 : BkOK mi i_132 (bpf P_132) 4 (B_132.getD 4 bk0) := ⟨26, rfl, t_thr ⟨252, 254, ["java/lang/RuntimeException", "java/lang/Exception"], dX5_needNote_26, dX5_needNote_29, dX5_needNote_30, dX5_needNote_33, thr_2.1, thr_2.2.1, thr_2.2.2, by decide, by decide⟩⟩
theorem ok_132_5 : BkOK mi i_132 (bpf P_132) 5 (B_132.getD 5 bk0) := ⟨34, rfl, t_retV dX5_needNote_34 rfl⟩
theorem ok_132 : ∀ b, BkOK mi i_132 (bpf P_132) b (B_132.getD b bk0)
  | 0 => ok_132_0
  | 1 => ok_132_1
  | 2 => ok_132_2
  | 3 => ok_132_3
  | 4 => ok_132_4
  | 5 => ok_132_5
  | b + 6 => bk_none mi i_132 (bpf P_132) (b + 6)
theorem ok_133_0 : BkOK mi i_133 (bpf P_133) 0 (B_133.getD 0 bk0) := ⟨3, ⟨1, s_iload_n dX5_needFinger_0 rfl, ⟨1, s_iconst dX5_needFinger_1 rfl, ⟨1, s_iconst dX5_needFinger_2 rfl, rfl⟩⟩⟩, t_cs rfl mi_142 mok_142 rfl (fun As rest h hA hr => call_S dX5_needFinger_3 mok_142 rfl ⟨by decide, by decide⟩ np_142 wt_819 wt_285 hA hr)⟩
theorem ok_133_1 : BkOK mi i_133 (bpf P_133) 1 (B_133.getD 1 bk0) := ⟨6, rfl, t_ne0 dX5_needFinger_6 (by decide) rfl⟩
theorem ok_133_2 : BkOK mi i_133 (bpf P_133) 2 (B_133.getD 2 bk0) := ⟨9, rfl, t_thr ⟨252, 254, ["java/lang/RuntimeException", "java/lang/Exception"], dX5_needFinger_9, dX5_needFinger_12, dX5_needFinger_13, dX5_needFinger_16, thr_2.1, thr_2.2.1, thr_2.2.2, by decide, by decide⟩⟩
theorem ok_133_3 : BkOK mi i_133 (bpf P_133) 3 (B_133.getD 3 bk0) := ⟨17, rfl, t_retV dX5_needFinger_17 rfl⟩
theorem ok_133 : ∀ b, BkOK mi i_133 (bpf P_133) b (B_133.getD b bk0)
  | 0 => ok_133_0
  | 1 => ok_133_1
  | 2 => ok_133_2
  | 3 => ok_133_3
  | b + 4 => bk_none mi i_133 (bpf P_133) (b + 4)
theorem ok_134_0 : BkOK mi i_134 (bpf P_134) 0 (B_134.getD 0 bk0) := ⟨4, ⟨1, s_iload_n dX5_needWeight_0 rfl, ⟨1, s_iconst dX5_needWeight_1 rfl, ⟨2, s_bipush dX5_needWeight_2 rfl, rfl⟩⟩⟩, t_cs rfl mi_142 mok_142 rfl (fun As rest h hA hr => call_S dX5_needWeight_4 mok_142 rfl ⟨by decide, by decide⟩ np_142 wt_819 wt_285 hA hr)⟩
theorem ok_134_1 : BkOK mi i_134 (bpf P_134) 1 (B_134.getD 1 bk0) := ⟨7, rfl, t_ne0 dX5_needWeight_7 (by decide) rfl⟩
theorem ok_134_2 : BkOK mi i_134 (bpf P_134) 2 (B_134.getD 2 bk0) := ⟨10, rfl, t_thr ⟨252, 254, ["java/lang/RuntimeException", "java/lang/Exception"], dX5_needWeight_10, dX5_needWeight_13, dX5_needWeight_14, dX5_needWeight_17, thr_2.1, thr_2.2.1, thr_2.2.2, by decide, by decide⟩⟩
theorem ok_134_3 : BkOK mi i_134 (bpf P_134) 3 (B_134.getD 3 bk0) := ⟨18, rfl, t_retV dX5_needWeight_18 rfl⟩
theorem ok_134 : ∀ b, BkOK mi i_134 (bpf P_134) b (B_134.getD b bk0)
  | 0 => ok_134_0
  | 1 => ok_134_1
  | 2 => ok_134_2
  | 3 => ok_134_3
  | b + 4 => bk_none mi i_134 (bpf P_134) (b + 4)
theorem ok_135_0 : BkOK mi i_135 (bpf P_135) 0 (B_135.getD 0 bk0) := ⟨3, ⟨1, s_iload_n dX5_needSlot_0 rfl, ⟨1, s_iconst dX5_needSlot_1 rfl, ⟨1, s_iconst dX5_needSlot_2 rfl, rfl⟩⟩⟩, t_cs rfl mi_142 mok_142 rfl (fun As rest h hA hr => call_S dX5_needSlot_3 mok_142 rfl ⟨by decide, by decide⟩ np_142 wt_819 wt_285 hA hr)⟩
theorem ok_135_1 : BkOK mi i_135 (bpf P_135) 1 (B_135.getD 1 bk0) := ⟨6, rfl, t_ne0 dX5_needSlot_6 (by decide) rfl⟩
theorem ok_135_2 : BkOK mi i_135 (bpf P_135) 2 (B_135.getD 2 bk0) := ⟨9, rfl, t_thr ⟨252, 254, ["java/lang/RuntimeException", "java/lang/Exception"], dX5_needSlot_9, dX5_needSlot_12, dX5_needSlot_13, dX5_needSlot_16, thr_2.1, thr_2.2.1, thr_2.2.2, by decide, by decide⟩⟩
theorem ok_135_3 : BkOK mi i_135 (bpf P_135) 3 (B_135.getD 3 bk0) := ⟨17, rfl, t_retV dX5_needSlot_17 rfl⟩
theorem ok_135 : ∀ b, BkOK mi i_135 (bpf P_135) b (B_135.getD b bk0)
  | 0 => ok_135_0
  | 1 => ok_135_1
  | 2 => ok_135_2
  | 3 => ok_135_3
  | b + 4 => bk_none mi i_135 (bpf P_135) (b + 4)
theorem ok_136_0 : BkOK mi i_136 (bpf P_136) 0 (B_136.getD 0 bk0) := ⟨5, ⟨1, s_iload_n dX5_needTransposable_0 rfl, ⟨2, s_bipush dX5_needTransposable_1 rfl, ⟨2, s_bipush dX5_needTransposable_3 rfl, rfl⟩⟩⟩, t_cs rfl mi_142 mok_142 rfl (fun As rest h hA hr => call_S dX5_needTransposable_5 mok_142 rfl ⟨by decide, by decide⟩ np_142 wt_819 wt_285 hA hr)⟩
theorem ok_136_1 : BkOK mi i_136 (bpf P_136) 1 (B_136.getD 1 bk0) := ⟨8, rfl, t_eq0 dX5_needTransposable_8 (by decide) rfl⟩
theorem ok_136_2 : BkOK mi i_136 (bpf P_136) 2 (B_136.getD 2 bk0) := ⟨16, ⟨1, s_aload_n dX5_needTransposable_11 rfl, ⟨3, s_get (C := RX5) (T := TX5) (N := 12) dX5_needTransposable_12 rfl (by decide) wt_223 uw_X5, ⟨1, s_iload_n dX5_needTransposable_15 rfl, rfl⟩⟩⟩, t_cv rfl mi_8 mok_8 rfl (fun _ => ⟨rfl, by decide +kernel⟩) (fun hs' e => by cases e; intro E n b h; cases h) (fun q fs As rest h hp hA hr => (call_V (i := i_136) (j := i_8) (C := RX0) (T := TX0) (N := 10) dX5_needTransposable_16 mok_8 rfl ⟨by decide, by decide⟩ np_8 rfl rfl wt_990 wt_991 wt_992 hp hA hr rfl).thr (fun _ => True.intro))⟩
theorem ok_136_3 : BkOK mi i_136 (bpf P_136) 3 (B_136.getD 3 bk0) := ⟨19, rfl, t_ne0 dX5_needTransposable_19 (by decide) rfl⟩
theorem ok_136_4 : BkOK mi i_136 (bpf P_136) 4 (B_136.getD 4 bk0) := ⟨22, rfl, t_thr ⟨121, 123, ["java/lang/RuntimeException", "java/lang/Exception"], dX5_needTransposable_22, dX5_needTransposable_25, dX5_needTransposable_26, dX5_needTransposable_29, thr_1.1, thr_1.2.1, thr_1.2.2, by decide, by decide⟩⟩
theorem ok_136_5 : BkOK mi i_136 (bpf P_136) 5 (B_136.getD 5 bk0) := ⟨30, rfl, t_retV dX5_needTransposable_30 rfl⟩
theorem ok_136 : ∀ b, BkOK mi i_136 (bpf P_136) b (B_136.getD b bk0)
  | 0 => ok_136_0
  | 1 => ok_136_1
  | 2 => ok_136_2
  | 3 => ok_136_3
  | 4 => ok_136_4
  | 5 => ok_136_5
  | b + 6 => bk_none mi i_136 (bpf P_136) (b + 6)
theorem ok_137_0 : BkOK mi i_137 (bpf P_137) 0 (B_137.getD 0 bk0) := ⟨8, ⟨1, s_aload_n dX5_needFingering_0 rfl, ⟨3, s_get (C := RX5) (T := TX5) (N := 12) dX5_needFingering_1 rfl (by decide) wt_225 uw_X5, ⟨1, s_aload_n dX5_needFingering_4 rfl, ⟨3, s_get (C := RX5) (T := TX5) (N := 12) dX5_needFingering_5 rfl (by decide) wt_223 uw_X5, rfl⟩⟩⟩⟩, t_cv rfl mi_30 mok_30 rfl (fun _ => ⟨rfl, by decide +kernel⟩) (fun hs' e => by cases e; intro E n b h; cases h) (fun q fs As rest h hp hA hr => (call_V (i := i_137) (j := i_30) (C := RX1) (T := TX1) (N := 13) dX5_needFingering_8 mok_30 rfl ⟨by decide, by decide⟩ np_30 rfl rfl wt_479 wt_480 wt_481 hp hA hr rfl).thr (fun _ => True.intro))⟩
theorem ok_137_1 : BkOK mi i_137 (bpf P_137) 1 (B_137.getD 1 bk0) := ⟨19, ⟨1, s_aload_n dX5_needFingering_11 rfl, ⟨3, s_get (C := RX5) (T := TX5) (N := 12) dX5_needFingering_12 rfl (by decide) wt_225 uw_X5, ⟨3, s_getN (C := RX1) (T := TX1) (N := 13) dX5_needFingering_15 rfl (by decide) wt_129 uw_X1, ⟨1, s_iconst dX5_needFingering_18 rfl, rfl⟩⟩⟩⟩, t_nei dX5_needFingering_19 (by decide) rfl⟩
theorem ok_137_2 : BkOK mi i_137 (bpf P_137) 2 (B_137.getD 2 bk0) := ⟨22, rfl, t_thr ⟨300, 302, ["java/lang/RuntimeException", "java/lang/Exception"], dX5_needFingering_22, dX5_needFingering_25, dX5_needFingering_26, dX5_needFingering_29, thr_3.1, thr_3.2.1, thr_3.2.2, by decide, by decide⟩⟩
theorem ok_137_3 : BkOK mi i_137 (bpf P_137) 3 (B_137.getD 3 bk0) := ⟨30, rfl, t_retV dX5_needFingering_30 rfl⟩
theorem ok_137 : ∀ b, BkOK mi i_137 (bpf P_137) b (B_137.getD b bk0)
  | 0 => ok_137_0
  | 1 => ok_137_1
  | 2 => ok_137_2
  | 3 => ok_137_3
  | b + 4 => bk_none mi i_137 (bpf P_137) (b + 4)
theorem ok_138_0 : BkOK mi i_138 (bpf P_138) 0 (B_138.getD 0 bk0) := ⟨6, ⟨1, s_aload_n dX5_remember_0 rfl, ⟨3, s_get (C := RX5) (T := TX5) (N := 12) dX5_remember_1 rfl (by decide) wt_233 uw_X5, ⟨2, s_bipush dX5_remember_4 rfl, rfl⟩⟩⟩, t_nei dX5_remember_6 (by decide) rfl⟩
theorem ok_138_1 : BkOK mi i_138 (bpf P_138) 1 (B_138.getD 1 bk0) := ⟨32, ⟨1, s_aload_n dX5_remember_9 rfl, ⟨1, s_aload_n dX5_remember_10 rfl, ⟨3, s_get (C := RX5) (T := TX5) (N := 12) dX5_remember_11 rfl (by decide) wt_232 uw_X5, ⟨1, s_iconst dX5_remember_14 rfl, ⟨1, s_iadd dX5_remember_15, ⟨2, s_bipush dX5_remember_16 rfl, ⟨1, s_irem dX5_remember_18, ⟨3, s_put (C := RX5) (T := TX5) (N := 12) tyX5 tyX5_ok nmX5 dX5_remember_19 rfl (by decide) rfl (tyX5_ok 9 (by decide)) wt_232 uw_X5, ⟨1, s_aload_n dX5_remember_22 rfl, ⟨1, s_dup dX5_remember_23, ⟨3, s_get (C := RX5) (T := TX5) (N := 12) dX5_remember_24 rfl (by decide) wt_233 uw_X5, ⟨1, s_iconst dX5_remember_27 rfl, ⟨1, s_isub dX5_remember_28, ⟨3, s_put (C := RX5) (T := TX5) (N := 12) tyX5 tyX5_ok nmX5 dX5_remember_29 rfl (by decide) rfl (tyX5_ok 10 (by decide)) wt_233 uw_X5, rfl⟩⟩⟩⟩⟩⟩⟩⟩⟩⟩⟩⟩⟩⟩, t_fall rfl⟩
theorem ok_138_2 : BkOK mi i_138 (bpf P_138) 2 (B_138.getD 2 bk0) := ⟨52, ⟨1, s_aload_n dX5_remember_32 rfl, ⟨3, s_get (C := RX5) (T := TX5) (N := 12) dX5_remember_33 rfl (by decide) wt_231 uw_X5, ⟨1, s_aload_n dX5_remember_36 rfl, ⟨3, s_get (C := RX5) (T := TX5) (N := 12) dX5_remember_37 rfl (by decide) wt_232 uw_X5, ⟨1, s_aload_n dX5_remember_40 rfl, ⟨3, s_get (C := RX5) (T := TX5) (N := 12) dX5_remember_41 rfl (by decide) wt_233 uw_X5, ⟨1, s_iadd dX5_remember_44, ⟨2, s_bipush dX5_remember_45 rfl, ⟨1, s_irem dX5_remember_47, ⟨1, s_aload_n dX5_remember_48 rfl, ⟨3, s_get (C := RX5) (T := TX5) (N := 12) dX5_remember_49 rfl (by decide) wt_223 uw_X5, rfl⟩⟩⟩⟩⟩⟩⟩⟩⟩⟩⟩, t_cv rfl mi_67 mok_67 rfl (fun _ => ⟨rfl, by decide +kernel⟩) (fun hs' e => by cases e; intro E n b h; cases h) (fun q fs As rest h hp hA hr => (call_V (i := i_138) (j := i_67) (C := RX3) (T := TX3) (N := 1) dX5_remember_52 mok_67 rfl ⟨by decide, by decide⟩ np_67 rfl rfl wt_448 wt_449 wt_450 hp hA hr rfl).thr (fun _ => True.intro))⟩
theorem ok_138_3 : BkOK mi i_138 (bpf P_138) 3 (B_138.getD 3 bk0) := ⟨69, ⟨1, s_aload_n dX5_remember_55 rfl, ⟨1, s_dup dX5_remember_56, ⟨3, s_get (C := RX5) (T := TX5) (N := 12) dX5_remember_57 rfl (by decide) wt_233 uw_X5, ⟨1, s_iconst dX5_remember_60 rfl, ⟨1, s_iadd dX5_remember_61, ⟨3, s_put (C := RX5) (T := TX5) (N := 12) tyX5 tyX5_ok nmX5 dX5_remember_62 rfl (by decide) rfl (tyX5_ok 10 (by decide)) wt_233 uw_X5, ⟨1, s_aload_n dX5_remember_65 rfl, ⟨3, s_get (C := RX5) (T := TX5) (N := 12) dX5_remember_66 rfl (by decide) wt_225 uw_X5, rfl⟩⟩⟩⟩⟩⟩⟩⟩, t_cv rfl mi_29 mok_29 rfl (fun _ => ⟨rfl, by decide +kernel⟩) (fun hs' e => by cases e; intro E n b h; cases h) (fun q fs As rest h hp hA hr => (call_V (i := i_138) (j := i_29) (C := RX1) (T := TX1) (N := 13) dX5_remember_69 mok_29 rfl ⟨by decide, by decide⟩ np_29 rfl rfl wt_465 wt_466 wt_467 hp hA hr rfl).thr (fun _ => True.intro))⟩
theorem ok_138_4 : BkOK mi i_138 (bpf P_138) 4 (B_138.getD 4 bk0) := ⟨72, rfl, t_retV dX5_remember_72 rfl⟩
theorem ok_138 : ∀ b, BkOK mi i_138 (bpf P_138) b (B_138.getD b bk0)
  | 0 => ok_138_0
  | 1 => ok_138_1
  | 2 => ok_138_2
  | 3 => ok_138_3
  | 4 => ok_138_4
  | b + 5 => bk_none mi i_138 (bpf P_138) (b + 5)
theorem ok_139_0 : BkOK mi i_139 (bpf P_139) 0 (B_139.getD 0 bk0) := ⟨11, ⟨1, s_aload_n dX5_toldEventCost_0 rfl, ⟨3, s_get (C := RX5) (T := TX5) (N := 12) dX5_toldEventCost_1 rfl (by decide) wt_223 uw_X5, ⟨1, s_iload_n dX5_toldEventCost_4 rfl, ⟨1, s_aload_n dX5_toldEventCost_5 rfl, ⟨3, s_get (C := RX5) (T := TX5) (N := 12) dX5_toldEventCost_6 rfl (by decide) wt_228 uw_X5, ⟨1, s_iload_n dX5_toldEventCost_9 rfl, ⟨1, s_iconst dX5_toldEventCost_10 rfl, rfl⟩⟩⟩⟩⟩⟩⟩, t_cs rfl mi_146 mok_146 rfl (fun As rest h hA hr => call_S dX5_toldEventCost_11 mok_146 rfl ⟨by decide, by decide⟩ np_146 wt_655 wt_416 hA hr)⟩
theorem ok_139_1 : BkOK mi i_139 (bpf P_139) 1 (B_139.getD 1 bk0) := ⟨15, ⟨1, s_iconst dX5_toldEventCost_14 rfl, rfl⟩, t_cv rfl mi_19 mok_19 rfl (fun _ => ⟨rfl, by decide +kernel⟩) (fun hs' e => by cases e; intro E n b h; cases h) (fun q fs As rest h hp hA hr => (call_V (i := i_139) (j := i_19) (C := RX0) (T := TX0) (N := 10) dX5_toldEventCost_15 mok_19 rfl ⟨by decide, by decide⟩ np_19 rfl rfl wt_656 wt_500 wt_501 hp hA hr rfl).thr (fun _ => True.intro))⟩
theorem ok_139_2 : BkOK mi i_139 (bpf P_139) 2 (B_139.getD 2 bk0) := ⟨18, rfl, t_ret dX5_toldEventCost_18 rfl⟩
theorem ok_139 : ∀ b, BkOK mi i_139 (bpf P_139) b (B_139.getD b bk0)
  | 0 => ok_139_0
  | 1 => ok_139_1
  | 2 => ok_139_2
  | b + 3 => bk_none mi i_139 (bpf P_139) (b + 3)
