theorem ok_34_0 : BkOK mi i_34 (bpf P_34) 0 (B_34.getD 0 bk0) := ⟨6, ⟨1, s_aload_n dX1_listChoices_0 rfl, ⟨3, s_get (C := RX1) (T := TX1) (N := 13) dX1_listChoices_1 rfl (by decide) wt_130 uw_X1, ⟨1, s_iload_n dX1_listChoices_4 rfl, ⟨1, s_iconst dX1_listChoices_5 rfl, rfl⟩⟩⟩⟩, t_cv rfl mi_63 mok_63 rfl (fun _ => ⟨rfl, by decide +kernel⟩) (fun hs' e => by cases e; intro E n b h; cases h) (fun q fs As rest h hp hA hr => (call_V (i := i_34) (j := i_63) (C := RX2) (T := TX2) (N := 1) dX1_listChoices_6 mok_63 rfl ⟨by decide, by decide⟩ np_63 rfl rfl wt_487 wt_57 wt_58 hp hA hr rfl).thr (fun _ => True.intro))⟩
theorem ok_34_1 : BkOK mi i_34 (bpf P_34) 1 (B_34.getD 1 bk0) := ⟨14, ⟨1, s_aload_n dX1_listChoices_9 rfl, ⟨3, s_getN (C := RX0) (T := TX0) (N := 10) dX1_listChoices_10 rfl (by decide) wt_79 uw_X0, ⟨1, s_iload_n dX1_listChoices_13 rfl, rfl⟩⟩⟩, t_cv rfl mi_62 mok_62 rfl (fun _ => ⟨rfl, by decide +kernel⟩) (fun hs' e => by cases e; intro E n b h; cases h) (fun q fs As rest h hp hA hr => (call_V (i := i_34) (j := i_62) (C := RX2) (T := TX2) (N := 1) dX1_listChoices_14 mok_62 rfl ⟨by decide, by decide⟩ np_62 rfl rfl wt_488 wt_277 wt_278 hp hA hr rfl).thr (fun _ => True.intro))⟩
theorem ok_34_2 : BkOK mi i_34 (bpf P_34) 2 (B_34.getD 2 bk0) := ⟨21, ⟨1, s_istore_n dX1_listChoices_17 rfl (by decide), ⟨1, s_iconst dX1_listChoices_18 rfl, ⟨2, s_istore dX1_listChoices_19 (by decide), rfl⟩⟩⟩, t_fall rfl⟩
theorem ok_34_3 : BkOK mi i_34 (bpf P_34) 3 (B_34.getD 3 bk0) := ⟨24, ⟨2, s_iload dX1_listChoices_21, ⟨1, s_iconst dX1_listChoices_23 rfl, rfl⟩⟩, t_gt dX1_listChoices_24 (by decide) rfl⟩
theorem ok_34_4 : BkOK mi i_34 (bpf P_34) 4 (B_34.getD 4 bk0) := ⟨29, ⟨1, s_iload_n dX1_listChoices_27 rfl, ⟨1, s_iconst dX1_listChoices_28 rfl, rfl⟩⟩, t_nei dX1_listChoices_29 (by decide) rfl⟩
theorem ok_34_5 : BkOK mi i_34 (bpf P_34) 5 (B_34.getD 5 bk0) := ⟨39, ⟨1, s_aload_n dX1_listChoices_32 rfl, ⟨1, s_aload_n dX1_listChoices_33 rfl, ⟨1, s_iload_n dX1_listChoices_34 rfl, ⟨2, s_iload dX1_listChoices_35, ⟨1, s_iconst dX1_listChoices_37 rfl, ⟨1, s_iconst dX1_listChoices_38 rfl, rfl⟩⟩⟩⟩⟩⟩, t_cv rfl mi_35 mok_35 rfl (fun _ => ⟨rfl, by decide +kernel⟩) (fun hs' e => by cases e; intro E n b h; cases h) (fun q fs As rest h hp hA hr => (call_V (i := i_34) (j := i_35) (C := RX1) (T := TX1) (N := 13) dX1_listChoices_39 mok_35 rfl ⟨by decide, by decide⟩ np_35 rfl rfl wt_489 wt_490 wt_491 hp hA hr rfl).thr (fun _ => True.intro))⟩
theorem ok_34_6 : BkOK mi i_34 (bpf P_34) 6 (B_34.getD 6 bk0) := ⟨45, ⟨1, s_iconst dX1_listChoices_42 rfl, ⟨2, s_istore dX1_listChoices_43 (by decide), rfl⟩⟩, t_fall rfl⟩
theorem ok_34_7 : BkOK mi i_34 (bpf P_34) 7 (B_34.getD 7 bk0) := ⟨47, ⟨1, s_iload_n dX1_listChoices_45 rfl, ⟨1, s_iconst dX1_listChoices_46 rfl, rfl⟩⟩, t_le dX1_listChoices_47 (by decide) rfl⟩
theorem ok_34_8 : BkOK mi i_34 (bpf P_34) 8 (B_34.getD 8 bk0) := ⟨53, ⟨2, s_iload dX1_listChoices_50, ⟨1, s_iconst dX1_listChoices_52 rfl, rfl⟩⟩, t_gt dX1_listChoices_53 (by decide) rfl⟩
theorem ok_34_9 : BkOK mi i_34 (bpf P_34) 9 (B_34.getD 9 bk0) := ⟨61, ⟨1, s_aload_n dX1_listChoices_56 rfl, ⟨2, s_iload dX1_listChoices_57, ⟨2, s_iload dX1_listChoices_59, rfl⟩⟩⟩, t_cv rfl mi_18 mok_18 rfl (fun _ => ⟨rfl, by decide +kernel⟩) (fun hs' e => by cases e; intro E n b h; cases h) (fun q fs As rest h hp hA hr => (call_V (i := i_34) (j := i_18) (C := RX0) (T := TX0) (N := 10) dX1_listChoices_61 mok_18 rfl ⟨by decide, by decide⟩ np_18 rfl rfl wt_528 wt_525 wt_526 hp hA hr rfl).thr (fun _ => True.intro))⟩
theorem ok_34_10 : BkOK mi i_34 (bpf P_34) 10 (B_34.getD 10 bk0) := ⟨64, rfl, t_ne0 dX1_listChoices_64 (by decide) rfl⟩
theorem ok_34_11 : BkOK mi i_34 (bpf P_34) 11 (B_34.getD 11 bk0) := ⟨67, rfl, t_go dX1_listChoices_67 (by decide)⟩
theorem ok_34_12 : BkOK mi i_34 (bpf P_34) 12 (B_34.getD 12 bk0) := ⟨72, ⟨1, s_iload_n dX1_listChoices_70 rfl, ⟨1, s_iconst dX1_listChoices_71 rfl, rfl⟩⟩, t_nei dX1_listChoices_72 (by decide) rfl⟩
theorem ok_34_13 : BkOK mi i_34 (bpf P_34) 13 (B_34.getD 13 bk0) := ⟨83, ⟨1, s_aload_n dX1_listChoices_75 rfl, ⟨1, s_aload_n dX1_listChoices_76 rfl, ⟨1, s_iload_n dX1_listChoices_77 rfl, ⟨2, s_iload dX1_listChoices_78, ⟨2, s_iload dX1_listChoices_80, ⟨1, s_iconst dX1_listChoices_82 rfl, rfl⟩⟩⟩⟩⟩⟩, t_cv rfl mi_35 mok_35 rfl (fun _ => ⟨rfl, by decide +kernel⟩) (fun hs' e => by cases e; intro E n b h; cases h) (fun q fs As rest h hp hA hr => (call_V (i := i_34) (j := i_35) (C := RX1) (T := TX1) (N := 13) dX1_listChoices_83 mok_35 rfl ⟨by decide, by decide⟩ np_35 rfl rfl wt_489 wt_490 wt_491 hp hA hr rfl).thr (fun _ => True.intro))⟩
theorem ok_34_14 : BkOK mi i_34 (bpf P_34) 14 (B_34.getD 14 bk0) := ⟨89, ⟨1, s_iconst dX1_listChoices_86 rfl, ⟨2, s_istore dX1_listChoices_87 (by decide), rfl⟩⟩, t_fall rfl⟩
theorem ok_34_15 : BkOK mi i_34 (bpf P_34) 15 (B_34.getD 15 bk0) := ⟨91, ⟨1, s_iload_n dX1_listChoices_89 rfl, ⟨1, s_iconst dX1_listChoices_90 rfl, rfl⟩⟩, t_le dX1_listChoices_91 (by decide) rfl⟩
theorem ok_34_16 : BkOK mi i_34 (bpf P_34) 16 (B_34.getD 16 bk0) := ⟨97, ⟨2, s_iload dX1_listChoices_94, ⟨1, s_iconst dX1_listChoices_96 rfl, rfl⟩⟩, t_gt dX1_listChoices_97 (by decide) rfl⟩
theorem ok_34_17 : BkOK mi i_34 (bpf P_34) 17 (B_34.getD 17 bk0) := ⟨105, ⟨1, s_aload_n dX1_listChoices_100 rfl, ⟨2, s_iload dX1_listChoices_101, ⟨2, s_iload dX1_listChoices_103, rfl⟩⟩⟩, t_cv rfl mi_18 mok_18 rfl (fun _ => ⟨rfl, by decide +kernel⟩) (fun hs' e => by cases e; intro E n b h; cases h) (fun q fs As rest h hp hA hr => (call_V (i := i_34) (j := i_18) (C := RX0) (T := TX0) (N := 10) dX1_listChoices_105 mok_18 rfl ⟨by decide, by decide⟩ np_18 rfl rfl wt_528 wt_525 wt_526 hp hA hr rfl).thr (fun _ => True.intro))⟩
theorem ok_34_18 : BkOK mi i_34 (bpf P_34) 18 (B_34.getD 18 bk0) := ⟨108, rfl, t_eq0 dX1_listChoices_108 (by decide) rfl⟩
theorem ok_34_19 : BkOK mi i_34 (bpf P_34) 19 (B_34.getD 19 bk0) := ⟨120, ⟨1, s_aload_n dX1_listChoices_111 rfl, ⟨1, s_aload_n dX1_listChoices_112 rfl, ⟨1, s_iload_n dX1_listChoices_113 rfl, ⟨2, s_iload dX1_listChoices_114, ⟨2, s_iload dX1_listChoices_116, ⟨2, s_iload dX1_listChoices_118, rfl⟩⟩⟩⟩⟩⟩, t_cv rfl mi_35 mok_35 rfl (fun _ => ⟨rfl, by decide +kernel⟩) (fun hs' e => by cases e; intro E n b h; cases h) (fun q fs As rest h hp hA hr => (call_V (i := i_34) (j := i_35) (C := RX1) (T := TX1) (N := 13) dX1_listChoices_120 mok_35 rfl ⟨by decide, by decide⟩ np_35 rfl rfl wt_489 wt_490 wt_491 hp hA hr rfl).thr (fun _ => True.intro))⟩
theorem ok_34_20 : BkOK mi i_34 (bpf P_34) 20 (B_34.getD 20 bk0) := ⟨126, ⟨3, s_iinc dX1_listChoices_123 rfl (by decide), rfl⟩, t_go dX1_listChoices_126 (by decide)⟩
theorem ok_34_21 : BkOK mi i_34 (bpf P_34) 21 (B_34.getD 21 bk0) := ⟨132, ⟨3, s_iinc dX1_listChoices_129 rfl (by decide), rfl⟩, t_go dX1_listChoices_132 (by decide)⟩
theorem ok_34_22 : BkOK mi i_34 (bpf P_34) 22 (B_34.getD 22 bk0) := ⟨138, ⟨3, s_iinc dX1_listChoices_135 rfl (by decide), rfl⟩, t_go dX1_listChoices_138 (by decide)⟩
theorem ok_34_23 : BkOK mi i_34 (bpf P_34) 23 (B_34.getD 23 bk0) := ⟨141, rfl, t_retV dX1_listChoices_141 rfl⟩
theorem ok_34 : ∀ b, BkOK mi i_34 (bpf P_34) b (B_34.getD b bk0)
  | 0 => ok_34_0
  | 1 => ok_34_1
  | 2 => ok_34_2
  | 3 => ok_34_3
  | 4 => ok_34_4
  | 5 => ok_34_5
  | 6 => ok_34_6
  | 7 => ok_34_7
  | 8 => ok_34_8
  | 9 => ok_34_9
  | 10 => ok_34_10
  | 11 => ok_34_11
  | 12 => ok_34_12
  | 13 => ok_34_13
  | 14 => ok_34_14
  | 15 => ok_34_15
  | 16 => ok_34_16
  | 17 => ok_34_17
  | 18 => ok_34_18
  | 19 => ok_34_19
  | 20 => ok_34_20
  | 21 => ok_34_21
  | 22 => ok_34_22
  | 23 => ok_34_23
  | b + 24 => bk_none mi i_34 (bpf P_34) (b + 24)
theorem ok_35_0 : BkOK mi i_35 (bpf P_35) 0 (B_35.getD 0 bk0) := ⟨5, ⟨1, s_aload_n dX1_tryChoice_0 rfl, ⟨3, s_get (C := RX1) (T := TX1) (N := 13) dX1_tryChoice_1 rfl (by decide) wt_130 uw_X1, ⟨1, s_iload_n dX1_tryChoice_4 rfl, rfl⟩⟩⟩, t_cv rfl mi_62 mok_62 rfl (fun _ => ⟨rfl, by decide +kernel⟩) (fun hs' e => by cases e; intro E n b h; cases h) (fun q fs As rest h hp hA hr => (call_V (i := i_35) (j := i_62) (C := RX2) (T := TX2) (N := 1) dX1_tryChoice_5 mok_62 rfl ⟨by decide, by decide⟩ np_62 rfl rfl wt_488 wt_277 wt_278 hp hA hr rfl).thr (fun _ => True.intro))⟩
theorem ok_35_1 : BkOK mi i_35 (bpf P_35) 1 (B_35.getD 1 bk0) := ⟨14, ⟨2, s_istore dX1_tryChoice_8 (by decide), ⟨2, s_iload dX1_tryChoice_10, ⟨2, s_bipush dX1_tryChoice_12 rfl, rfl⟩⟩⟩, t_lt dX1_tryChoice_14 (by decide) rfl⟩
theorem ok_35_2 : BkOK mi i_35 (bpf P_35) 2 (B_35.getD 2 bk0) := ⟨17, rfl, t_retV dX1_tryChoice_17 rfl⟩
theorem ok_35_3 : BkOK mi i_35 (bpf P_35) 3 (B_35.getD 3 bk0) := ⟨21, ⟨1, s_iload_n dX1_tryChoice_18 rfl, ⟨2, s_iload dX1_tryChoice_19, rfl⟩⟩, t_cs rfl mi_32 mok_32 rfl (fun As rest h hA hr => call_S dX1_tryChoice_21 mok_32 rfl ⟨by decide, by decide⟩ np_32 wt_493 wt_494 hA hr)⟩
theorem ok_35_4 : BkOK mi i_35 (bpf P_35) 4 (B_35.getD 4 bk0) := ⟨33, ⟨2, s_istore dX1_tryChoice_24 (by decide), ⟨1, s_aload_n dX1_tryChoice_26 rfl, ⟨3, s_get (C := RX1) (T := TX1) (N := 13) dX1_tryChoice_27 rfl (by decide) wt_132 uw_X1, ⟨2, s_iload dX1_tryChoice_30, ⟨1, s_iload_n dX1_tryChoice_32 rfl, rfl⟩⟩⟩⟩⟩, t_cv rfl mi_63 mok_63 rfl (fun _ => ⟨rfl, by decide +kernel⟩) (fun hs' e => by cases e; intro E n b h; cases h) (fun q fs As rest h hp hA hr => (call_V (i := i_35) (j := i_63) (C := RX2) (T := TX2) (N := 1) dX1_tryChoice_33 mok_63 rfl ⟨by decide, by decide⟩ np_63 rfl rfl wt_487 wt_57 wt_58 hp hA hr rfl).thr (fun _ => True.intro))⟩
theorem ok_35_5 : BkOK mi i_35 (bpf P_35) 5 (B_35.getD 5 bk0) := ⟨46, ⟨1, s_aload_n dX1_tryChoice_36 rfl, ⟨3, s_get (C := RX1) (T := TX1) (N := 13) dX1_tryChoice_37 rfl (by decide) wt_132 uw_X1, ⟨2, s_iload dX1_tryChoice_40, ⟨1, s_iconst dX1_tryChoice_42 rfl, ⟨1, s_iadd dX1_tryChoice_43, ⟨2, s_iload dX1_tryChoice_44, rfl⟩⟩⟩⟩⟩⟩, t_cv rfl mi_63 mok_63 rfl (fun _ => ⟨rfl, by decide +kernel⟩) (fun hs' e => by cases e; intro E n b h; cases h) (fun q fs As rest h hp hA hr => (call_V (i := i_35) (j := i_63) (C := RX2) (T := TX2) (N := 1) dX1_tryChoice_46 mok_63 rfl ⟨by decide, by decide⟩ np_63 rfl rfl wt_487 wt_57 wt_58 hp hA hr rfl).thr (fun _ => True.intro))⟩
theorem ok_35_6 : BkOK mi i_35 (bpf P_35) 6 (B_35.getD 6 bk0) := ⟨59, ⟨1, s_aload_n dX1_tryChoice_49 rfl, ⟨3, s_get (C := RX1) (T := TX1) (N := 13) dX1_tryChoice_50 rfl (by decide) wt_132 uw_X1, ⟨2, s_iload dX1_tryChoice_53, ⟨1, s_iconst dX1_tryChoice_55 rfl, ⟨1, s_iadd dX1_tryChoice_56, ⟨2, s_iload dX1_tryChoice_57, rfl⟩⟩⟩⟩⟩⟩, t_cv rfl mi_63 mok_63 rfl (fun _ => ⟨rfl, by decide +kernel⟩) (fun hs' e => by cases e; intro E n b h; cases h) (fun q fs As rest h hp hA hr => (call_V (i := i_35) (j := i_63) (C := RX2) (T := TX2) (N := 1) dX1_tryChoice_59 mok_63 rfl ⟨by decide, by decide⟩ np_63 rfl rfl wt_487 wt_57 wt_58 hp hA hr rfl).thr (fun _ => True.intro))⟩
theorem ok_35_7 : BkOK mi i_35 (bpf P_35) 7 (B_35.getD 7 bk0) := ⟨71, ⟨1, s_aload_n dX1_tryChoice_62 rfl, ⟨1, s_iload_n dX1_tryChoice_63 rfl, ⟨1, s_aload_n dX1_tryChoice_64 rfl, ⟨3, s_get (C := RX1) (T := TX1) (N := 13) dX1_tryChoice_65 rfl (by decide) wt_132 uw_X1, ⟨2, s_iload dX1_tryChoice_68, ⟨1, s_iconst dX1_tryChoice_70 rfl, rfl⟩⟩⟩⟩⟩⟩, t_cv rfl mi_19 mok_19 rfl (fun _ => ⟨rfl, by decide +kernel⟩) (fun hs' e => by cases e; intro E n b h; cases h) (fun q fs As rest h hp hA hr => (call_V (i := i_35) (j := i_19) (C := RX0) (T := TX0) (N := 10) dX1_tryChoice_71 mok_19 rfl ⟨by decide, by decide⟩ np_19 rfl rfl wt_499 wt_500 wt_501 hp hA hr rfl).thr (fun _ => True.intro))⟩
theorem ok_35_8 : BkOK mi i_35 (bpf P_35) 8 (B_35.getD 8 bk0) := ⟨79, ⟨2, s_istore dX1_tryChoice_74 (by decide), ⟨2, s_iload dX1_tryChoice_76, ⟨1, s_iconst dX1_tryChoice_78 rfl, rfl⟩⟩⟩, t_eq dX1_tryChoice_79 (by decide) rfl⟩
theorem ok_35_9 : BkOK mi i_35 (bpf P_35) 9 (B_35.getD 9 bk0) := ⟨89, ⟨1, s_aload_n dX1_tryChoice_82 rfl, ⟨3, s_get (C := RX1) (T := TX1) (N := 13) dX1_tryChoice_83 rfl (by decide) wt_133 uw_X1, ⟨1, s_iload_n dX1_tryChoice_86 rfl, ⟨2, s_iload dX1_tryChoice_87, rfl⟩⟩⟩⟩, t_cs rfl mi_31 mok_31 rfl (fun As rest h hA hr => call_S dX1_tryChoice_89 mok_31 rfl ⟨by decide, by decide⟩ np_31 wt_496 wt_497 hA hr)⟩
theorem ok_35_10 : BkOK mi i_35 (bpf P_35) 10 (B_35.getD 10 bk0) := ⟨94, ⟨2, s_iload dX1_tryChoice_92, rfl⟩, t_cv rfl mi_63 mok_63 rfl (fun _ => ⟨rfl, by decide +kernel⟩) (fun hs' e => by cases e; intro E n b h; cases h) (fun q fs As rest h hp hA hr => (call_V (i := i_35) (j := i_63) (C := RX2) (T := TX2) (N := 1) dX1_tryChoice_94 mok_63 rfl ⟨by decide, by decide⟩ np_63 rfl rfl wt_487 wt_57 wt_58 hp hA hr rfl).thr (fun _ => True.intro))⟩
theorem ok_35_11 : BkOK mi i_35 (bpf P_35) 11 (B_35.getD 11 bk0) := ⟨106, ⟨1, s_aload_n dX1_tryChoice_97 rfl, ⟨3, s_get (C := RX1) (T := TX1) (N := 13) dX1_tryChoice_98 rfl (by decide) wt_130 uw_X1, ⟨1, s_iload_n dX1_tryChoice_101 rfl, ⟨2, s_iload dX1_tryChoice_102, ⟨1, s_iconst dX1_tryChoice_104 rfl, ⟨1, s_iadd dX1_tryChoice_105, rfl⟩⟩⟩⟩⟩⟩, t_cv rfl mi_63 mok_63 rfl (fun _ => ⟨rfl, by decide +kernel⟩) (fun hs' e => by cases e; intro E n b h; cases h) (fun q fs As rest h hp hA hr => (call_V (i := i_35) (j := i_63) (C := RX2) (T := TX2) (N := 1) dX1_tryChoice_106 mok_63 rfl ⟨by decide, by decide⟩ np_63 rfl rfl wt_487 wt_57 wt_58 hp hA hr rfl).thr (fun _ => True.intro))⟩
theorem ok_35_12 : BkOK mi i_35 (bpf P_35) 12 (B_35.getD 12 bk0) := ⟨109, rfl, t_retV dX1_tryChoice_109 rfl⟩
theorem ok_35 : ∀ b, BkOK mi i_35 (bpf P_35) b (B_35.getD b bk0)
  | 0 => ok_35_0
  | 1 => ok_35_1
  | 2 => ok_35_2
  | 3 => ok_35_3
  | 4 => ok_35_4
  | 5 => ok_35_5
  | 6 => ok_35_6
  | 7 => ok_35_7
  | 8 => ok_35_8
  | 9 => ok_35_9
  | 10 => ok_35_10
  | 11 => ok_35_11
  | 12 => ok_35_12
  | b + 13 => bk_none mi i_35 (bpf P_35) (b + 13)
theorem ok_36_0 : BkOK mi i_36 (bpf P_36) 0 (B_36.getD 0 bk0) := ⟨5, ⟨1, s_aload_n dX1_fillSteps_0 rfl, ⟨3, s_getN (C := RX0) (T := TX0) (N := 10) dX1_fillSteps_1 rfl (by decide) wt_82 uw_X0, ⟨1, s_iload_n dX1_fillSteps_4 rfl, rfl⟩⟩⟩, t_cv rfl mi_62 mok_62 rfl (fun _ => ⟨rfl, by decide +kernel⟩) (fun hs' e => by cases e; intro E n b h; cases h) (fun q fs As rest h hp hA hr => (call_V (i := i_36) (j := i_62) (C := RX2) (T := TX2) (N := 1) dX1_fillSteps_5 mok_62 rfl ⟨by decide, by decide⟩ np_62 rfl rfl wt_488 wt_277 wt_278 hp hA hr rfl).thr (fun _ => True.intro))⟩
theorem ok_36_1 : BkOK mi i_36 (bpf P_36) 1 (B_36.getD 1 bk0) := ⟨12, ⟨1, s_istore_n dX1_fillSteps_8 rfl (by decide), ⟨1, s_iconst dX1_fillSteps_9 rfl, ⟨2, s_istore dX1_fillSteps_10 (by decide), rfl⟩⟩⟩, t_fall rfl⟩
theorem ok_36_2 : BkOK mi i_36 (bpf P_36) 2 (B_36.getD 2 bk0) := ⟨19, ⟨2, s_iload dX1_fillSteps_12, ⟨1, s_aload_n dX1_fillSteps_14 rfl, ⟨3, s_get (C := RX1) (T := TX1) (N := 13) dX1_fillSteps_15 rfl (by decide) wt_130 uw_X1, ⟨1, s_iload_n dX1_fillSteps_18 rfl, rfl⟩⟩⟩⟩, t_cv rfl mi_62 mok_62 rfl (fun _ => ⟨rfl, by decide +kernel⟩) (fun hs' e => by cases e; intro E n b h; cases h) (fun q fs As rest h hp hA hr => (call_V (i := i_36) (j := i_62) (C := RX2) (T := TX2) (N := 1) dX1_fillSteps_19 mok_62 rfl ⟨by decide, by decide⟩ np_62 rfl rfl wt_488 wt_277 wt_278 hp hA hr rfl).thr (fun _ => True.intro))⟩
theorem ok_36_3 : BkOK mi i_36 (bpf P_36) 3 (B_36.getD 3 bk0) := ⟨22, rfl, t_ge dX1_fillSteps_22 (by decide) rfl⟩
theorem ok_36_4 : BkOK mi i_36 (bpf P_36) 4 (B_36.getD 4 bk0) := ⟨28, ⟨1, s_iconst dX1_fillSteps_25 rfl, ⟨2, s_istore dX1_fillSteps_26 (by decide), rfl⟩⟩, t_fall rfl⟩
theorem ok_36_5 : BkOK mi i_36 (bpf P_36) 5 (B_36.getD 5 bk0) := ⟨37, ⟨2, s_iload dX1_fillSteps_28, ⟨1, s_aload_n dX1_fillSteps_30 rfl, ⟨3, s_get (C := RX1) (T := TX1) (N := 13) dX1_fillSteps_31 rfl (by decide) wt_130 uw_X1, ⟨1, s_iload_n dX1_fillSteps_34 rfl, ⟨1, s_iconst dX1_fillSteps_35 rfl, ⟨1, s_iadd dX1_fillSteps_36, rfl⟩⟩⟩⟩⟩⟩, t_cv rfl mi_62 mok_62 rfl (fun _ => ⟨rfl, by decide +kernel⟩) (fun hs' e => by cases e; intro E n b h; cases h) (fun q fs As rest h hp hA hr => (call_V (i := i_36) (j := i_62) (C := RX2) (T := TX2) (N := 1) dX1_fillSteps_37 mok_62 rfl ⟨by decide, by decide⟩ np_62 rfl rfl wt_488 wt_277 wt_278 hp hA hr rfl).thr (fun _ => True.intro))⟩
theorem ok_36_6 : BkOK mi i_36 (bpf P_36) 6 (B_36.getD 6 bk0) := ⟨40, rfl, t_ge dX1_fillSteps_40 (by decide) rfl⟩
theorem ok_36_7 : BkOK mi i_36 (bpf P_36) 7 (B_36.getD 7 bk0) := ⟨52, ⟨1, s_aload_n dX1_fillSteps_43 rfl, ⟨3, s_get (C := RX1) (T := TX1) (N := 13) dX1_fillSteps_44 rfl (by decide) wt_134 uw_X1, ⟨1, s_iload_n dX1_fillSteps_47 rfl, ⟨2, s_iload dX1_fillSteps_48, ⟨2, s_iload dX1_fillSteps_50, rfl⟩⟩⟩⟩⟩, t_cs rfl mi_33 mok_33 rfl (fun As rest h hA hr => call_S dX1_fillSteps_52 mok_33 rfl ⟨by decide, by decide⟩ np_33 wt_533 wt_534 hA hr)⟩
theorem ok_36_8 : BkOK mi i_36 (bpf P_36) 8 (B_36.getD 8 bk0) := ⟨65, ⟨1, s_aload_n dX1_fillSteps_55 rfl, ⟨1, s_iload_n dX1_fillSteps_56 rfl, ⟨1, s_iload_n dX1_fillSteps_57 rfl, ⟨1, s_aload_n dX1_fillSteps_58 rfl, ⟨3, s_get (C := RX1) (T := TX1) (N := 13) dX1_fillSteps_59 rfl (by decide) wt_132 uw_X1, ⟨1, s_iload_n dX1_fillSteps_62 rfl, ⟨2, s_iload dX1_fillSteps_63, rfl⟩⟩⟩⟩⟩⟩⟩, t_cs rfl mi_32 mok_32 rfl (fun As rest h hA hr => call_S dX1_fillSteps_65 mok_32 rfl ⟨by decide, by decide⟩ np_32 wt_493 wt_494 hA hr)⟩
theorem ok_36_9 : BkOK mi i_36 (bpf P_36) 9 (B_36.getD 9 bk0) := ⟨73, ⟨1, s_iload_n dX1_fillSteps_68 rfl, ⟨1, s_iconst dX1_fillSteps_69 rfl, ⟨1, s_iadd dX1_fillSteps_70, ⟨2, s_iload dX1_fillSteps_71, rfl⟩⟩⟩⟩, t_cs rfl mi_32 mok_32 rfl (fun As rest h hA hr => call_S dX1_fillSteps_73 mok_32 rfl ⟨by decide, by decide⟩ np_32 wt_493 wt_494 hA hr)⟩
theorem ok_36_10 : BkOK mi i_36 (bpf P_36) 10 (B_36.getD 10 bk0) := ⟨76, rfl, t_cv rfl mi_22 mok_22 rfl (fun _ => ⟨rfl, by decide +kernel⟩) (fun hs' e => by cases e; intro E n b h; cases h) (fun q fs As rest h hp hA hr => (call_V (i := i_36) (j := i_22) (C := RX0) (T := TX0) (N := 10) dX1_fillSteps_76 mok_22 rfl ⟨by decide, by decide⟩ np_22 rfl rfl wt_536 wt_537 wt_538 hp hA hr rfl).thr (fun _ => True.intro))⟩
theorem ok_36_11 : BkOK mi i_36 (bpf P_36) 11 (B_36.getD 11 bk0) := ⟨79, rfl, t_cv rfl mi_63 mok_63 rfl (fun _ => ⟨rfl, by decide +kernel⟩) (fun hs' e => by cases e; intro E n b h; cases h) (fun q fs As rest h hp hA hr => (call_V (i := i_36) (j := i_63) (C := RX2) (T := TX2) (N := 1) dX1_fillSteps_79 mok_63 rfl ⟨by decide, by decide⟩ np_63 rfl rfl wt_487 wt_57 wt_58 hp hA hr rfl).thr (fun _ => True.intro))⟩
theorem ok_36_12 : BkOK mi i_36 (bpf P_36) 12 (B_36.getD 12 bk0) := ⟨85, ⟨3, s_iinc dX1_fillSteps_82 rfl (by decide), rfl⟩, t_go dX1_fillSteps_85 (by decide)⟩
theorem ok_36_13 : BkOK mi i_36 (bpf P_36) 13 (B_36.getD 13 bk0) := ⟨91, ⟨3, s_iinc dX1_fillSteps_88 rfl (by decide), rfl⟩, t_go dX1_fillSteps_91 (by decide)⟩
theorem ok_36_14 : BkOK mi i_36 (bpf P_36) 14 (B_36.getD 14 bk0) := ⟨94, rfl, t_retV dX1_fillSteps_94 rfl⟩
theorem ok_36 : ∀ b, BkOK mi i_36 (bpf P_36) b (B_36.getD b bk0)
  | 0 => ok_36_0
  | 1 => ok_36_1
  | 2 => ok_36_2
  | 3 => ok_36_3
  | 4 => ok_36_4
  | 5 => ok_36_5
  | 6 => ok_36_6
  | 7 => ok_36_7
  | 8 => ok_36_8
  | 9 => ok_36_9
  | 10 => ok_36_10
  | 11 => ok_36_11
  | 12 => ok_36_12
  | 13 => ok_36_13
  | 14 => ok_36_14
  | b + 15 => bk_none mi i_36 (bpf P_36) (b + 15)
theorem ok_37_0 : BkOK mi i_37 (bpf P_37) 0 (B_37.getD 0 bk0) := ⟨3, ⟨1, s_iconst dX1_fillAhead_0 rfl, ⟨2, s_istore dX1_fillAhead_1 (by decide), rfl⟩⟩, t_fall rfl⟩
theorem ok_37_1 : BkOK mi i_37 (bpf P_37) 1 (B_37.getD 1 bk0) := ⟨9, ⟨2, s_iload dX1_fillAhead_3, ⟨1, s_aload_n dX1_fillAhead_5 rfl, ⟨3, s_get (C := RX1) (T := TX1) (N := 13) dX1_fillAhead_6 rfl (by decide) wt_127 uw_X1, rfl⟩⟩⟩, t_ge dX1_fillAhead_9 (by decide) rfl⟩
theorem ok_37_2 : BkOK mi i_37 (bpf P_37) 2 (B_37.getD 2 bk0) := ⟨15, ⟨1, s_iconst dX1_fillAhead_12 rfl, ⟨2, s_istore dX1_fillAhead_13 (by decide), rfl⟩⟩, t_fall rfl⟩
theorem ok_37_3 : BkOK mi i_37 (bpf P_37) 3 (B_37.getD 3 bk0) := ⟨23, ⟨2, s_iload dX1_fillAhead_15, ⟨1, s_aload_n dX1_fillAhead_17 rfl, ⟨3, s_get (C := RX1) (T := TX1) (N := 13) dX1_fillAhead_18 rfl (by decide) wt_130 uw_X1, ⟨2, s_iload dX1_fillAhead_21, rfl⟩⟩⟩⟩, t_cv rfl mi_62 mok_62 rfl (fun _ => ⟨rfl, by decide +kernel⟩) (fun hs' e => by cases e; intro E n b h; cases h) (fun q fs As rest h hp hA hr => (call_V (i := i_37) (j := i_62) (C := RX2) (T := TX2) (N := 1) dX1_fillAhead_23 mok_62 rfl ⟨by decide, by decide⟩ np_62 rfl rfl wt_488 wt_277 wt_278 hp hA hr rfl).thr (fun _ => True.intro))⟩
theorem ok_37_4 : BkOK mi i_37 (bpf P_37) 4 (B_37.getD 4 bk0) := ⟨26, rfl, t_ge dX1_fillAhead_26 (by decide) rfl⟩
theorem ok_37_5 : BkOK mi i_37 (bpf P_37) 5 (B_37.getD 5 bk0) := ⟨40, ⟨1, s_aload_n dX1_fillAhead_29 rfl, ⟨2, s_iload dX1_fillAhead_30, ⟨1, s_aload_n dX1_fillAhead_32 rfl, ⟨3, s_get (C := RX1) (T := TX1) (N := 13) dX1_fillAhead_33 rfl (by decide) wt_132 uw_X1, ⟨2, s_iload dX1_fillAhead_36, ⟨2, s_iload dX1_fillAhead_38, rfl⟩⟩⟩⟩⟩⟩, t_cs rfl mi_32 mok_32 rfl (fun As rest h hA hr => call_S dX1_fillAhead_40 mok_32 rfl ⟨by decide, by decide⟩ np_32 wt_493 wt_494 hA hr)⟩
theorem ok_37_6 : BkOK mi i_37 (bpf P_37) 6 (B_37.getD 6 bk0) := ⟨44, ⟨1, s_iload_n dX1_fillAhead_43 rfl, rfl⟩, t_cv rfl mi_19 mok_19 rfl (fun _ => ⟨rfl, by decide +kernel⟩) (fun hs' e => by cases e; intro E n b h; cases h) (fun q fs As rest h hp hA hr => (call_V (i := i_37) (j := i_19) (C := RX0) (T := TX0) (N := 10) dX1_fillAhead_44 mok_19 rfl ⟨by decide, by decide⟩ np_19 rfl rfl wt_499 wt_500 wt_501 hp hA hr rfl).thr (fun _ => True.intro))⟩
theorem ok_37_7 : BkOK mi i_37 (bpf P_37) 7 (B_37.getD 7 bk0) := ⟨51, ⟨2, s_istore dX1_fillAhead_47 (by decide), ⟨2, s_iload dX1_fillAhead_49, rfl⟩⟩, t_ne0 dX1_fillAhead_51 (by decide) rfl⟩
theorem ok_37_8 : BkOK mi i_37 (bpf P_37) 8 (B_37.getD 8 bk0) := ⟨55, ⟨1, s_iconst dX1_fillAhead_54 rfl, rfl⟩, t_go dX1_fillAhead_55 (by decide)⟩
theorem ok_37_9 : BkOK mi i_37 (bpf P_37) 9 (B_37.getD 9 bk0) := ⟨64, ⟨1, s_aload_n dX1_fillAhead_58 rfl, ⟨2, s_iload dX1_fillAhead_59, ⟨2, s_iload dX1_fillAhead_61, ⟨1, s_aload_n dX1_fillAhead_63 rfl, rfl⟩⟩⟩⟩, t_cv rfl mi_38 mok_38 rfl (fun _ => ⟨rfl, by decide +kernel⟩) (fun hs' e => by cases e; intro E n b h; cases h) (fun q fs As rest h hp hA hr => (call_V (i := i_37) (j := i_38) (C := RX1) (T := TX1) (N := 13) dX1_fillAhead_64 mok_38 rfl ⟨by decide, by decide⟩ np_38 rfl rfl wt_568 wt_569 wt_570 hp hA hr rfl).thr (fun _ => True.intro))⟩
theorem ok_37_10 : BkOK mi i_37 (bpf P_37) 10 (B_37.getD 10 bk0) := ⟨74, ⟨2, s_istore dX1_fillAhead_67 (by decide), ⟨1, s_aload_n dX1_fillAhead_69 rfl, ⟨2, s_iload dX1_fillAhead_70, ⟨2, s_iload dX1_fillAhead_72, rfl⟩⟩⟩⟩, t_cs rfl mi_31 mok_31 rfl (fun As rest h hA hr => call_S dX1_fillAhead_74 mok_31 rfl ⟨by decide, by decide⟩ np_31 wt_496 wt_497 hA hr)⟩
theorem ok_37_11 : BkOK mi i_37 (bpf P_37) 11 (B_37.getD 11 bk0) := ⟨81, ⟨2, s_iload dX1_fillAhead_77, ⟨2, s_iload dX1_fillAhead_79, rfl⟩⟩, t_cs rfl mi_148 mok_148 rfl (fun As rest h hA hr => call_SN dX1_fillAhead_81 mok_148 rfl ⟨by decide, by decide⟩ np_148 wt_572 wt_573 hA hr)⟩
theorem ok_37_12 : BkOK mi i_37 (bpf P_37) 12 (B_37.getD 12 bk0) := ⟨84, rfl, t_cv rfl mi_63 mok_63 rfl (fun _ => ⟨rfl, by decide +kernel⟩) (fun hs' e => by cases e; intro E n b h; cases h) (fun q fs As rest h hp hA hr => (call_V (i := i_37) (j := i_63) (C := RX2) (T := TX2) (N := 1) dX1_fillAhead_84 mok_63 rfl ⟨by decide, by decide⟩ np_63 rfl rfl wt_487 wt_57 wt_58 hp hA hr rfl).thr (fun _ => True.intro))⟩
theorem ok_37_13 : BkOK mi i_37 (bpf P_37) 13 (B_37.getD 13 bk0) := ⟨90, ⟨3, s_iinc dX1_fillAhead_87 rfl (by decide), rfl⟩, t_go dX1_fillAhead_90 (by decide)⟩
theorem ok_37_14 : BkOK mi i_37 (bpf P_37) 14 (B_37.getD 14 bk0) := ⟨96, ⟨3, s_iinc dX1_fillAhead_93 rfl (by decide), rfl⟩, t_go dX1_fillAhead_96 (by decide)⟩
theorem ok_37_15 : BkOK mi i_37 (bpf P_37) 15 (B_37.getD 15 bk0) := ⟨99, rfl, t_retV dX1_fillAhead_99 rfl⟩
theorem ok_37 : ∀ b, BkOK mi i_37 (bpf P_37) b (B_37.getD b bk0)
  | 0 => ok_37_0
  | 1 => ok_37_1
  | 2 => ok_37_2
  | 3 => ok_37_3
  | 4 => ok_37_4
  | 5 => ok_37_5
  | 6 => ok_37_6
  | 7 => ok_37_7
  | 8 => ok_37_8
  | 9 => ok_37_9
  | 10 => ok_37_10
  | 11 => ok_37_11
  | 12 => ok_37_12
  | 13 => ok_37_13
  | 14 => ok_37_14
  | 15 => ok_37_15
  | b + 16 => bk_none mi i_37 (bpf P_37) (b + 16)
theorem ok_38_0 : BkOK mi i_38 (bpf P_38) 0 (B_38.getD 0 bk0) := ⟨6, ⟨1, s_iconst dX1_leastInto_0 rfl, ⟨2, s_istore dX1_leastInto_1 (by decide), ⟨1, s_iconst dX1_leastInto_3 rfl, ⟨2, s_istore dX1_leastInto_4 (by decide), rfl⟩⟩⟩⟩, t_fall rfl⟩
theorem ok_38_1 : BkOK mi i_38 (bpf P_38) 1 (B_38.getD 1 bk0) := ⟨15, ⟨2, s_iload dX1_leastInto_6, ⟨1, s_aload_n dX1_leastInto_8 rfl, ⟨3, s_get (C := RX1) (T := TX1) (N := 13) dX1_leastInto_9 rfl (by decide) wt_130 uw_X1, ⟨1, s_iload_n dX1_leastInto_12 rfl, ⟨1, s_iconst dX1_leastInto_13 rfl, ⟨1, s_isub dX1_leastInto_14, rfl⟩⟩⟩⟩⟩⟩, t_cv rfl mi_62 mok_62 rfl (fun _ => ⟨rfl, by decide +kernel⟩) (fun hs' e => by cases e; intro E n b h; cases h) (fun q fs As rest h hp hA hr => (call_V (i := i_38) (j := i_62) (C := RX2) (T := TX2) (N := 1) dX1_leastInto_15 mok_62 rfl ⟨by decide, by decide⟩ np_62 rfl rfl wt_488 wt_277 wt_278 hp hA hr rfl).thr (fun _ => True.intro))⟩
theorem ok_38_2 : BkOK mi i_38 (bpf P_38) 2 (B_38.getD 2 bk0) := ⟨18, rfl, t_ge dX1_leastInto_18 (by decide) rfl⟩
theorem ok_38_3 : BkOK mi i_38 (bpf P_38) 3 (B_38.getD 3 bk0) := ⟨31, ⟨1, s_aload_n dX1_leastInto_21 rfl, ⟨3, s_get (C := RX1) (T := TX1) (N := 13) dX1_leastInto_22 rfl (by decide) wt_134 uw_X1, ⟨1, s_iload_n dX1_leastInto_25 rfl, ⟨1, s_iconst dX1_leastInto_26 rfl, ⟨1, s_isub dX1_leastInto_27, ⟨2, s_iload dX1_leastInto_28, ⟨1, s_iload_n dX1_leastInto_30 rfl, rfl⟩⟩⟩⟩⟩⟩⟩, t_cs rfl mi_33 mok_33 rfl (fun As rest h hA hr => call_S dX1_leastInto_31 mok_33 rfl ⟨by decide, by decide⟩ np_33 wt_533 wt_534 hA hr)⟩
theorem ok_38_4 : BkOK mi i_38 (bpf P_38) 4 (B_38.getD 4 bk0) := ⟨34, rfl, t_cv rfl mi_62 mok_62 rfl (fun _ => ⟨rfl, by decide +kernel⟩) (fun hs' e => by cases e; intro E n b h; cases h) (fun q fs As rest h hp hA hr => (call_V (i := i_38) (j := i_62) (C := RX2) (T := TX2) (N := 1) dX1_leastInto_34 mok_62 rfl ⟨by decide, by decide⟩ np_62 rfl rfl wt_488 wt_277 wt_278 hp hA hr rfl).thr (fun _ => True.intro))⟩
theorem ok_38_5 : BkOK mi i_38 (bpf P_38) 5 (B_38.getD 5 bk0) := ⟨47, ⟨2, s_istore dX1_leastInto_37 (by decide), ⟨2, s_iload dX1_leastInto_39, ⟨1, s_aload_n dX1_leastInto_41 rfl, ⟨1, s_iload_n dX1_leastInto_42 rfl, ⟨1, s_iconst dX1_leastInto_43 rfl, ⟨1, s_isub dX1_leastInto_44, ⟨2, s_iload dX1_leastInto_45, rfl⟩⟩⟩⟩⟩⟩⟩, t_cs rfl mi_31 mok_31 rfl (fun As rest h hA hr => call_S dX1_leastInto_47 mok_31 rfl ⟨by decide, by decide⟩ np_31 wt_496 wt_497 hA hr)⟩
theorem ok_38_6 : BkOK mi i_38 (bpf P_38) 6 (B_38.getD 6 bk0) := ⟨50, rfl, t_cv rfl mi_62 mok_62 rfl (fun _ => ⟨rfl, by decide +kernel⟩) (fun hs' e => by cases e; intro E n b h; cases h) (fun q fs As rest h hp hA hr => (call_V (i := i_38) (j := i_62) (C := RX2) (T := TX2) (N := 1) dX1_leastInto_50 mok_62 rfl ⟨by decide, by decide⟩ np_62 rfl rfl wt_488 wt_277 wt_278 hp hA hr rfl).thr (fun _ => True.intro))⟩
theorem ok_38_7 : BkOK mi i_38 (bpf P_38) 7 (B_38.getD 7 bk0) := ⟨55, ⟨2, s_iload dX1_leastInto_53, rfl⟩, t_cs rfl mi_148 mok_148 rfl (fun As rest h hA hr => call_SN dX1_leastInto_55 mok_148 rfl ⟨by decide, by decide⟩ np_148 wt_572 wt_573 hA hr)⟩
theorem ok_38_8 : BkOK mi i_38 (bpf P_38) 8 (B_38.getD 8 bk0) := ⟨58, rfl, t_cs rfl mi_149 mok_149 rfl (fun As rest h hA hr => call_SN dX1_leastInto_58 mok_149 rfl ⟨by decide, by decide⟩ np_149 wt_575 wt_576 hA hr)⟩
theorem ok_38_9 : BkOK mi i_38 (bpf P_38) 9 (B_38.getD 9 bk0) := ⟨66, ⟨2, s_istore dX1_leastInto_61 (by decide), ⟨3, s_iinc dX1_leastInto_63 rfl (by decide), rfl⟩⟩, t_go dX1_leastInto_66 (by decide)⟩
theorem ok_38_10 : BkOK mi i_38 (bpf P_38) 10 (B_38.getD 10 bk0) := ⟨71, ⟨2, s_iload dX1_leastInto_69, rfl⟩, t_ret dX1_leastInto_71 rfl⟩
theorem ok_38 : ∀ b, BkOK mi i_38 (bpf P_38) b (B_38.getD b bk0)
  | 0 => ok_38_0
  | 1 => ok_38_1
  | 2 => ok_38_2
  | 3 => ok_38_3
  | 4 => ok_38_4
  | 5 => ok_38_5
  | 6 => ok_38_6
  | 7 => ok_38_7
  | 8 => ok_38_8
  | 9 => ok_38_9
  | 10 => ok_38_10
  | b + 11 => bk_none mi i_38 (bpf P_38) (b + 11)
theorem ok_39_0 : BkOK mi i_39 (bpf P_39) 0 (B_39.getD 0 bk0) := ⟨7, ⟨1, s_aload_n dX1_fillBehind_0 rfl, ⟨3, s_get (C := RX1) (T := TX1) (N := 13) dX1_fillBehind_1 rfl (by decide) wt_127 uw_X1, ⟨1, s_iconst dX1_fillBehind_4 rfl, ⟨1, s_isub dX1_fillBehind_5, ⟨1, s_istore_n dX1_fillBehind_6 rfl (by decide), rfl⟩⟩⟩⟩⟩, t_fall rfl⟩
theorem ok_39_1 : BkOK mi i_39 (bpf P_39) 1 (B_39.getD 1 bk0) := ⟨8, ⟨1, s_iload_n dX1_fillBehind_7 rfl, rfl⟩, t_lt0 dX1_fillBehind_8 (by decide) rfl⟩
theorem ok_39_2 : BkOK mi i_39 (bpf P_39) 2 (B_39.getD 2 bk0) := ⟨13, ⟨1, s_iconst dX1_fillBehind_11 rfl, ⟨1, s_istore_n dX1_fillBehind_12 rfl (by decide), rfl⟩⟩, t_fall rfl⟩
theorem ok_39_3 : BkOK mi i_39 (bpf P_39) 3 (B_39.getD 3 bk0) := ⟨19, ⟨1, s_iload_n dX1_fillBehind_13 rfl, ⟨1, s_aload_n dX1_fillBehind_14 rfl, ⟨3, s_get (C := RX1) (T := TX1) (N := 13) dX1_fillBehind_15 rfl (by decide) wt_130 uw_X1, ⟨1, s_iload_n dX1_fillBehind_18 rfl, rfl⟩⟩⟩⟩, t_cv rfl mi_62 mok_62 rfl (fun _ => ⟨rfl, by decide +kernel⟩) (fun hs' e => by cases e; intro E n b h; cases h) (fun q fs As rest h hp hA hr => (call_V (i := i_39) (j := i_62) (C := RX2) (T := TX2) (N := 1) dX1_fillBehind_19 mok_62 rfl ⟨by decide, by decide⟩ np_62 rfl rfl wt_488 wt_277 wt_278 hp hA hr rfl).thr (fun _ => True.intro))⟩
theorem ok_39_4 : BkOK mi i_39 (bpf P_39) 4 (B_39.getD 4 bk0) := ⟨22, rfl, t_ge dX1_fillBehind_22 (by decide) rfl⟩
theorem ok_39_5 : BkOK mi i_39 (bpf P_39) 5 (B_39.getD 5 bk0) := ⟨32, ⟨1, s_iload_n dX1_fillBehind_25 rfl, ⟨1, s_aload_n dX1_fillBehind_26 rfl, ⟨3, s_get (C := RX1) (T := TX1) (N := 13) dX1_fillBehind_27 rfl (by decide) wt_127 uw_X1, ⟨1, s_iconst dX1_fillBehind_30 rfl, ⟨1, s_isub dX1_fillBehind_31, rfl⟩⟩⟩⟩⟩, t_nei dX1_fillBehind_32 (by decide) rfl⟩
theorem ok_39_6 : BkOK mi i_39 (bpf P_39) 6 (B_39.getD 6 bk0) := ⟨36, ⟨1, s_iconst dX1_fillBehind_35 rfl, rfl⟩, t_go dX1_fillBehind_36 (by decide)⟩
theorem ok_39_7 : BkOK mi i_39 (bpf P_39) 7 (B_39.getD 7 bk0) := ⟨42, ⟨1, s_aload_n dX1_fillBehind_39 rfl, ⟨1, s_iload_n dX1_fillBehind_40 rfl, ⟨1, s_iload_n dX1_fillBehind_41 rfl, rfl⟩⟩⟩, t_cv rfl mi_40 mok_40 rfl (fun _ => ⟨rfl, by decide +kernel⟩) (fun hs' e => by cases e; intro E n b h; cases h) (fun q fs As rest h hp hA hr => (call_V (i := i_39) (j := i_40) (C := RX1) (T := TX1) (N := 13) dX1_fillBehind_42 mok_40 rfl ⟨by decide, by decide⟩ np_40 rfl rfl wt_583 wt_584 wt_585 hp hA hr rfl).thr (fun _ => True.intro))⟩
theorem ok_39_8 : BkOK mi i_39 (bpf P_39) 8 (B_39.getD 8 bk0) := ⟨52, ⟨1, s_istore_n dX1_fillBehind_45 rfl (by decide), ⟨1, s_aload_n dX1_fillBehind_46 rfl, ⟨3, s_get (C := RX1) (T := TX1) (N := 13) dX1_fillBehind_47 rfl (by decide) wt_136 uw_X1, ⟨1, s_iload_n dX1_fillBehind_50 rfl, ⟨1, s_iload_n dX1_fillBehind_51 rfl, rfl⟩⟩⟩⟩⟩, t_cs rfl mi_31 mok_31 rfl (fun As rest h hA hr => call_S dX1_fillBehind_52 mok_31 rfl ⟨by decide, by decide⟩ np_31 wt_496 wt_497 hA hr)⟩
theorem ok_39_9 : BkOK mi i_39 (bpf P_39) 9 (B_39.getD 9 bk0) := ⟨56, ⟨1, s_iload_n dX1_fillBehind_55 rfl, rfl⟩, t_cv rfl mi_63 mok_63 rfl (fun _ => ⟨rfl, by decide +kernel⟩) (fun hs' e => by cases e; intro E n b h; cases h) (fun q fs As rest h hp hA hr => (call_V (i := i_39) (j := i_63) (C := RX2) (T := TX2) (N := 1) dX1_fillBehind_56 mok_63 rfl ⟨by decide, by decide⟩ np_63 rfl rfl wt_487 wt_57 wt_58 hp hA hr rfl).thr (fun _ => True.intro))⟩
theorem ok_39_10 : BkOK mi i_39 (bpf P_39) 10 (B_39.getD 10 bk0) := ⟨62, ⟨3, s_iinc dX1_fillBehind_59 rfl (by decide), rfl⟩, t_go dX1_fillBehind_62 (by decide)⟩
theorem ok_39_11 : BkOK mi i_39 (bpf P_39) 11 (B_39.getD 11 bk0) := ⟨68, ⟨3, s_iinc dX1_fillBehind_65 rfl (by decide), rfl⟩, t_go dX1_fillBehind_68 (by decide)⟩
theorem ok_39_12 : BkOK mi i_39 (bpf P_39) 12 (B_39.getD 12 bk0) := ⟨71, rfl, t_retV dX1_fillBehind_71 rfl⟩
theorem ok_39 : ∀ b, BkOK mi i_39 (bpf P_39) b (B_39.getD b bk0)
  | 0 => ok_39_0
  | 1 => ok_39_1
  | 2 => ok_39_2
  | 3 => ok_39_3
  | 4 => ok_39_4
  | 5 => ok_39_5
  | 6 => ok_39_6
  | 7 => ok_39_7
  | 8 => ok_39_8
  | 9 => ok_39_9
  | 10 => ok_39_10
  | 11 => ok_39_11
  | 12 => ok_39_12
  | b + 13 => bk_none mi i_39 (bpf P_39) (b + 13)
theorem ok_40_0 : BkOK mi i_40 (bpf P_40) 0 (B_40.getD 0 bk0) := ⟨5, ⟨1, s_iconst dX1_leastOutOf_0 rfl, ⟨1, s_istore_n dX1_leastOutOf_1 rfl (by decide), ⟨1, s_iconst dX1_leastOutOf_2 rfl, ⟨2, s_istore dX1_leastOutOf_3 (by decide), rfl⟩⟩⟩⟩, t_fall rfl⟩
theorem ok_40_1 : BkOK mi i_40 (bpf P_40) 1 (B_40.getD 1 bk0) := ⟨14, ⟨2, s_iload dX1_leastOutOf_5, ⟨1, s_aload_n dX1_leastOutOf_7 rfl, ⟨3, s_get (C := RX1) (T := TX1) (N := 13) dX1_leastOutOf_8 rfl (by decide) wt_130 uw_X1, ⟨1, s_iload_n dX1_leastOutOf_11 rfl, ⟨1, s_iconst dX1_leastOutOf_12 rfl, ⟨1, s_iadd dX1_leastOutOf_13, rfl⟩⟩⟩⟩⟩⟩, t_cv rfl mi_62 mok_62 rfl (fun _ => ⟨rfl, by decide +kernel⟩) (fun hs' e => by cases e; intro E n b h; cases h) (fun q fs As rest h hp hA hr => (call_V (i := i_40) (j := i_62) (C := RX2) (T := TX2) (N := 1) dX1_leastOutOf_14 mok_62 rfl ⟨by decide, by decide⟩ np_62 rfl rfl wt_488 wt_277 wt_278 hp hA hr rfl).thr (fun _ => True.intro))⟩
theorem ok_40_2 : BkOK mi i_40 (bpf P_40) 2 (B_40.getD 2 bk0) := ⟨17, rfl, t_ge dX1_leastOutOf_17 (by decide) rfl⟩
theorem ok_40_3 : BkOK mi i_40 (bpf P_40) 3 (B_40.getD 3 bk0) := ⟨26, ⟨1, s_iload_n dX1_leastOutOf_20 rfl, ⟨1, s_aload_n dX1_leastOutOf_21 rfl, ⟨1, s_iload_n dX1_leastOutOf_22 rfl, ⟨1, s_iload_n dX1_leastOutOf_23 rfl, ⟨2, s_iload dX1_leastOutOf_24, rfl⟩⟩⟩⟩⟩, t_cv rfl mi_41 mok_41 rfl (fun _ => ⟨rfl, by decide +kernel⟩) (fun hs' e => by cases e; intro E n b h; cases h) (fun q fs As rest h hp hA hr => (call_V (i := i_40) (j := i_41) (C := RX1) (T := TX1) (N := 13) dX1_leastOutOf_26 mok_41 rfl ⟨by decide, by decide⟩ np_41 rfl rfl wt_587 wt_588 wt_589 hp hA hr rfl).thr (fun _ => True.intro))⟩
theorem ok_40_4 : BkOK mi i_40 (bpf P_40) 4 (B_40.getD 4 bk0) := ⟨29, rfl, t_cs rfl mi_149 mok_149 rfl (fun As rest h hA hr => call_SN dX1_leastOutOf_29 mok_149 rfl ⟨by decide, by decide⟩ np_149 wt_575 wt_576 hA hr)⟩
theorem ok_40_5 : BkOK mi i_40 (bpf P_40) 5 (B_40.getD 5 bk0) := ⟨36, ⟨1, s_istore_n dX1_leastOutOf_32 rfl (by decide), ⟨3, s_iinc dX1_leastOutOf_33 rfl (by decide), rfl⟩⟩, t_go dX1_leastOutOf_36 (by decide)⟩
theorem ok_40_6 : BkOK mi i_40 (bpf P_40) 6 (B_40.getD 6 bk0) := ⟨40, ⟨1, s_iload_n dX1_leastOutOf_39 rfl, rfl⟩, t_ret dX1_leastOutOf_40 rfl⟩
theorem ok_40 : ∀ b, BkOK mi i_40 (bpf P_40) b (B_40.getD b bk0)
  | 0 => ok_40_0
  | 1 => ok_40_1
  | 2 => ok_40_2
  | 3 => ok_40_3
  | 4 => ok_40_4
  | 5 => ok_40_5
  | 6 => ok_40_6
  | b + 7 => bk_none mi i_40 (bpf P_40) (b + 7)
theorem ok_41_0 : BkOK mi i_41 (bpf P_41) 0 (B_41.getD 0 bk0) := ⟨7, ⟨1, s_aload_n dX1_costOnward_0 rfl, ⟨3, s_get (C := RX1) (T := TX1) (N := 13) dX1_costOnward_1 rfl (by decide) wt_134 uw_X1, ⟨1, s_iload_n dX1_costOnward_4 rfl, ⟨1, s_iload_n dX1_costOnward_5 rfl, ⟨1, s_iload_n dX1_costOnward_6 rfl, rfl⟩⟩⟩⟩⟩, t_cs rfl mi_33 mok_33 rfl (fun As rest h hA hr => call_S dX1_costOnward_7 mok_33 rfl ⟨by decide, by decide⟩ np_33 wt_533 wt_534 hA hr)⟩
theorem ok_41_1 : BkOK mi i_41 (bpf P_41) 1 (B_41.getD 1 bk0) := ⟨10, rfl, t_cv rfl mi_62 mok_62 rfl (fun _ => ⟨rfl, by decide +kernel⟩) (fun hs' e => by cases e; intro E n b h; cases h) (fun q fs As rest h hp hA hr => (call_V (i := i_41) (j := i_62) (C := RX2) (T := TX2) (N := 1) dX1_costOnward_10 mok_62 rfl ⟨by decide, by decide⟩ np_62 rfl rfl wt_488 wt_277 wt_278 hp hA hr rfl).thr (fun _ => True.intro))⟩
theorem ok_41_2 : BkOK mi i_41 (bpf P_41) 2 (B_41.getD 2 bk0) := ⟨18, ⟨1, s_aload_n dX1_costOnward_13 rfl, ⟨1, s_iload_n dX1_costOnward_14 rfl, ⟨1, s_iconst dX1_costOnward_15 rfl, ⟨1, s_iadd dX1_costOnward_16, ⟨1, s_iload_n dX1_costOnward_17 rfl, rfl⟩⟩⟩⟩⟩, t_cv rfl mi_42 mok_42 rfl (fun _ => ⟨rfl, by decide +kernel⟩) (fun hs' e => by cases e; intro E n b h; cases h) (fun q fs As rest h hp hA hr => (call_V (i := i_41) (j := i_42) (C := RX1) (T := TX1) (N := 13) dX1_costOnward_18 mok_42 rfl ⟨by decide, by decide⟩ np_42 rfl rfl wt_591 wt_592 wt_593 hp hA hr rfl).thr (fun _ => True.intro))⟩
theorem ok_41_3 : BkOK mi i_41 (bpf P_41) 3 (B_41.getD 3 bk0) := ⟨21, rfl, t_cs rfl mi_148 mok_148 rfl (fun As rest h hA hr => call_SN dX1_costOnward_21 mok_148 rfl ⟨by decide, by decide⟩ np_148 wt_572 wt_573 hA hr)⟩
theorem ok_41_4 : BkOK mi i_41 (bpf P_41) 4 (B_41.getD 4 bk0) := ⟨24, rfl, t_ret dX1_costOnward_24 rfl⟩
theorem ok_41 : ∀ b, BkOK mi i_41 (bpf P_41) b (B_41.getD b bk0)
  | 0 => ok_41_0
  | 1 => ok_41_1
  | 2 => ok_41_2
  | 3 => ok_41_3
  | 4 => ok_41_4
  | b + 5 => bk_none mi i_41 (bpf P_41) (b + 5)
theorem ok_42_0 : BkOK mi i_42 (bpf P_42) 0 (B_42.getD 0 bk0) := ⟨2, ⟨1, s_iload_n dX1_costFrom_0 rfl, ⟨1, s_iload_n dX1_costFrom_1 rfl, rfl⟩⟩, t_cs rfl mi_31 mok_31 rfl (fun As rest h hA hr => call_S dX1_costFrom_2 mok_31 rfl ⟨by decide, by decide⟩ np_31 wt_496 wt_497 hA hr)⟩
theorem ok_42_1 : BkOK mi i_42 (bpf P_42) 1 (B_42.getD 1 bk0) := ⟨11, ⟨1, s_istore_n dX1_costFrom_5 rfl (by decide), ⟨1, s_aload_n dX1_costFrom_6 rfl, ⟨3, s_get (C := RX1) (T := TX1) (N := 13) dX1_costFrom_7 rfl (by decide) wt_133 uw_X1, ⟨1, s_iload_n dX1_costFrom_10 rfl, rfl⟩⟩⟩⟩, t_cv rfl mi_62 mok_62 rfl (fun _ => ⟨rfl, by decide +kernel⟩) (fun hs' e => by cases e; intro E n b h; cases h) (fun q fs As rest h hp hA hr => (call_V (i := i_42) (j := i_62) (C := RX2) (T := TX2) (N := 1) dX1_costFrom_11 mok_62 rfl ⟨by decide, by decide⟩ np_62 rfl rfl wt_488 wt_277 wt_278 hp hA hr rfl).thr (fun _ => True.intro))⟩
theorem ok_42_2 : BkOK mi i_42 (bpf P_42) 2 (B_42.getD 2 bk0) := ⟨19, ⟨1, s_aload_n dX1_costFrom_14 rfl, ⟨3, s_get (C := RX1) (T := TX1) (N := 13) dX1_costFrom_15 rfl (by decide) wt_136 uw_X1, ⟨1, s_iload_n dX1_costFrom_18 rfl, rfl⟩⟩⟩, t_cv rfl mi_62 mok_62 rfl (fun _ => ⟨rfl, by decide +kernel⟩) (fun hs' e => by cases e; intro E n b h; cases h) (fun q fs As rest h hp hA hr => (call_V (i := i_42) (j := i_62) (C := RX2) (T := TX2) (N := 1) dX1_costFrom_19 mok_62 rfl ⟨by decide, by decide⟩ np_62 rfl rfl wt_488 wt_277 wt_278 hp hA hr rfl).thr (fun _ => True.intro))⟩
theorem ok_42_3 : BkOK mi i_42 (bpf P_42) 3 (B_42.getD 3 bk0) := ⟨22, rfl, t_cs rfl mi_148 mok_148 rfl (fun As rest h hA hr => call_SN dX1_costFrom_22 mok_148 rfl ⟨by decide, by decide⟩ np_148 wt_572 wt_573 hA hr)⟩
theorem ok_42_4 : BkOK mi i_42 (bpf P_42) 4 (B_42.getD 4 bk0) := ⟨25, rfl, t_ret dX1_costFrom_25 rfl⟩
theorem ok_42 : ∀ b, BkOK mi i_42 (bpf P_42) b (B_42.getD b bk0)
  | 0 => ok_42_0
  | 1 => ok_42_1
  | 2 => ok_42_2
  | 3 => ok_42_3
  | 4 => ok_42_4
  | b + 5 => bk_none mi i_42 (bpf P_42) (b + 5)
theorem ok_43_0 : BkOK mi i_43 (bpf P_43) 0 (B_43.getD 0 bk0) := ⟨2, ⟨1, s_iload_n dX1_costThrough_0 rfl, ⟨1, s_iload_n dX1_costThrough_1 rfl, rfl⟩⟩, t_cs rfl mi_31 mok_31 rfl (fun As rest h hA hr => call_S dX1_costThrough_2 mok_31 rfl ⟨by decide, by decide⟩ np_31 wt_496 wt_497 hA hr)⟩
theorem ok_43_1 : BkOK mi i_43 (bpf P_43) 1 (B_43.getD 1 bk0) := ⟨11, ⟨1, s_istore_n dX1_costThrough_5 rfl (by decide), ⟨1, s_aload_n dX1_costThrough_6 rfl, ⟨3, s_get (C := RX1) (T := TX1) (N := 13) dX1_costThrough_7 rfl (by decide) wt_135 uw_X1, ⟨1, s_iload_n dX1_costThrough_10 rfl, rfl⟩⟩⟩⟩, t_cv rfl mi_62 mok_62 rfl (fun _ => ⟨rfl, by decide +kernel⟩) (fun hs' e => by cases e; intro E n b h; cases h) (fun q fs As rest h hp hA hr => (call_V (i := i_43) (j := i_62) (C := RX2) (T := TX2) (N := 1) dX1_costThrough_11 mok_62 rfl ⟨by decide, by decide⟩ np_62 rfl rfl wt_488 wt_277 wt_278 hp hA hr rfl).thr (fun _ => True.intro))⟩
theorem ok_43_2 : BkOK mi i_43 (bpf P_43) 2 (B_43.getD 2 bk0) := ⟨19, ⟨1, s_aload_n dX1_costThrough_14 rfl, ⟨3, s_get (C := RX1) (T := TX1) (N := 13) dX1_costThrough_15 rfl (by decide) wt_136 uw_X1, ⟨1, s_iload_n dX1_costThrough_18 rfl, rfl⟩⟩⟩, t_cv rfl mi_62 mok_62 rfl (fun _ => ⟨rfl, by decide +kernel⟩) (fun hs' e => by cases e; intro E n b h; cases h) (fun q fs As rest h hp hA hr => (call_V (i := i_43) (j := i_62) (C := RX2) (T := TX2) (N := 1) dX1_costThrough_19 mok_62 rfl ⟨by decide, by decide⟩ np_62 rfl rfl wt_488 wt_277 wt_278 hp hA hr rfl).thr (fun _ => True.intro))⟩
theorem ok_43_3 : BkOK mi i_43 (bpf P_43) 3 (B_43.getD 3 bk0) := ⟨22, rfl, t_cs rfl mi_148 mok_148 rfl (fun As rest h hA hr => call_SN dX1_costThrough_22 mok_148 rfl ⟨by decide, by decide⟩ np_148 wt_572 wt_573 hA hr)⟩
theorem ok_43_4 : BkOK mi i_43 (bpf P_43) 4 (B_43.getD 4 bk0) := ⟨25, rfl, t_ret dX1_costThrough_25 rfl⟩
theorem ok_43 : ∀ b, BkOK mi i_43 (bpf P_43) b (B_43.getD b bk0)
  | 0 => ok_43_0
  | 1 => ok_43_1
  | 2 => ok_43_2
  | 3 => ok_43_3
  | 4 => ok_43_4
  | b + 5 => bk_none mi i_43 (bpf P_43) (b + 5)
theorem ok_44_0 : BkOK mi i_44 (bpf P_44) 0 (B_44.getD 0 bk0) := ⟨4, ⟨1, s_aload_n dX1_leastAtEnd_0 rfl, ⟨3, s_get (C := RX1) (T := TX1) (N := 13) dX1_leastAtEnd_1 rfl (by decide) wt_127 uw_X1, rfl⟩⟩, t_ne0 dX1_leastAtEnd_4 (by decide) rfl⟩
theorem ok_44_1 : BkOK mi i_44 (bpf P_44) 1 (B_44.getD 1 bk0) := ⟨8, ⟨1, s_iconst dX1_leastAtEnd_7 rfl, rfl⟩, t_go dX1_leastAtEnd_8 (by decide)⟩
theorem ok_44_2 : BkOK mi i_44 (bpf P_44) 2 (B_44.getD 2 bk0) := ⟨12, ⟨1, s_iconst dX1_leastAtEnd_11 rfl, rfl⟩, t_fall rfl⟩
theorem ok_44_3 : BkOK mi i_44 (bpf P_44) 3 (B_44.getD 3 bk0) := ⟨15, ⟨1, s_istore_n dX1_leastAtEnd_12 rfl (by decide), ⟨1, s_iconst dX1_leastAtEnd_13 rfl, ⟨1, s_istore_n dX1_leastAtEnd_14 rfl (by decide), rfl⟩⟩⟩, t_fall rfl⟩
theorem ok_44_4 : BkOK mi i_44 (bpf P_44) 4 (B_44.getD 4 bk0) := ⟨26, ⟨1, s_iload_n dX1_leastAtEnd_15 rfl, ⟨1, s_aload_n dX1_leastAtEnd_16 rfl, ⟨3, s_get (C := RX1) (T := TX1) (N := 13) dX1_leastAtEnd_17 rfl (by decide) wt_130 uw_X1, ⟨1, s_aload_n dX1_leastAtEnd_20 rfl, ⟨3, s_get (C := RX1) (T := TX1) (N := 13) dX1_leastAtEnd_21 rfl (by decide) wt_127 uw_X1, ⟨1, s_iconst dX1_leastAtEnd_24 rfl, ⟨1, s_isub dX1_leastAtEnd_25, rfl⟩⟩⟩⟩⟩⟩⟩, t_cv rfl mi_62 mok_62 rfl (fun _ => ⟨rfl, by decide +kernel⟩) (fun hs' e => by cases e; intro E n b h; cases h) (fun q fs As rest h hp hA hr => (call_V (i := i_44) (j := i_62) (C := RX2) (T := TX2) (N := 1) dX1_leastAtEnd_26 mok_62 rfl ⟨by decide, by decide⟩ np_62 rfl rfl wt_488 wt_277 wt_278 hp hA hr rfl).thr (fun _ => True.intro))⟩
theorem ok_44_5 : BkOK mi i_44 (bpf P_44) 5 (B_44.getD 5 bk0) := ⟨29, rfl, t_ge dX1_leastAtEnd_29 (by decide) rfl⟩
theorem ok_44_6 : BkOK mi i_44 (bpf P_44) 6 (B_44.getD 6 bk0) := ⟨41, ⟨1, s_iload_n dX1_leastAtEnd_32 rfl, ⟨1, s_aload_n dX1_leastAtEnd_33 rfl, ⟨1, s_aload_n dX1_leastAtEnd_34 rfl, ⟨3, s_get (C := RX1) (T := TX1) (N := 13) dX1_leastAtEnd_35 rfl (by decide) wt_127 uw_X1, ⟨1, s_iconst dX1_leastAtEnd_38 rfl, ⟨1, s_isub dX1_leastAtEnd_39, ⟨1, s_iload_n dX1_leastAtEnd_40 rfl, rfl⟩⟩⟩⟩⟩⟩⟩, t_cs rfl mi_31 mok_31 rfl (fun As rest h hA hr => call_S dX1_leastAtEnd_41 mok_31 rfl ⟨by decide, by decide⟩ np_31 wt_496 wt_497 hA hr)⟩
theorem ok_44_7 : BkOK mi i_44 (bpf P_44) 7 (B_44.getD 7 bk0) := ⟨44, rfl, t_cv rfl mi_62 mok_62 rfl (fun _ => ⟨rfl, by decide +kernel⟩) (fun hs' e => by cases e; intro E n b h; cases h) (fun q fs As rest h hp hA hr => (call_V (i := i_44) (j := i_62) (C := RX2) (T := TX2) (N := 1) dX1_leastAtEnd_44 mok_62 rfl ⟨by decide, by decide⟩ np_62 rfl rfl wt_488 wt_277 wt_278 hp hA hr rfl).thr (fun _ => True.intro))⟩
theorem ok_44_8 : BkOK mi i_44 (bpf P_44) 8 (B_44.getD 8 bk0) := ⟨47, rfl, t_cs rfl mi_149 mok_149 rfl (fun As rest h hA hr => call_SN dX1_leastAtEnd_47 mok_149 rfl ⟨by decide, by decide⟩ np_149 wt_575 wt_576 hA hr)⟩
theorem ok_44_9 : BkOK mi i_44 (bpf P_44) 9 (B_44.getD 9 bk0) := ⟨54, ⟨1, s_istore_n dX1_leastAtEnd_50 rfl (by decide), ⟨3, s_iinc dX1_leastAtEnd_51 rfl (by decide), rfl⟩⟩, t_go dX1_leastAtEnd_54 (by decide)⟩
theorem ok_44_10 : BkOK mi i_44 (bpf P_44) 10 (B_44.getD 10 bk0) := ⟨58, ⟨1, s_iload_n dX1_leastAtEnd_57 rfl, rfl⟩, t_ret dX1_leastAtEnd_58 rfl⟩
theorem ok_44 : ∀ b, BkOK mi i_44 (bpf P_44) b (B_44.getD b bk0)
  | 0 => ok_44_0
  | 1 => ok_44_1
  | 2 => ok_44_2
  | 3 => ok_44_3
  | 4 => ok_44_4
  | 5 => ok_44_5
  | 6 => ok_44_6
  | 7 => ok_44_7
  | 8 => ok_44_8
  | 9 => ok_44_9
  | 10 => ok_44_10
  | b + 11 => bk_none mi i_44 (bpf P_44) (b + 11)
theorem ok_45_0 : BkOK mi i_45 (bpf P_45) 0 (B_45.getD 0 bk0) := ⟨5, ⟨1, s_aload_n dX1_findFirst_0 rfl, ⟨3, s_get (C := RX1) (T := TX1) (N := 13) dX1_findFirst_1 rfl (by decide) wt_128 uw_X1, ⟨1, s_iconst dX1_findFirst_4 rfl, rfl⟩⟩⟩, t_nei dX1_findFirst_5 (by decide) rfl⟩
theorem ok_45_1 : BkOK mi i_45 (bpf P_45) 1 (B_45.getD 1 bk0) := ⟨8, rfl, t_retV dX1_findFirst_8 rfl⟩
theorem ok_45_2 : BkOK mi i_45 (bpf P_45) 2 (B_45.getD 2 bk0) := ⟨16, ⟨1, s_aload_n dX1_findFirst_9 rfl, ⟨3, s_get (C := RX1) (T := TX1) (N := 13) dX1_findFirst_10 rfl (by decide) wt_128 uw_X1, ⟨1, s_istore_n dX1_findFirst_13 rfl (by decide), ⟨1, s_iconst dX1_findFirst_14 rfl, ⟨1, s_istore_n dX1_findFirst_15 rfl (by decide), rfl⟩⟩⟩⟩⟩, t_fall rfl⟩
theorem ok_45_3 : BkOK mi i_45 (bpf P_45) 3 (B_45.getD 3 bk0) := ⟨21, ⟨1, s_iload_n dX1_findFirst_16 rfl, ⟨1, s_aload_n dX1_findFirst_17 rfl, ⟨3, s_get (C := RX1) (T := TX1) (N := 13) dX1_findFirst_18 rfl (by decide) wt_127 uw_X1, rfl⟩⟩⟩, t_ge dX1_findFirst_21 (by decide) rfl⟩
theorem ok_45_4 : BkOK mi i_45 (bpf P_45) 4 (B_45.getD 4 bk0) := ⟨27, ⟨1, s_aload_n dX1_findFirst_24 rfl, ⟨1, s_iload_n dX1_findFirst_25 rfl, ⟨1, s_iload_n dX1_findFirst_26 rfl, rfl⟩⟩⟩, t_cv rfl mi_46 mok_46 rfl (fun _ => ⟨rfl, by decide +kernel⟩) (fun hs' e => by cases e; intro E n b h; cases h) (fun q fs As rest h hp hA hr => (call_V (i := i_45) (j := i_46) (C := RX1) (T := TX1) (N := 13) dX1_findFirst_27 mok_46 rfl ⟨by decide, by decide⟩ np_46 rfl rfl wt_603 wt_604 wt_605 hp hA hr rfl).thr (fun _ => True.intro))⟩
theorem ok_45_5 : BkOK mi i_45 (bpf P_45) 5 (B_45.getD 5 bk0) := ⟨37, ⟨1, s_istore_n dX1_findFirst_30 rfl (by decide), ⟨1, s_aload_n dX1_findFirst_31 rfl, ⟨3, s_get (C := RX1) (T := TX1) (N := 13) dX1_findFirst_32 rfl (by decide) wt_137 uw_X1, ⟨1, s_iload_n dX1_findFirst_35 rfl, ⟨1, s_iload_n dX1_findFirst_36 rfl, rfl⟩⟩⟩⟩⟩, t_cv rfl mi_63 mok_63 rfl (fun _ => ⟨rfl, by decide +kernel⟩) (fun hs' e => by cases e; intro E n b h; cases h) (fun q fs As rest h hp hA hr => (call_V (i := i_45) (j := i_63) (C := RX2) (T := TX2) (N := 1) dX1_findFirst_37 mok_63 rfl ⟨by decide, by decide⟩ np_63 rfl rfl wt_487 wt_57 wt_58 hp hA hr rfl).thr (fun _ => True.intro))⟩
theorem ok_45_6 : BkOK mi i_45 (bpf P_45) 6 (B_45.getD 6 bk0) := ⟨46, ⟨1, s_aload_n dX1_findFirst_40 rfl, ⟨3, s_get (C := RX1) (T := TX1) (N := 13) dX1_findFirst_41 rfl (by decide) wt_136 uw_X1, ⟨1, s_iload_n dX1_findFirst_44 rfl, ⟨1, s_iload_n dX1_findFirst_45 rfl, rfl⟩⟩⟩⟩, t_cs rfl mi_31 mok_31 rfl (fun As rest h hA hr => call_S dX1_findFirst_46 mok_31 rfl ⟨by decide, by decide⟩ np_31 wt_496 wt_497 hA hr)⟩
theorem ok_45_7 : BkOK mi i_45 (bpf P_45) 7 (B_45.getD 7 bk0) := ⟨49, rfl, t_cv rfl mi_62 mok_62 rfl (fun _ => ⟨rfl, by decide +kernel⟩) (fun hs' e => by cases e; intro E n b h; cases h) (fun q fs As rest h hp hA hr => (call_V (i := i_45) (j := i_62) (C := RX2) (T := TX2) (N := 1) dX1_findFirst_49 mok_62 rfl ⟨by decide, by decide⟩ np_62 rfl rfl wt_488 wt_277 wt_278 hp hA hr rfl).thr (fun _ => True.intro))⟩
theorem ok_45_8 : BkOK mi i_45 (bpf P_45) 8 (B_45.getD 8 bk0) := ⟨56, ⟨1, s_istore_n dX1_findFirst_52 rfl (by decide), ⟨3, s_iinc dX1_findFirst_53 rfl (by decide), rfl⟩⟩, t_go dX1_findFirst_56 (by decide)⟩
theorem ok_45_9 : BkOK mi i_45 (bpf P_45) 9 (B_45.getD 9 bk0) := ⟨59, rfl, t_retV dX1_findFirst_59 rfl⟩
theorem ok_45 : ∀ b, BkOK mi i_45 (bpf P_45) b (B_45.getD b bk0)
  | 0 => ok_45_0
  | 1 => ok_45_1
  | 2 => ok_45_2
  | 3 => ok_45_3
  | 4 => ok_45_4
  | 5 => ok_45_5
  | 6 => ok_45_6
  | 7 => ok_45_7
  | 8 => ok_45_8
  | 9 => ok_45_9
  | b + 10 => bk_none mi i_45 (bpf P_45) (b + 10)
theorem ok_46_0 : BkOK mi i_46 (bpf P_46) 0 (B_46.getD 0 bk0) := ⟨2, ⟨1, s_iconst dX1_firstChoice_0 rfl, ⟨1, s_istore_n dX1_firstChoice_1 rfl (by decide), rfl⟩⟩, t_fall rfl⟩
theorem ok_46_1 : BkOK mi i_46 (bpf P_46) 1 (B_46.getD 1 bk0) := ⟨8, ⟨1, s_iload_n dX1_firstChoice_2 rfl, ⟨1, s_aload_n dX1_firstChoice_3 rfl, ⟨3, s_get (C := RX1) (T := TX1) (N := 13) dX1_firstChoice_4 rfl (by decide) wt_130 uw_X1, ⟨1, s_iload_n dX1_firstChoice_7 rfl, rfl⟩⟩⟩⟩, t_cv rfl mi_62 mok_62 rfl (fun _ => ⟨rfl, by decide +kernel⟩) (fun hs' e => by cases e; intro E n b h; cases h) (fun q fs As rest h hp hA hr => (call_V (i := i_46) (j := i_62) (C := RX2) (T := TX2) (N := 1) dX1_firstChoice_8 mok_62 rfl ⟨by decide, by decide⟩ np_62 rfl rfl wt_488 wt_277 wt_278 hp hA hr rfl).thr (fun _ => True.intro))⟩
theorem ok_46_2 : BkOK mi i_46 (bpf P_46) 2 (B_46.getD 2 bk0) := ⟨11, rfl, t_ge dX1_firstChoice_11 (by decide) rfl⟩
theorem ok_46_3 : BkOK mi i_46 (bpf P_46) 3 (B_46.getD 3 bk0) := ⟨15, ⟨1, s_iload_n dX1_firstChoice_14 rfl, rfl⟩, t_ne0 dX1_firstChoice_15 (by decide) rfl⟩
theorem ok_46_4 : BkOK mi i_46 (bpf P_46) 4 (B_46.getD 4 bk0) := ⟨21, ⟨1, s_aload_n dX1_firstChoice_18 rfl, ⟨1, s_iload_n dX1_firstChoice_19 rfl, ⟨1, s_iload_n dX1_firstChoice_20 rfl, rfl⟩⟩⟩, t_cv rfl mi_42 mok_42 rfl (fun _ => ⟨rfl, by decide +kernel⟩) (fun hs' e => by cases e; intro E n b h; cases h) (fun q fs As rest h hp hA hr => (call_V (i := i_46) (j := i_42) (C := RX1) (T := TX1) (N := 13) dX1_firstChoice_21 mok_42 rfl ⟨by decide, by decide⟩ np_42 rfl rfl wt_591 wt_592 wt_593 hp hA hr rfl).thr (fun _ => True.intro))⟩
theorem ok_46_5 : BkOK mi i_46 (bpf P_46) 5 (B_46.getD 5 bk0) := ⟨24, rfl, t_go dX1_firstChoice_24 (by decide)⟩
theorem ok_46_6 : BkOK mi i_46 (bpf P_46) 6 (B_46.getD 6 bk0) := ⟨38, ⟨1, s_aload_n dX1_firstChoice_27 rfl, ⟨1, s_iload_n dX1_firstChoice_28 rfl, ⟨1, s_iconst dX1_firstChoice_29 rfl, ⟨1, s_isub dX1_firstChoice_30, ⟨1, s_aload_n dX1_firstChoice_31 rfl, ⟨3, s_get (C := RX1) (T := TX1) (N := 13) dX1_firstChoice_32 rfl (by decide) wt_137 uw_X1, ⟨1, s_iload_n dX1_firstChoice_35 rfl, ⟨1, s_iconst dX1_firstChoice_36 rfl, ⟨1, s_isub dX1_firstChoice_37, rfl⟩⟩⟩⟩⟩⟩⟩⟩⟩, t_cv rfl mi_62 mok_62 rfl (fun _ => ⟨rfl, by decide +kernel⟩) (fun hs' e => by cases e; intro E n b h; cases h) (fun q fs As rest h hp hA hr => (call_V (i := i_46) (j := i_62) (C := RX2) (T := TX2) (N := 1) dX1_firstChoice_38 mok_62 rfl ⟨by decide, by decide⟩ np_62 rfl rfl wt_488 wt_277 wt_278 hp hA hr rfl).thr (fun _ => True.intro))⟩
theorem ok_46_7 : BkOK mi i_46 (bpf P_46) 7 (B_46.getD 7 bk0) := ⟨42, ⟨1, s_iload_n dX1_firstChoice_41 rfl, rfl⟩, t_cv rfl mi_41 mok_41 rfl (fun _ => ⟨rfl, by decide +kernel⟩) (fun hs' e => by cases e; intro E n b h; cases h) (fun q fs As rest h hp hA hr => (call_V (i := i_46) (j := i_41) (C := RX1) (T := TX1) (N := 13) dX1_firstChoice_42 mok_41 rfl ⟨by decide, by decide⟩ np_41 rfl rfl wt_587 wt_588 wt_589 hp hA hr rfl).thr (fun _ => True.intro))⟩
theorem ok_46_8 : BkOK mi i_46 (bpf P_46) 8 (B_46.getD 8 bk0) := ⟨50, ⟨2, s_istore dX1_firstChoice_45 (by decide), ⟨2, s_iload dX1_firstChoice_47, ⟨1, s_iload_n dX1_firstChoice_49 rfl, rfl⟩⟩⟩, t_nei dX1_firstChoice_50 (by decide) rfl⟩
theorem ok_46_9 : BkOK mi i_46 (bpf P_46) 9 (B_46.getD 9 bk0) := ⟨54, ⟨1, s_iload_n dX1_firstChoice_53 rfl, rfl⟩, t_ret dX1_firstChoice_54 rfl⟩
theorem ok_46_10 : BkOK mi i_46 (bpf P_46) 10 (B_46.getD 10 bk0) := ⟨58, ⟨3, s_iinc dX1_firstChoice_55 rfl (by decide), rfl⟩, t_go dX1_firstChoice_58 (by decide)⟩
theorem ok_46_11 : BkOK mi i_46 (bpf P_46) 11 (B_46.getD 11 bk0) := ⟨62, ⟨1, s_iconst dX1_firstChoice_61 rfl, rfl⟩, t_ret dX1_firstChoice_62 rfl⟩
theorem ok_46 : ∀ b, BkOK mi i_46 (bpf P_46) b (B_46.getD b bk0)
  | 0 => ok_46_0
  | 1 => ok_46_1
  | 2 => ok_46_2
  | 3 => ok_46_3
  | 4 => ok_46_4
  | 5 => ok_46_5
  | 6 => ok_46_6
  | 7 => ok_46_7
  | 8 => ok_46_8
  | 9 => ok_46_9
  | 10 => ok_46_10
  | 11 => ok_46_11
  | b + 12 => bk_none mi i_46 (bpf P_46) (b + 12)
theorem ok_47_0 : BkOK mi i_47 (bpf P_47) 0 (B_47.getD 0 bk0) := ⟨10, ⟨1, s_aload_n dX1_firstFinger_0 rfl, ⟨3, s_get (C := RX1) (T := TX1) (N := 13) dX1_firstFinger_1 rfl (by decide) wt_132 uw_X1, ⟨1, s_iload_n dX1_firstFinger_4 rfl, ⟨1, s_aload_n dX1_firstFinger_5 rfl, ⟨3, s_get (C := RX1) (T := TX1) (N := 13) dX1_firstFinger_6 rfl (by decide) wt_137 uw_X1, ⟨1, s_iload_n dX1_firstFinger_9 rfl, rfl⟩⟩⟩⟩⟩⟩, t_cv rfl mi_62 mok_62 rfl (fun _ => ⟨rfl, by decide +kernel⟩) (fun hs' e => by cases e; intro E n b h; cases h) (fun q fs As rest h hp hA hr => (call_V (i := i_47) (j := i_62) (C := RX2) (T := TX2) (N := 1) dX1_firstFinger_10 mok_62 rfl ⟨by decide, by decide⟩ np_62 rfl rfl wt_488 wt_277 wt_278 hp hA hr rfl).thr (fun _ => True.intro))⟩
theorem ok_47_1 : BkOK mi i_47 (bpf P_47) 1 (B_47.getD 1 bk0) := ⟨13, rfl, t_cs rfl mi_32 mok_32 rfl (fun As rest h hA hr => call_S dX1_firstFinger_13 mok_32 rfl ⟨by decide, by decide⟩ np_32 wt_493 wt_494 hA hr)⟩
theorem ok_47_2 : BkOK mi i_47 (bpf P_47) 2 (B_47.getD 2 bk0) := ⟨18, ⟨1, s_iload_n dX1_firstFinger_16 rfl, ⟨1, s_iadd dX1_firstFinger_17, rfl⟩⟩, t_cv rfl mi_62 mok_62 rfl (fun _ => ⟨rfl, by decide +kernel⟩) (fun hs' e => by cases e; intro E n b h; cases h) (fun q fs As rest h hp hA hr => (call_V (i := i_47) (j := i_62) (C := RX2) (T := TX2) (N := 1) dX1_firstFinger_18 mok_62 rfl ⟨by decide, by decide⟩ np_62 rfl rfl wt_488 wt_277 wt_278 hp hA hr rfl).thr (fun _ => True.intro))⟩
theorem ok_47_3 : BkOK mi i_47 (bpf P_47) 3 (B_47.getD 3 bk0) := ⟨21, rfl, t_ret dX1_firstFinger_21 rfl⟩
theorem ok_47 : ∀ b, BkOK mi i_47 (bpf P_47) b (B_47.getD b bk0)
  | 0 => ok_47_0
  | 1 => ok_47_1
  | 2 => ok_47_2
  | 3 => ok_47_3
  | b + 4 => bk_none mi i_47 (bpf P_47) (b + 4)
theorem ok_48_0 : BkOK mi i_48 (bpf P_48) 0 (B_48.getD 0 bk0) := ⟨10, ⟨1, s_aload_n dX1_firstEventCost_0 rfl, ⟨3, s_get (C := RX1) (T := TX1) (N := 13) dX1_firstEventCost_1 rfl (by decide) wt_133 uw_X1, ⟨1, s_iload_n dX1_firstEventCost_4 rfl, ⟨1, s_aload_n dX1_firstEventCost_5 rfl, ⟨3, s_get (C := RX1) (T := TX1) (N := 13) dX1_firstEventCost_6 rfl (by decide) wt_137 uw_X1, ⟨1, s_iload_n dX1_firstEventCost_9 rfl, rfl⟩⟩⟩⟩⟩⟩, t_cv rfl mi_62 mok_62 rfl (fun _ => ⟨rfl, by decide +kernel⟩) (fun hs' e => by cases e; intro E n b h; cases h) (fun q fs As rest h hp hA hr => (call_V (i := i_48) (j := i_62) (C := RX2) (T := TX2) (N := 1) dX1_firstEventCost_10 mok_62 rfl ⟨by decide, by decide⟩ np_62 rfl rfl wt_488 wt_277 wt_278 hp hA hr rfl).thr (fun _ => True.intro))⟩
theorem ok_48_1 : BkOK mi i_48 (bpf P_48) 1 (B_48.getD 1 bk0) := ⟨13, rfl, t_cs rfl mi_31 mok_31 rfl (fun As rest h hA hr => call_S dX1_firstEventCost_13 mok_31 rfl ⟨by decide, by decide⟩ np_31 wt_496 wt_497 hA hr)⟩
theorem ok_48_2 : BkOK mi i_48 (bpf P_48) 2 (B_48.getD 2 bk0) := ⟨16, rfl, t_cv rfl mi_62 mok_62 rfl (fun _ => ⟨rfl, by decide +kernel⟩) (fun hs' e => by cases e; intro E n b h; cases h) (fun q fs As rest h hp hA hr => (call_V (i := i_48) (j := i_62) (C := RX2) (T := TX2) (N := 1) dX1_firstEventCost_16 mok_62 rfl ⟨by decide, by decide⟩ np_62 rfl rfl wt_488 wt_277 wt_278 hp hA hr rfl).thr (fun _ => True.intro))⟩
theorem ok_48_3 : BkOK mi i_48 (bpf P_48) 3 (B_48.getD 3 bk0) := ⟨19, rfl, t_ret dX1_firstEventCost_19 rfl⟩
theorem ok_48 : ∀ b, BkOK mi i_48 (bpf P_48) b (B_48.getD b bk0)
  | 0 => ok_48_0
  | 1 => ok_48_1
  | 2 => ok_48_2
  | 3 => ok_48_3
  | b + 4 => bk_none mi i_48 (bpf P_48) (b + 4)
theorem ok_49_0 : BkOK mi i_49 (bpf P_49) 0 (B_49.getD 0 bk0) := ⟨10, ⟨1, s_aload_n dX1_firstPassageCost_0 rfl, ⟨3, s_get (C := RX1) (T := TX1) (N := 13) dX1_firstPassageCost_1 rfl (by decide) wt_134 uw_X1, ⟨1, s_iload_n dX1_firstPassageCost_4 rfl, ⟨1, s_aload_n dX1_firstPassageCost_5 rfl, ⟨3, s_get (C := RX1) (T := TX1) (N := 13) dX1_firstPassageCost_6 rfl (by decide) wt_137 uw_X1, ⟨1, s_iload_n dX1_firstPassageCost_9 rfl, rfl⟩⟩⟩⟩⟩⟩, t_cv rfl mi_62 mok_62 rfl (fun _ => ⟨rfl, by decide +kernel⟩) (fun hs' e => by cases e; intro E n b h; cases h) (fun q fs As rest h hp hA hr => (call_V (i := i_49) (j := i_62) (C := RX2) (T := TX2) (N := 1) dX1_firstPassageCost_10 mok_62 rfl ⟨by decide, by decide⟩ np_62 rfl rfl wt_488 wt_277 wt_278 hp hA hr rfl).thr (fun _ => True.intro))⟩
theorem ok_49_1 : BkOK mi i_49 (bpf P_49) 1 (B_49.getD 1 bk0) := ⟨20, ⟨1, s_aload_n dX1_firstPassageCost_13 rfl, ⟨3, s_get (C := RX1) (T := TX1) (N := 13) dX1_firstPassageCost_14 rfl (by decide) wt_137 uw_X1, ⟨1, s_iload_n dX1_firstPassageCost_17 rfl, ⟨1, s_iconst dX1_firstPassageCost_18 rfl, ⟨1, s_iadd dX1_firstPassageCost_19, rfl⟩⟩⟩⟩⟩, t_cv rfl mi_62 mok_62 rfl (fun _ => ⟨rfl, by decide +kernel⟩) (fun hs' e => by cases e; intro E n b h; cases h) (fun q fs As rest h hp hA hr => (call_V (i := i_49) (j := i_62) (C := RX2) (T := TX2) (N := 1) dX1_firstPassageCost_20 mok_62 rfl ⟨by decide, by decide⟩ np_62 rfl rfl wt_488 wt_277 wt_278 hp hA hr rfl).thr (fun _ => True.intro))⟩
theorem ok_49_2 : BkOK mi i_49 (bpf P_49) 2 (B_49.getD 2 bk0) := ⟨23, rfl, t_cs rfl mi_33 mok_33 rfl (fun As rest h hA hr => call_S dX1_firstPassageCost_23 mok_33 rfl ⟨by decide, by decide⟩ np_33 wt_533 wt_534 hA hr)⟩
theorem ok_49_3 : BkOK mi i_49 (bpf P_49) 3 (B_49.getD 3 bk0) := ⟨26, rfl, t_cv rfl mi_62 mok_62 rfl (fun _ => ⟨rfl, by decide +kernel⟩) (fun hs' e => by cases e; intro E n b h; cases h) (fun q fs As rest h hp hA hr => (call_V (i := i_49) (j := i_62) (C := RX2) (T := TX2) (N := 1) dX1_firstPassageCost_26 mok_62 rfl ⟨by decide, by decide⟩ np_62 rfl rfl wt_488 wt_277 wt_278 hp hA hr rfl).thr (fun _ => True.intro))⟩
theorem ok_49_4 : BkOK mi i_49 (bpf P_49) 4 (B_49.getD 4 bk0) := ⟨29, rfl, t_ret dX1_firstPassageCost_29 rfl⟩
theorem ok_49 : ∀ b, BkOK mi i_49 (bpf P_49) b (B_49.getD b bk0)
  | 0 => ok_49_0
  | 1 => ok_49_1
  | 2 => ok_49_2
  | 3 => ok_49_3
  | 4 => ok_49_4
  | b + 5 => bk_none mi i_49 (bpf P_49) (b + 5)
theorem ok_50_0 : BkOK mi i_50 (bpf P_50) 0 (B_50.getD 0 bk0) := ⟨12, ⟨1, s_aload_n dX1_firstCrossings_0 rfl, ⟨1, s_iload_n dX1_firstCrossings_1 rfl, ⟨1, s_aload_n dX1_firstCrossings_2 rfl, ⟨3, s_get (C := RX1) (T := TX1) (N := 13) dX1_firstCrossings_3 rfl (by decide) wt_132 uw_X1, ⟨1, s_iload_n dX1_firstCrossings_6 rfl, ⟨1, s_aload_n dX1_firstCrossings_7 rfl, ⟨3, s_get (C := RX1) (T := TX1) (N := 13) dX1_firstCrossings_8 rfl (by decide) wt_137 uw_X1, ⟨1, s_iload_n dX1_firstCrossings_11 rfl, rfl⟩⟩⟩⟩⟩⟩⟩⟩, t_cv rfl mi_62 mok_62 rfl (fun _ => ⟨rfl, by decide +kernel⟩) (fun hs' e => by cases e; intro E n b h; cases h) (fun q fs As rest h hp hA hr => (call_V (i := i_50) (j := i_62) (C := RX2) (T := TX2) (N := 1) dX1_firstCrossings_12 mok_62 rfl ⟨by decide, by decide⟩ np_62 rfl rfl wt_488 wt_277 wt_278 hp hA hr rfl).thr (fun _ => True.intro))⟩
theorem ok_50_1 : BkOK mi i_50 (bpf P_50) 1 (B_50.getD 1 bk0) := ⟨15, rfl, t_cs rfl mi_32 mok_32 rfl (fun As rest h hA hr => call_S dX1_firstCrossings_15 mok_32 rfl ⟨by decide, by decide⟩ np_32 wt_493 wt_494 hA hr)⟩
theorem ok_50_2 : BkOK mi i_50 (bpf P_50) 2 (B_50.getD 2 bk0) := ⟨28, ⟨1, s_iload_n dX1_firstCrossings_18 rfl, ⟨1, s_iconst dX1_firstCrossings_19 rfl, ⟨1, s_iadd dX1_firstCrossings_20, ⟨1, s_aload_n dX1_firstCrossings_21 rfl, ⟨3, s_get (C := RX1) (T := TX1) (N := 13) dX1_firstCrossings_22 rfl (by decide) wt_137 uw_X1, ⟨1, s_iload_n dX1_firstCrossings_25 rfl, ⟨1, s_iconst dX1_firstCrossings_26 rfl, ⟨1, s_iadd dX1_firstCrossings_27, rfl⟩⟩⟩⟩⟩⟩⟩⟩, t_cv rfl mi_62 mok_62 rfl (fun _ => ⟨rfl, by decide +kernel⟩) (fun hs' e => by cases e; intro E n b h; cases h) (fun q fs As rest h hp hA hr => (call_V (i := i_50) (j := i_62) (C := RX2) (T := TX2) (N := 1) dX1_firstCrossings_28 mok_62 rfl ⟨by decide, by decide⟩ np_62 rfl rfl wt_488 wt_277 wt_278 hp hA hr rfl).thr (fun _ => True.intro))⟩
theorem ok_50_3 : BkOK mi i_50 (bpf P_50) 3 (B_50.getD 3 bk0) := ⟨31, rfl, t_cs rfl mi_32 mok_32 rfl (fun As rest h hA hr => call_S dX1_firstCrossings_31 mok_32 rfl ⟨by decide, by decide⟩ np_32 wt_493 wt_494 hA hr)⟩
theorem ok_50_4 : BkOK mi i_50 (bpf P_50) 4 (B_50.getD 4 bk0) := ⟨34, rfl, t_cv rfl mi_23 mok_23 rfl (fun _ => ⟨rfl, by decide +kernel⟩) (fun hs' e => by cases e; intro E n b h; cases h) (fun q fs As rest h hp hA hr => (call_V (i := i_50) (j := i_23) (C := RX0) (T := TX0) (N := 10) dX1_firstCrossings_34 mok_23 rfl ⟨by decide, by decide⟩ np_23 rfl rfl wt_928 wt_929 wt_930 hp hA hr rfl).thr (fun _ => True.intro))⟩
theorem ok_50_5 : BkOK mi i_50 (bpf P_50) 5 (B_50.getD 5 bk0) := ⟨37, rfl, t_ret dX1_firstCrossings_37 rfl⟩
theorem ok_50 : ∀ b, BkOK mi i_50 (bpf P_50) b (B_50.getD b bk0)
  | 0 => ok_50_0
  | 1 => ok_50_1
  | 2 => ok_50_2
  | 3 => ok_50_3
  | 4 => ok_50_4
  | 5 => ok_50_5
  | b + 6 => bk_none mi i_50 (bpf P_50) (b + 6)
theorem ok_51_0 : BkOK mi i_51 (bpf P_51) 0 (B_51.getD 0 bk0) := ⟨4, ⟨1, s_aload_n dX1_countWays_0 rfl, ⟨3, s_get (C := RX1) (T := TX1) (N := 13) dX1_countWays_1 rfl (by decide) wt_127 uw_X1, rfl⟩⟩, t_ne0 dX1_countWays_4 (by decide) rfl⟩
theorem ok_51_1 : BkOK mi i_51 (bpf P_51) 1 (B_51.getD 1 bk0) := ⟨8, ⟨1, s_lconst dX1_countWays_7 rfl, rfl⟩, t_retL dX1_countWays_8 rfl⟩
theorem ok_51_2 : BkOK mi i_51 (bpf P_51) 2 (B_51.getD 2 bk0) := ⟨11, ⟨1, s_iconst dX1_countWays_9 rfl, ⟨1, s_istore_n dX1_countWays_10 rfl (by decide), rfl⟩⟩, t_fall rfl⟩
theorem ok_51_3 : BkOK mi i_51 (bpf P_51) 3 (B_51.getD 3 bk0) := ⟨16, ⟨1, s_iload_n dX1_countWays_11 rfl, ⟨1, s_aload_n dX1_countWays_12 rfl, ⟨3, s_get (C := RX1) (T := TX1) (N := 13) dX1_countWays_13 rfl (by decide) wt_127 uw_X1, rfl⟩⟩⟩, t_ge dX1_countWays_16 (by decide) rfl⟩
theorem ok_51_4 : BkOK mi i_51 (bpf P_51) 4 (B_51.getD 4 bk0) := ⟨21, ⟨1, s_iconst dX1_countWays_19 rfl, ⟨1, s_istore_n dX1_countWays_20 rfl (by decide), rfl⟩⟩, t_fall rfl⟩
theorem ok_51_5 : BkOK mi i_51 (bpf P_51) 5 (B_51.getD 5 bk0) := ⟨27, ⟨1, s_iload_n dX1_countWays_21 rfl, ⟨1, s_aload_n dX1_countWays_22 rfl, ⟨3, s_get (C := RX1) (T := TX1) (N := 13) dX1_countWays_23 rfl (by decide) wt_130 uw_X1, ⟨1, s_iload_n dX1_countWays_26 rfl, rfl⟩⟩⟩⟩, t_cv rfl mi_62 mok_62 rfl (fun _ => ⟨rfl, by decide +kernel⟩) (fun hs' e => by cases e; intro E n b h; cases h) (fun q fs As rest h hp hA hr => (call_V (i := i_51) (j := i_62) (C := RX2) (T := TX2) (N := 1) dX1_countWays_27 mok_62 rfl ⟨by decide, by decide⟩ np_62 rfl rfl wt_488 wt_277 wt_278 hp hA hr rfl).thr (fun _ => True.intro))⟩
theorem ok_51_6 : BkOK mi i_51 (bpf P_51) 6 (B_51.getD 6 bk0) := ⟨30, rfl, t_ge dX1_countWays_30 (by decide) rfl⟩
theorem ok_51_7 : BkOK mi i_51 (bpf P_51) 7 (B_51.getD 7 bk0) := ⟨36, ⟨1, s_aload_n dX1_countWays_33 rfl, ⟨1, s_iload_n dX1_countWays_34 rfl, ⟨1, s_iload_n dX1_countWays_35 rfl, rfl⟩⟩⟩, t_cs rfl mi_31 mok_31 rfl (fun As rest h hA hr => call_S dX1_countWays_36 mok_31 rfl ⟨by decide, by decide⟩ np_31 wt_496 wt_497 hA hr)⟩
theorem ok_51_8 : BkOK mi i_51 (bpf P_51) 8 (B_51.getD 8 bk0) := ⟨40, ⟨1, s_iload_n dX1_countWays_39 rfl, rfl⟩, t_ne0 dX1_countWays_40 (by decide) rfl⟩
theorem ok_51_9 : BkOK mi i_51 (bpf P_51) 9 (B_51.getD 9 bk0) := ⟨44, ⟨1, s_lconst dX1_countWays_43 rfl, rfl⟩, t_go dX1_countWays_44 (by decide)⟩
theorem ok_51_10 : BkOK mi i_51 (bpf P_51) 10 (B_51.getD 10 bk0) := ⟨51, ⟨1, s_aload_n dX1_countWays_47 rfl, ⟨1, s_iload_n dX1_countWays_48 rfl, ⟨1, s_iload_n dX1_countWays_49 rfl, ⟨1, s_iload_n dX1_countWays_50 rfl, rfl⟩⟩⟩⟩, t_cv rfl mi_52 mok_52 rfl (fun _ => ⟨rfl, by decide +kernel⟩) (fun hs' e => by cases e; intro E n b h; cases h) (fun q fs As rest h hp hA hr => (call_V (i := i_51) (j := i_52) (C := RX1) (T := TX1) (N := 13) dX1_countWays_51 mok_52 rfl ⟨by decide, by decide⟩ np_52 rfl rfl wt_615 wt_616 wt_617 hp hA hr rfl).thr (fun _ => True.intro))⟩
theorem ok_51_11 : BkOK mi i_51 (bpf P_51) 11 (B_51.getD 11 bk0) := ⟨54, rfl, t_cv rfl mi_54 mok_54 rfl (fun _ => ⟨rfl, by decide +kernel⟩) (fun hs' e => by cases e; intro E n b h; cases h) (fun q fs As rest h hp hA hr => (call_V (i := i_51) (j := i_54) (C := RX1) (T := TX1) (N := 13) dX1_countWays_54 mok_54 rfl ⟨by decide, by decide⟩ np_54 rfl rfl wt_627 wt_628 wt_629 hp hA hr rfl).thr (fun _ => True.intro))⟩
theorem ok_51_12 : BkOK mi i_51 (bpf P_51) 12 (B_51.getD 12 bk0) := ⟨60, ⟨3, s_iinc dX1_countWays_57 rfl (by decide), rfl⟩, t_go dX1_countWays_60 (by decide)⟩
theorem ok_51_13 : BkOK mi i_51 (bpf P_51) 13 (B_51.getD 13 bk0) := ⟨66, ⟨3, s_iinc dX1_countWays_63 rfl (by decide), rfl⟩, t_go dX1_countWays_66 (by decide)⟩
theorem ok_51_14 : BkOK mi i_51 (bpf P_51) 14 (B_51.getD 14 bk0) := ⟨74, ⟨1, s_lconst dX1_countWays_69 rfl, ⟨1, s_lstore_n dX1_countWays_70 rfl (by decide), ⟨1, s_iconst dX1_countWays_71 rfl, ⟨2, s_istore dX1_countWays_72 (by decide), rfl⟩⟩⟩⟩, t_fall rfl⟩
theorem ok_51_15 : BkOK mi i_51 (bpf P_51) 15 (B_51.getD 15 bk0) := ⟨86, ⟨2, s_iload dX1_countWays_74, ⟨1, s_aload_n dX1_countWays_76 rfl, ⟨3, s_get (C := RX1) (T := TX1) (N := 13) dX1_countWays_77 rfl (by decide) wt_130 uw_X1, ⟨1, s_aload_n dX1_countWays_80 rfl, ⟨3, s_get (C := RX1) (T := TX1) (N := 13) dX1_countWays_81 rfl (by decide) wt_127 uw_X1, ⟨1, s_iconst dX1_countWays_84 rfl, ⟨1, s_isub dX1_countWays_85, rfl⟩⟩⟩⟩⟩⟩⟩, t_cv rfl mi_62 mok_62 rfl (fun _ => ⟨rfl, by decide +kernel⟩) (fun hs' e => by cases e; intro E n b h; cases h) (fun q fs As rest h hp hA hr => (call_V (i := i_51) (j := i_62) (C := RX2) (T := TX2) (N := 1) dX1_countWays_86 mok_62 rfl ⟨by decide, by decide⟩ np_62 rfl rfl wt_488 wt_277 wt_278 hp hA hr rfl).thr (fun _ => True.intro))⟩
theorem ok_51_16 : BkOK mi i_51 (bpf P_51) 16 (B_51.getD 16 bk0) := ⟨89, rfl, t_ge dX1_countWays_89 (by decide) rfl⟩
theorem ok_51_17 : BkOK mi i_51 (bpf P_51) 17 (B_51.getD 17 bk0) := ⟨100, ⟨1, s_aload_n dX1_countWays_92 rfl, ⟨3, s_get (C := RX1) (T := TX1) (N := 13) dX1_countWays_93 rfl (by decide) wt_127 uw_X1, ⟨1, s_iconst dX1_countWays_96 rfl, ⟨1, s_isub dX1_countWays_97, ⟨2, s_iload dX1_countWays_98, rfl⟩⟩⟩⟩⟩, t_cs rfl mi_31 mok_31 rfl (fun As rest h hA hr => call_S dX1_countWays_100 mok_31 rfl ⟨by decide, by decide⟩ np_31 wt_496 wt_497 hA hr)⟩
theorem ok_51_18 : BkOK mi i_51 (bpf P_51) 18 (B_51.getD 18 bk0) := ⟨106, ⟨2, s_istore dX1_countWays_103 (by decide), ⟨1, s_iload_n dX1_countWays_105 rfl, rfl⟩⟩, t_eq0 dX1_countWays_106 (by decide) rfl⟩
theorem ok_51_19 : BkOK mi i_51 (bpf P_51) 19 (B_51.getD 19 bk0) := ⟨115, ⟨1, s_aload_n dX1_countWays_109 rfl, ⟨3, s_get (C := RX1) (T := TX1) (N := 13) dX1_countWays_110 rfl (by decide) wt_135 uw_X1, ⟨2, s_iload dX1_countWays_113, rfl⟩⟩⟩, t_cv rfl mi_62 mok_62 rfl (fun _ => ⟨rfl, by decide +kernel⟩) (fun hs' e => by cases e; intro E n b h; cases h) (fun q fs As rest h hp hA hr => (call_V (i := i_51) (j := i_62) (C := RX2) (T := TX2) (N := 1) dX1_countWays_115 mok_62 rfl ⟨by decide, by decide⟩ np_62 rfl rfl wt_488 wt_277 wt_278 hp hA hr rfl).thr (fun _ => True.intro))⟩
theorem ok_51_20 : BkOK mi i_51 (bpf P_51) 20 (B_51.getD 20 bk0) := ⟨122, ⟨1, s_aload_n dX1_countWays_118 rfl, ⟨3, s_get (C := RX1) (T := TX1) (N := 13) dX1_countWays_119 rfl (by decide) wt_128 uw_X1, rfl⟩⟩, t_nei dX1_countWays_122 (by decide) rfl⟩
theorem ok_51_21 : BkOK mi i_51 (bpf P_51) 21 (B_51.getD 21 bk0) := ⟨129, ⟨1, s_lload_n dX1_countWays_125 rfl, ⟨1, s_aload_n dX1_countWays_126 rfl, ⟨2, s_iload dX1_countWays_127, rfl⟩⟩⟩, t_cv rfl mi_53 mok_53 rfl (fun _ => ⟨rfl, by decide +kernel⟩) (fun hs' e => by cases e; intro E n b h; cases h) (fun q fs As rest h hp hA hr => (call_V (i := i_51) (j := i_53) (C := RX1) (T := TX1) (N := 13) dX1_countWays_129 mok_53 rfl ⟨by decide, by decide⟩ np_53 rfl rfl wt_619 wt_620 wt_621 hp hA hr rfl).thr (fun _ => True.intro))⟩
theorem ok_51_22 : BkOK mi i_51 (bpf P_51) 22 (B_51.getD 22 bk0) := ⟨134, ⟨1, s_ladd dX1_countWays_132, ⟨1, s_lstore_n dX1_countWays_133 rfl (by decide), rfl⟩⟩, t_fall rfl⟩
theorem ok_51_23 : BkOK mi i_51 (bpf P_51) 23 (B_51.getD 23 bk0) := ⟨137, ⟨3, s_iinc dX1_countWays_134 rfl (by decide), rfl⟩, t_go dX1_countWays_137 (by decide)⟩
theorem ok_51_24 : BkOK mi i_51 (bpf P_51) 24 (B_51.getD 24 bk0) := ⟨147, ⟨1, s_lload_n dX1_countWays_140 rfl, ⟨3, s_ldc2 dX1_countWays_141 wt_623, ⟨3, s_lmin dX1_countWays_144 wt_624x wt_625 wt_4 wt_626 ⟨by decide, by decide⟩, rfl⟩⟩⟩, t_retL dX1_countWays_147 rfl⟩
theorem ok_51 : ∀ b, BkOK mi i_51 (bpf P_51) b (B_51.getD b bk0)
  | 0 => ok_51_0
  | 1 => ok_51_1
  | 2 => ok_51_2
  | 3 => ok_51_3
  | 4 => ok_51_4
  | 5 => ok_51_5
  | 6 => ok_51_6
  | 7 => ok_51_7
  | 8 => ok_51_8
  | 9 => ok_51_9
  | 10 => ok_51_10
  | 11 => ok_51_11
  | 12 => ok_51_12
  | 13 => ok_51_13
  | 14 => ok_51_14
  | 15 => ok_51_15
  | 16 => ok_51_16
  | 17 => ok_51_17
  | 18 => ok_51_18
  | 19 => ok_51_19
  | 20 => ok_51_20
  | 21 => ok_51_21
  | 22 => ok_51_22
  | 23 => ok_51_23
  | 24 => ok_51_24
  | b + 25 => bk_none mi i_51 (bpf P_51) (b + 25)
theorem ok_52_0 : BkOK mi i_52 (bpf P_52) 0 (B_52.getD 0 bk0) := ⟨2, ⟨1, s_iload_n dX1_waysInto_0 rfl, ⟨1, s_iload_n dX1_waysInto_1 rfl, rfl⟩⟩, t_cs rfl mi_31 mok_31 rfl (fun As rest h hA hr => call_S dX1_waysInto_2 mok_31 rfl ⟨by decide, by decide⟩ np_31 wt_496 wt_497 hA hr)⟩
theorem ok_52_1 : BkOK mi i_52 (bpf P_52) 1 (B_52.getD 1 bk0) := ⟨13, ⟨2, s_istore dX1_waysInto_5 (by decide), ⟨1, s_lconst dX1_waysInto_7 rfl, ⟨2, s_lstore dX1_waysInto_8 (by decide), ⟨1, s_iconst dX1_waysInto_10 rfl, ⟨2, s_istore dX1_waysInto_11 (by decide), rfl⟩⟩⟩⟩⟩, t_fall rfl⟩
theorem ok_52_2 : BkOK mi i_52 (bpf P_52) 2 (B_52.getD 2 bk0) := ⟨22, ⟨2, s_iload dX1_waysInto_13, ⟨1, s_aload_n dX1_waysInto_15 rfl, ⟨3, s_get (C := RX1) (T := TX1) (N := 13) dX1_waysInto_16 rfl (by decide) wt_130 uw_X1, ⟨1, s_iload_n dX1_waysInto_19 rfl, ⟨1, s_iconst dX1_waysInto_20 rfl, ⟨1, s_isub dX1_waysInto_21, rfl⟩⟩⟩⟩⟩⟩, t_cv rfl mi_62 mok_62 rfl (fun _ => ⟨rfl, by decide +kernel⟩) (fun hs' e => by cases e; intro E n b h; cases h) (fun q fs As rest h hp hA hr => (call_V (i := i_52) (j := i_62) (C := RX2) (T := TX2) (N := 1) dX1_waysInto_22 mok_62 rfl ⟨by decide, by decide⟩ np_62 rfl rfl wt_488 wt_277 wt_278 hp hA hr rfl).thr (fun _ => True.intro))⟩
theorem ok_52_3 : BkOK mi i_52 (bpf P_52) 3 (B_52.getD 3 bk0) := ⟨25, rfl, t_ge dX1_waysInto_25 (by decide) rfl⟩
theorem ok_52_4 : BkOK mi i_52 (bpf P_52) 4 (B_52.getD 4 bk0) := ⟨33, ⟨1, s_iload_n dX1_waysInto_28 rfl, ⟨1, s_iconst dX1_waysInto_29 rfl, ⟨1, s_isub dX1_waysInto_30, ⟨2, s_iload dX1_waysInto_31, rfl⟩⟩⟩⟩, t_cs rfl mi_31 mok_31 rfl (fun As rest h hA hr => call_S dX1_waysInto_33 mok_31 rfl ⟨by decide, by decide⟩ np_31 wt_496 wt_497 hA hr)⟩
theorem ok_52_5 : BkOK mi i_52 (bpf P_52) 5 (B_52.getD 5 bk0) := ⟨48, ⟨2, s_istore dX1_waysInto_36 (by decide), ⟨1, s_aload_n dX1_waysInto_38 rfl, ⟨3, s_get (C := RX1) (T := TX1) (N := 13) dX1_waysInto_39 rfl (by decide) wt_134 uw_X1, ⟨1, s_iload_n dX1_waysInto_42 rfl, ⟨1, s_iconst dX1_waysInto_43 rfl, ⟨1, s_isub dX1_waysInto_44, ⟨2, s_iload dX1_waysInto_45, ⟨1, s_iload_n dX1_waysInto_47 rfl, rfl⟩⟩⟩⟩⟩⟩⟩⟩, t_cs rfl mi_33 mok_33 rfl (fun As rest h hA hr => call_S dX1_waysInto_48 mok_33 rfl ⟨by decide, by decide⟩ np_33 wt_533 wt_534 hA hr)⟩
theorem ok_52_6 : BkOK mi i_52 (bpf P_52) 6 (B_52.getD 6 bk0) := ⟨51, rfl, t_cv rfl mi_62 mok_62 rfl (fun _ => ⟨rfl, by decide +kernel⟩) (fun hs' e => by cases e; intro E n b h; cases h) (fun q fs As rest h hp hA hr => (call_V (i := i_52) (j := i_62) (C := RX2) (T := TX2) (N := 1) dX1_waysInto_51 mok_62 rfl ⟨by decide, by decide⟩ np_62 rfl rfl wt_488 wt_277 wt_278 hp hA hr rfl).thr (fun _ => True.intro))⟩
theorem ok_52_7 : BkOK mi i_52 (bpf P_52) 7 (B_52.getD 7 bk0) := ⟨62, ⟨2, s_istore dX1_waysInto_54 (by decide), ⟨1, s_aload_n dX1_waysInto_56 rfl, ⟨3, s_get (C := RX1) (T := TX1) (N := 13) dX1_waysInto_57 rfl (by decide) wt_135 uw_X1, ⟨2, s_iload dX1_waysInto_60, rfl⟩⟩⟩⟩, t_cv rfl mi_62 mok_62 rfl (fun _ => ⟨rfl, by decide +kernel⟩) (fun hs' e => by cases e; intro E n b h; cases h) (fun q fs As rest h hp hA hr => (call_V (i := i_52) (j := i_62) (C := RX2) (T := TX2) (N := 1) dX1_waysInto_62 mok_62 rfl ⟨by decide, by decide⟩ np_62 rfl rfl wt_488 wt_277 wt_278 hp hA hr rfl).thr (fun _ => True.intro))⟩
theorem ok_52_8 : BkOK mi i_52 (bpf P_52) 8 (B_52.getD 8 bk0) := ⟨67, ⟨2, s_iload dX1_waysInto_65, rfl⟩, t_cs rfl mi_148 mok_148 rfl (fun As rest h hA hr => call_SN dX1_waysInto_67 mok_148 rfl ⟨by decide, by decide⟩ np_148 wt_572 wt_573 hA hr)⟩
theorem ok_52_9 : BkOK mi i_52 (bpf P_52) 9 (B_52.getD 9 bk0) := ⟨76, ⟨1, s_aload_n dX1_waysInto_70 rfl, ⟨3, s_get (C := RX1) (T := TX1) (N := 13) dX1_waysInto_71 rfl (by decide) wt_133 uw_X1, ⟨2, s_iload dX1_waysInto_74, rfl⟩⟩⟩, t_cv rfl mi_62 mok_62 rfl (fun _ => ⟨rfl, by decide +kernel⟩) (fun hs' e => by cases e; intro E n b h; cases h) (fun q fs As rest h hp hA hr => (call_V (i := i_52) (j := i_62) (C := RX2) (T := TX2) (N := 1) dX1_waysInto_76 mok_62 rfl ⟨by decide, by decide⟩ np_62 rfl rfl wt_488 wt_277 wt_278 hp hA hr rfl).thr (fun _ => True.intro))⟩
theorem ok_52_10 : BkOK mi i_52 (bpf P_52) 10 (B_52.getD 10 bk0) := ⟨79, rfl, t_cs rfl mi_148 mok_148 rfl (fun As rest h hA hr => call_SN dX1_waysInto_79 mok_148 rfl ⟨by decide, by decide⟩ np_148 wt_572 wt_573 hA hr)⟩
theorem ok_52_11 : BkOK mi i_52 (bpf P_52) 11 (B_52.getD 11 bk0) := ⟨87, ⟨2, s_istore dX1_waysInto_82 (by decide), ⟨2, s_iload dX1_waysInto_84, ⟨1, s_iconst dX1_waysInto_86 rfl, rfl⟩⟩⟩, t_eq dX1_waysInto_87 (by decide) rfl⟩
theorem ok_52_12 : BkOK mi i_52 (bpf P_52) 12 (B_52.getD 12 bk0) := ⟨91, ⟨1, s_iload_n dX1_waysInto_90 rfl, rfl⟩, t_eq0 dX1_waysInto_91 (by decide) rfl⟩
theorem ok_52_13 : BkOK mi i_52 (bpf P_52) 13 (B_52.getD 13 bk0) := ⟨102, ⟨2, s_iload dX1_waysInto_94, ⟨1, s_aload_n dX1_waysInto_96 rfl, ⟨3, s_get (C := RX1) (T := TX1) (N := 13) dX1_waysInto_97 rfl (by decide) wt_135 uw_X1, ⟨2, s_iload dX1_waysInto_100, rfl⟩⟩⟩⟩, t_cv rfl mi_62 mok_62 rfl (fun _ => ⟨rfl, by decide +kernel⟩) (fun hs' e => by cases e; intro E n b h; cases h) (fun q fs As rest h hp hA hr => (call_V (i := i_52) (j := i_62) (C := RX2) (T := TX2) (N := 1) dX1_waysInto_102 mok_62 rfl ⟨by decide, by decide⟩ np_62 rfl rfl wt_488 wt_277 wt_278 hp hA hr rfl).thr (fun _ => True.intro))⟩
theorem ok_52_14 : BkOK mi i_52 (bpf P_52) 14 (B_52.getD 14 bk0) := ⟨105, rfl, t_nei dX1_waysInto_105 (by decide) rfl⟩
theorem ok_52_15 : BkOK mi i_52 (bpf P_52) 15 (B_52.getD 15 bk0) := ⟨113, ⟨2, s_lload dX1_waysInto_108, ⟨1, s_aload_n dX1_waysInto_110 rfl, ⟨2, s_iload dX1_waysInto_111, rfl⟩⟩⟩, t_cv rfl mi_53 mok_53 rfl (fun _ => ⟨rfl, by decide +kernel⟩) (fun hs' e => by cases e; intro E n b h; cases h) (fun q fs As rest h hp hA hr => (call_V (i := i_52) (j := i_53) (C := RX1) (T := TX1) (N := 13) dX1_waysInto_113 mok_53 rfl ⟨by decide, by decide⟩ np_53 rfl rfl wt_619 wt_620 wt_621 hp hA hr rfl).thr (fun _ => True.intro))⟩
theorem ok_52_16 : BkOK mi i_52 (bpf P_52) 16 (B_52.getD 16 bk0) := ⟨119, ⟨1, s_ladd dX1_waysInto_116, ⟨2, s_lstore dX1_waysInto_117 (by decide), rfl⟩⟩, t_fall rfl⟩
theorem ok_52_17 : BkOK mi i_52 (bpf P_52) 17 (B_52.getD 17 bk0) := ⟨122, ⟨3, s_iinc dX1_waysInto_119 rfl (by decide), rfl⟩, t_go dX1_waysInto_122 (by decide)⟩
theorem ok_52_18 : BkOK mi i_52 (bpf P_52) 18 (B_52.getD 18 bk0) := ⟨133, ⟨2, s_lload dX1_waysInto_125, ⟨3, s_ldc2 dX1_waysInto_127 wt_623, ⟨3, s_lmin dX1_waysInto_130 wt_624x wt_625 wt_4 wt_626 ⟨by decide, by decide⟩, rfl⟩⟩⟩, t_retL dX1_waysInto_133 rfl⟩
theorem ok_52 : ∀ b, BkOK mi i_52 (bpf P_52) b (B_52.getD b bk0)
  | 0 => ok_52_0
  | 1 => ok_52_1
  | 2 => ok_52_2
  | 3 => ok_52_3
  | 4 => ok_52_4
  | 5 => ok_52_5
  | 6 => ok_52_6
  | 7 => ok_52_7
  | 8 => ok_52_8
  | 9 => ok_52_9
  | 10 => ok_52_10
  | 11 => ok_52_11
  | 12 => ok_52_12
  | 13 => ok_52_13
  | 14 => ok_52_14
  | 15 => ok_52_15
  | 16 => ok_52_16
  | 17 => ok_52_17
  | 18 => ok_52_18
  | b + 19 => bk_none mi i_52 (bpf P_52) (b + 19)
theorem ok_53_0 : BkOK mi i_53 (bpf P_53) 0 (B_53.getD 0 bk0) := ⟨1, ⟨1, s_iload_n dX1_waysAt_0 rfl, rfl⟩, t_lt0 dX1_waysAt_1 (by decide) rfl⟩
theorem ok_53_1 : BkOK mi i_53 (bpf P_53) 1 (B_53.getD 1 bk0) := ⟨10, ⟨1, s_iload_n dX1_waysAt_4 rfl, ⟨1, s_aload_n dX1_waysAt_5 rfl, ⟨3, s_get (C := RX1) (T := TX1) (N := 13) dX1_waysAt_6 rfl (by decide) wt_140 uw_X1, ⟨1, s_alen dX1_waysAt_9, rfl⟩⟩⟩⟩, t_ge dX1_waysAt_10 (by decide) rfl⟩
theorem ok_53_2 : BkOK mi i_53 (bpf P_53) 2 (B_53.getD 2 bk0) := ⟨19, ⟨1, s_aload_n dX1_waysAt_13 rfl, ⟨3, s_get (C := RX1) (T := TX1) (N := 13) dX1_waysAt_14 rfl (by decide) wt_140 uw_X1, ⟨1, s_iload_n dX1_waysAt_17 rfl, ⟨1, s_laload dX1_waysAt_18, rfl⟩⟩⟩⟩, t_go dX1_waysAt_19 (by decide)⟩
theorem ok_53_3 : BkOK mi i_53 (bpf P_53) 3 (B_53.getD 3 bk0) := ⟨23, ⟨1, s_lconst dX1_waysAt_22 rfl, rfl⟩, t_fall rfl⟩
theorem ok_53_4 : BkOK mi i_53 (bpf P_53) 4 (B_53.getD 4 bk0) := ⟨23, rfl, t_retL dX1_waysAt_23 rfl⟩
theorem ok_53 : ∀ b, BkOK mi i_53 (bpf P_53) b (B_53.getD b bk0)
  | 0 => ok_53_0
  | 1 => ok_53_1
  | 2 => ok_53_2
  | 3 => ok_53_3
  | 4 => ok_53_4
  | b + 5 => bk_none mi i_53 (bpf P_53) (b + 5)
theorem ok_54_0 : BkOK mi i_54 (bpf P_54) 0 (B_54.getD 0 bk0) := ⟨1, ⟨1, s_iload_n dX1_putWays_0 rfl, rfl⟩, t_lt0 dX1_putWays_1 (by decide) rfl⟩
theorem ok_54_1 : BkOK mi i_54 (bpf P_54) 1 (B_54.getD 1 bk0) := ⟨10, ⟨1, s_iload_n dX1_putWays_4 rfl, ⟨1, s_aload_n dX1_putWays_5 rfl, ⟨3, s_get (C := RX1) (T := TX1) (N := 13) dX1_putWays_6 rfl (by decide) wt_140 uw_X1, ⟨1, s_alen dX1_putWays_9, rfl⟩⟩⟩⟩, t_ge dX1_putWays_10 (by decide) rfl⟩
theorem ok_54_2 : BkOK mi i_54 (bpf P_54) 2 (B_54.getD 2 bk0) := ⟨20, ⟨1, s_aload_n dX1_putWays_13 rfl, ⟨3, s_get (C := RX1) (T := TX1) (N := 13) dX1_putWays_14 rfl (by decide) wt_140 uw_X1, ⟨1, s_iload_n dX1_putWays_17 rfl, ⟨1, s_lload_n dX1_putWays_18 rfl, ⟨1, s_last dX1_putWays_19, rfl⟩⟩⟩⟩⟩, t_fall rfl⟩
theorem ok_54_3 : BkOK mi i_54 (bpf P_54) 3 (B_54.getD 3 bk0) := ⟨20, rfl, t_retV dX1_putWays_20 rfl⟩
theorem ok_54 : ∀ b, BkOK mi i_54 (bpf P_54) b (B_54.getD b bk0)
  | 0 => ok_54_0
  | 1 => ok_54_1
  | 2 => ok_54_2
  | 3 => ok_54_3
  | b + 4 => bk_none mi i_54 (bpf P_54) (b + 4)
theorem ok_55_0 : BkOK mi i_55 (bpf P_55) 0 (B_55.getD 0 bk0) := ⟨6, ⟨1, s_iconst dX1_leastWith_0 rfl, ⟨2, s_istore dX1_leastWith_1 (by decide), ⟨1, s_iconst dX1_leastWith_3 rfl, ⟨2, s_istore dX1_leastWith_4 (by decide), rfl⟩⟩⟩⟩, t_fall rfl⟩
theorem ok_55_1 : BkOK mi i_55 (bpf P_55) 1 (B_55.getD 1 bk0) := ⟨13, ⟨2, s_iload dX1_leastWith_6, ⟨1, s_aload_n dX1_leastWith_8 rfl, ⟨3, s_get (C := RX1) (T := TX1) (N := 13) dX1_leastWith_9 rfl (by decide) wt_130 uw_X1, ⟨1, s_iload_n dX1_leastWith_12 rfl, rfl⟩⟩⟩⟩, t_cv rfl mi_62 mok_62 rfl (fun _ => ⟨rfl, by decide +kernel⟩) (fun hs' e => by cases e; intro E n b h; cases h) (fun q fs As rest h hp hA hr => (call_V (i := i_55) (j := i_62) (C := RX2) (T := TX2) (N := 1) dX1_leastWith_13 mok_62 rfl ⟨by decide, by decide⟩ np_62 rfl rfl wt_488 wt_277 wt_278 hp hA hr rfl).thr (fun _ => True.intro))⟩
theorem ok_55_2 : BkOK mi i_55 (bpf P_55) 2 (B_55.getD 2 bk0) := ⟨16, rfl, t_ge dX1_leastWith_16 (by decide) rfl⟩
theorem ok_55_3 : BkOK mi i_55 (bpf P_55) 3 (B_55.getD 3 bk0) := ⟨26, ⟨1, s_aload_n dX1_leastWith_19 rfl, ⟨3, s_get (C := RX1) (T := TX1) (N := 13) dX1_leastWith_20 rfl (by decide) wt_132 uw_X1, ⟨1, s_iload_n dX1_leastWith_23 rfl, ⟨2, s_iload dX1_leastWith_24, rfl⟩⟩⟩⟩, t_cs rfl mi_32 mok_32 rfl (fun As rest h hA hr => call_S dX1_leastWith_26 mok_32 rfl ⟨by decide, by decide⟩ np_32 wt_493 wt_494 hA hr)⟩
theorem ok_55_4 : BkOK mi i_55 (bpf P_55) 4 (B_55.getD 4 bk0) := ⟨31, ⟨1, s_iload_n dX1_leastWith_29 rfl, ⟨1, s_iadd dX1_leastWith_30, rfl⟩⟩, t_cv rfl mi_62 mok_62 rfl (fun _ => ⟨rfl, by decide +kernel⟩) (fun hs' e => by cases e; intro E n b h; cases h) (fun q fs As rest h hp hA hr => (call_V (i := i_55) (j := i_62) (C := RX2) (T := TX2) (N := 1) dX1_leastWith_31 mok_62 rfl ⟨by decide, by decide⟩ np_62 rfl rfl wt_488 wt_277 wt_278 hp hA hr rfl).thr (fun _ => True.intro))⟩
theorem ok_55_5 : BkOK mi i_55 (bpf P_55) 5 (B_55.getD 5 bk0) := ⟨35, ⟨1, s_iload_n dX1_leastWith_34 rfl, rfl⟩, t_nei dX1_leastWith_35 (by decide) rfl⟩
theorem ok_55_6 : BkOK mi i_55 (bpf P_55) 6 (B_55.getD 6 bk0) := ⟨44, ⟨2, s_iload dX1_leastWith_38, ⟨1, s_aload_n dX1_leastWith_40 rfl, ⟨1, s_iload_n dX1_leastWith_41 rfl, ⟨2, s_iload dX1_leastWith_42, rfl⟩⟩⟩⟩, t_cv rfl mi_43 mok_43 rfl (fun _ => ⟨rfl, by decide +kernel⟩) (fun hs' e => by cases e; intro E n b h; cases h) (fun q fs As rest h hp hA hr => (call_V (i := i_55) (j := i_43) (C := RX1) (T := TX1) (N := 13) dX1_leastWith_44 mok_43 rfl ⟨by decide, by decide⟩ np_43 rfl rfl wt_943 wt_944 wt_945 hp hA hr rfl).thr (fun _ => True.intro))⟩
theorem ok_55_7 : BkOK mi i_55 (bpf P_55) 7 (B_55.getD 7 bk0) := ⟨47, rfl, t_cs rfl mi_149 mok_149 rfl (fun As rest h hA hr => call_SN dX1_leastWith_47 mok_149 rfl ⟨by decide, by decide⟩ np_149 wt_575 wt_576 hA hr)⟩
theorem ok_55_8 : BkOK mi i_55 (bpf P_55) 8 (B_55.getD 8 bk0) := ⟨52, ⟨2, s_istore dX1_leastWith_50 (by decide), rfl⟩, t_fall rfl⟩
theorem ok_55_9 : BkOK mi i_55 (bpf P_55) 9 (B_55.getD 9 bk0) := ⟨55, ⟨3, s_iinc dX1_leastWith_52 rfl (by decide), rfl⟩, t_go dX1_leastWith_55 (by decide)⟩
theorem ok_55_10 : BkOK mi i_55 (bpf P_55) 10 (B_55.getD 10 bk0) := ⟨60, ⟨2, s_iload dX1_leastWith_58, rfl⟩, t_ret dX1_leastWith_60 rfl⟩
theorem ok_55 : ∀ b, BkOK mi i_55 (bpf P_55) b (B_55.getD b bk0)
  | 0 => ok_55_0
  | 1 => ok_55_1
  | 2 => ok_55_2
  | 3 => ok_55_3
  | 4 => ok_55_4
  | 5 => ok_55_5
  | 6 => ok_55_6
  | 7 => ok_55_7
  | 8 => ok_55_8
  | 9 => ok_55_9
  | 10 => ok_55_10
  | b + 11 => bk_none mi i_55 (bpf P_55) (b + 11)
theorem ok_56_0 : BkOK mi i_56 (bpf P_56) 0 (B_56.getD 0 bk0) := ⟨2, ⟨1, s_iconst dX1_eventsReached_0 rfl, ⟨1, s_istore_n dX1_eventsReached_1 rfl (by decide), rfl⟩⟩, t_fall rfl⟩
theorem ok_56_1 : BkOK mi i_56 (bpf P_56) 1 (B_56.getD 1 bk0) := ⟨7, ⟨1, s_iload_n dX1_eventsReached_2 rfl, ⟨1, s_aload_n dX1_eventsReached_3 rfl, ⟨3, s_get (C := RX1) (T := TX1) (N := 13) dX1_eventsReached_4 rfl (by decide) wt_127 uw_X1, rfl⟩⟩⟩, t_ge dX1_eventsReached_7 (by decide) rfl⟩
theorem ok_56_2 : BkOK mi i_56 (bpf P_56) 2 (B_56.getD 2 bk0) := ⟨12, ⟨1, s_aload_n dX1_eventsReached_10 rfl, ⟨1, s_iload_n dX1_eventsReached_11 rfl, rfl⟩⟩, t_cv rfl mi_57 mok_57 rfl (fun _ => ⟨rfl, by decide +kernel⟩) (fun hs' e => by cases e; intro E n b h; cases h) (fun q fs As rest h hp hA hr => (call_V (i := i_56) (j := i_57) (C := RX1) (T := TX1) (N := 13) dX1_eventsReached_12 mok_57 rfl ⟨by decide, by decide⟩ np_57 rfl rfl wt_639 wt_640 wt_641 hp hA hr rfl).thr (fun _ => True.intro))⟩
theorem ok_56_3 : BkOK mi i_56 (bpf P_56) 3 (B_56.getD 3 bk0) := ⟨15, rfl, t_ne0 dX1_eventsReached_15 (by decide) rfl⟩
theorem ok_56_4 : BkOK mi i_56 (bpf P_56) 4 (B_56.getD 4 bk0) := ⟨19, ⟨1, s_iload_n dX1_eventsReached_18 rfl, rfl⟩, t_ret dX1_eventsReached_19 rfl⟩
theorem ok_56_5 : BkOK mi i_56 (bpf P_56) 5 (B_56.getD 5 bk0) := ⟨23, ⟨3, s_iinc dX1_eventsReached_20 rfl (by decide), rfl⟩, t_go dX1_eventsReached_23 (by decide)⟩
theorem ok_56_6 : BkOK mi i_56 (bpf P_56) 6 (B_56.getD 6 bk0) := ⟨30, ⟨1, s_aload_n dX1_eventsReached_26 rfl, ⟨3, s_get (C := RX1) (T := TX1) (N := 13) dX1_eventsReached_27 rfl (by decide) wt_127 uw_X1, rfl⟩⟩, t_ret dX1_eventsReached_30 rfl⟩
theorem ok_56 : ∀ b, BkOK mi i_56 (bpf P_56) b (B_56.getD b bk0)
  | 0 => ok_56_0
  | 1 => ok_56_1
  | 2 => ok_56_2
  | 3 => ok_56_3
  | 4 => ok_56_4
  | 5 => ok_56_5
  | 6 => ok_56_6
  | b + 7 => bk_none mi i_56 (bpf P_56) (b + 7)
theorem ok_57_0 : BkOK mi i_57 (bpf P_57) 0 (B_57.getD 0 bk0) := ⟨2, ⟨1, s_iconst dX1_isReached_0 rfl, ⟨1, s_istore_n dX1_isReached_1 rfl (by decide), rfl⟩⟩, t_fall rfl⟩
theorem ok_57_1 : BkOK mi i_57 (bpf P_57) 1 (B_57.getD 1 bk0) := ⟨8, ⟨1, s_iload_n dX1_isReached_2 rfl, ⟨1, s_aload_n dX1_isReached_3 rfl, ⟨3, s_get (C := RX1) (T := TX1) (N := 13) dX1_isReached_4 rfl (by decide) wt_130 uw_X1, ⟨1, s_iload_n dX1_isReached_7 rfl, rfl⟩⟩⟩⟩, t_cv rfl mi_62 mok_62 rfl (fun _ => ⟨rfl, by decide +kernel⟩) (fun hs' e => by cases e; intro E n b h; cases h) (fun q fs As rest h hp hA hr => (call_V (i := i_57) (j := i_62) (C := RX2) (T := TX2) (N := 1) dX1_isReached_8 mok_62 rfl ⟨by decide, by decide⟩ np_62 rfl rfl wt_488 wt_277 wt_278 hp hA hr rfl).thr (fun _ => True.intro))⟩
theorem ok_57_2 : BkOK mi i_57 (bpf P_57) 2 (B_57.getD 2 bk0) := ⟨11, rfl, t_ge dX1_isReached_11 (by decide) rfl⟩
theorem ok_57_3 : BkOK mi i_57 (bpf P_57) 3 (B_57.getD 3 bk0) := ⟨20, ⟨1, s_aload_n dX1_isReached_14 rfl, ⟨3, s_get (C := RX1) (T := TX1) (N := 13) dX1_isReached_15 rfl (by decide) wt_135 uw_X1, ⟨1, s_iload_n dX1_isReached_18 rfl, ⟨1, s_iload_n dX1_isReached_19 rfl, rfl⟩⟩⟩⟩, t_cs rfl mi_31 mok_31 rfl (fun As rest h hA hr => call_S dX1_isReached_20 mok_31 rfl ⟨by decide, by decide⟩ np_31 wt_496 wt_497 hA hr)⟩
theorem ok_57_4 : BkOK mi i_57 (bpf P_57) 4 (B_57.getD 4 bk0) := ⟨23, rfl, t_cv rfl mi_62 mok_62 rfl (fun _ => ⟨rfl, by decide +kernel⟩) (fun hs' e => by cases e; intro E n b h; cases h) (fun q fs As rest h hp hA hr => (call_V (i := i_57) (j := i_62) (C := RX2) (T := TX2) (N := 1) dX1_isReached_23 mok_62 rfl ⟨by decide, by decide⟩ np_62 rfl rfl wt_488 wt_277 wt_278 hp hA hr rfl).thr (fun _ => True.intro))⟩
theorem ok_57_5 : BkOK mi i_57 (bpf P_57) 5 (B_57.getD 5 bk0) := ⟨27, ⟨1, s_iconst dX1_isReached_26 rfl, rfl⟩, t_eq dX1_isReached_27 (by decide) rfl⟩
theorem ok_57_6 : BkOK mi i_57 (bpf P_57) 6 (B_57.getD 6 bk0) := ⟨31, ⟨1, s_iconst dX1_isReached_30 rfl, rfl⟩, t_retZ dX1_isReached_31 rfl⟩
theorem ok_57_7 : BkOK mi i_57 (bpf P_57) 7 (B_57.getD 7 bk0) := ⟨35, ⟨3, s_iinc dX1_isReached_32 rfl (by decide), rfl⟩, t_go dX1_isReached_35 (by decide)⟩
theorem ok_57_8 : BkOK mi i_57 (bpf P_57) 8 (B_57.getD 8 bk0) := ⟨39, ⟨1, s_iconst dX1_isReached_38 rfl, rfl⟩, t_retZ dX1_isReached_39 rfl⟩
theorem ok_57 : ∀ b, BkOK mi i_57 (bpf P_57) b (B_57.getD b bk0)
  | 0 => ok_57_0
  | 1 => ok_57_1
  | 2 => ok_57_2
  | 3 => ok_57_3
  | 4 => ok_57_4
  | 5 => ok_57_5
  | 6 => ok_57_6
  | 7 => ok_57_7
  | 8 => ok_57_8
  | b + 9 => bk_none mi i_57 (bpf P_57) (b + 9)
theorem ok_58_0 : BkOK mi i_58 (bpf P_58) 0 (B_58.getD 0 bk0) := ⟨5, ⟨1, s_iconst dX1_cheapestFingers_0 rfl, ⟨1, s_istore_n dX1_cheapestFingers_1 rfl (by decide), ⟨1, s_iconst dX1_cheapestFingers_2 rfl, ⟨2, s_istore dX1_cheapestFingers_3 (by decide), rfl⟩⟩⟩⟩, t_fall rfl⟩
theorem ok_58_1 : BkOK mi i_58 (bpf P_58) 1 (B_58.getD 1 bk0) := ⟨12, ⟨2, s_iload dX1_cheapestFingers_5, ⟨1, s_aload_n dX1_cheapestFingers_7 rfl, ⟨3, s_get (C := RX1) (T := TX1) (N := 13) dX1_cheapestFingers_8 rfl (by decide) wt_130 uw_X1, ⟨1, s_iload_n dX1_cheapestFingers_11 rfl, rfl⟩⟩⟩⟩, t_cv rfl mi_62 mok_62 rfl (fun _ => ⟨rfl, by decide +kernel⟩) (fun hs' e => by cases e; intro E n b h; cases h) (fun q fs As rest h hp hA hr => (call_V (i := i_58) (j := i_62) (C := RX2) (T := TX2) (N := 1) dX1_cheapestFingers_12 mok_62 rfl ⟨by decide, by decide⟩ np_62 rfl rfl wt_488 wt_277 wt_278 hp hA hr rfl).thr (fun _ => True.intro))⟩
theorem ok_58_2 : BkOK mi i_58 (bpf P_58) 2 (B_58.getD 2 bk0) := ⟨15, rfl, t_ge dX1_cheapestFingers_15 (by decide) rfl⟩
theorem ok_58_3 : BkOK mi i_58 (bpf P_58) 3 (B_58.getD 3 bk0) := ⟨22, ⟨1, s_aload_n dX1_cheapestFingers_18 rfl, ⟨1, s_iload_n dX1_cheapestFingers_19 rfl, ⟨2, s_iload dX1_cheapestFingers_20, rfl⟩⟩⟩, t_cv rfl mi_43 mok_43 rfl (fun _ => ⟨rfl, by decide +kernel⟩) (fun hs' e => by cases e; intro E n b h; cases h) (fun q fs As rest h hp hA hr => (call_V (i := i_58) (j := i_43) (C := RX1) (T := TX1) (N := 13) dX1_cheapestFingers_22 mok_43 rfl ⟨by decide, by decide⟩ np_43 rfl rfl wt_943 wt_944 wt_945 hp hA hr rfl).thr (fun _ => True.intro))⟩
theorem ok_58_4 : BkOK mi i_58 (bpf P_58) 4 (B_58.getD 4 bk0) := ⟨29, ⟨1, s_aload_n dX1_cheapestFingers_25 rfl, ⟨3, s_get (C := RX1) (T := TX1) (N := 13) dX1_cheapestFingers_26 rfl (by decide) wt_128 uw_X1, rfl⟩⟩, t_nei dX1_cheapestFingers_29 (by decide) rfl⟩
theorem ok_58_5 : BkOK mi i_58 (bpf P_58) 5 (B_58.getD 5 bk0) := ⟨40, ⟨1, s_iload_n dX1_cheapestFingers_32 rfl, ⟨1, s_aload_n dX1_cheapestFingers_33 rfl, ⟨3, s_get (C := RX1) (T := TX1) (N := 13) dX1_cheapestFingers_34 rfl (by decide) wt_132 uw_X1, ⟨1, s_iload_n dX1_cheapestFingers_37 rfl, ⟨2, s_iload dX1_cheapestFingers_38, rfl⟩⟩⟩⟩⟩, t_cs rfl mi_32 mok_32 rfl (fun As rest h hA hr => call_S dX1_cheapestFingers_40 mok_32 rfl ⟨by decide, by decide⟩ np_32 wt_493 wt_494 hA hr)⟩
theorem ok_58_6 : BkOK mi i_58 (bpf P_58) 6 (B_58.getD 6 bk0) := ⟨45, ⟨1, s_iload_n dX1_cheapestFingers_43 rfl, ⟨1, s_iadd dX1_cheapestFingers_44, rfl⟩⟩, t_cv rfl mi_62 mok_62 rfl (fun _ => ⟨rfl, by decide +kernel⟩) (fun hs' e => by cases e; intro E n b h; cases h) (fun q fs As rest h hp hA hr => (call_V (i := i_58) (j := i_62) (C := RX2) (T := TX2) (N := 1) dX1_cheapestFingers_45 mok_62 rfl ⟨by decide, by decide⟩ np_62 rfl rfl wt_488 wt_277 wt_278 hp hA hr rfl).thr (fun _ => True.intro))⟩
theorem ok_58_7 : BkOK mi i_58 (bpf P_58) 7 (B_58.getD 7 bk0) := ⟨48, rfl, t_cs rfl mi_145 mok_145 rfl (fun As rest h hA hr => call_SN dX1_cheapestFingers_48 mok_145 rfl ⟨by decide, by decide⟩ np_145 wt_965 wt_438 hA hr)⟩
theorem ok_58_8 : BkOK mi i_58 (bpf P_58) 8 (B_58.getD 8 bk0) := ⟨53, ⟨1, s_ior dX1_cheapestFingers_51, ⟨1, s_istore_n dX1_cheapestFingers_52 rfl (by decide), rfl⟩⟩, t_fall rfl⟩
theorem ok_58_9 : BkOK mi i_58 (bpf P_58) 9 (B_58.getD 9 bk0) := ⟨56, ⟨3, s_iinc dX1_cheapestFingers_53 rfl (by decide), rfl⟩, t_go dX1_cheapestFingers_56 (by decide)⟩
theorem ok_58_10 : BkOK mi i_58 (bpf P_58) 10 (B_58.getD 10 bk0) := ⟨60, ⟨1, s_iload_n dX1_cheapestFingers_59 rfl, rfl⟩, t_ret dX1_cheapestFingers_60 rfl⟩
theorem ok_58 : ∀ b, BkOK mi i_58 (bpf P_58) b (B_58.getD b bk0)
  | 0 => ok_58_0
  | 1 => ok_58_1
  | 2 => ok_58_2
  | 3 => ok_58_3
  | 4 => ok_58_4
  | 5 => ok_58_5
  | 6 => ok_58_6
  | 7 => ok_58_7
  | 8 => ok_58_8
  | 9 => ok_58_9
  | 10 => ok_58_10
  | b + 11 => bk_none mi i_58 (bpf P_58) (b + 11)
theorem ok_59_0 : BkOK mi i_59 (bpf P_59) 0 (B_59.getD 0 bk0) := ⟨3, ⟨1, s_iload_n dX1_leastShifted_0 rfl, ⟨2, s_bipush dX1_leastShifted_1 rfl, rfl⟩⟩, t_cs rfl mi_292 mok_292 rfl (fun As rest h hA hr => call_S dX1_leastShifted_3 mok_292 rfl ⟨by decide, by decide⟩ np_292 wt_1000 wt_1001 hA hr)⟩
theorem ok_59_1 : BkOK mi i_59 (bpf P_59) 1 (B_59.getD 1 bk0) := ⟨12, ⟨1, s_istore_n dX1_leastShifted_6 rfl (by decide), ⟨1, s_aload_n dX1_leastShifted_7 rfl, ⟨3, s_get (C := RX1) (T := TX1) (N := 13) dX1_leastShifted_8 rfl (by decide) wt_128 uw_X1, ⟨1, s_iconst dX1_leastShifted_11 rfl, rfl⟩⟩⟩⟩, t_eq dX1_leastShifted_12 (by decide) rfl⟩
theorem ok_59_2 : BkOK mi i_59 (bpf P_59) 2 (B_59.getD 2 bk0) := ⟨20, ⟨1, s_aload_n dX1_leastShifted_15 rfl, ⟨3, s_get (C := RX1) (T := TX1) (N := 13) dX1_leastShifted_16 rfl (by decide) wt_139 uw_X1, ⟨1, s_iload_n dX1_leastShifted_19 rfl, rfl⟩⟩⟩, t_cv rfl mi_62 mok_62 rfl (fun _ => ⟨rfl, by decide +kernel⟩) (fun hs' e => by cases e; intro E n b h; cases h) (fun q fs As rest h hp hA hr => (call_V (i := i_59) (j := i_62) (C := RX2) (T := TX2) (N := 1) dX1_leastShifted_20 mok_62 rfl ⟨by decide, by decide⟩ np_62 rfl rfl wt_488 wt_277 wt_278 hp hA hr rfl).thr (fun _ => True.intro))⟩
theorem ok_59_3 : BkOK mi i_59 (bpf P_59) 3 (B_59.getD 3 bk0) := ⟨24, ⟨1, s_iconst dX1_leastShifted_23 rfl, rfl⟩, t_nei dX1_leastShifted_24 (by decide) rfl⟩
theorem ok_59_4 : BkOK mi i_59 (bpf P_59) 4 (B_59.getD 4 bk0) := ⟨34, ⟨1, s_aload_n dX1_leastShifted_27 rfl, ⟨1, s_aload_n dX1_leastShifted_28 rfl, ⟨1, s_iload_n dX1_leastShifted_29 rfl, ⟨1, s_aload_n dX1_leastShifted_30 rfl, ⟨3, s_get (C := RX1) (T := TX1) (N := 13) dX1_leastShifted_31 rfl (by decide) wt_138 uw_X1, rfl⟩⟩⟩⟩⟩, t_cv rfl mi_37 mok_37 rfl (fun _ => ⟨rfl, by decide +kernel⟩) (fun hs' e => by cases e; intro E n b h; cases h) (fun q fs As rest h hp hA hr => (call_V (i := i_59) (j := i_37) (C := RX1) (T := TX1) (N := 13) dX1_leastShifted_34 mok_37 rfl ⟨by decide, by decide⟩ np_37 rfl rfl wt_564 wt_565 wt_566 hp hA hr rfl).thr (fun _ => True.intro))⟩
theorem ok_59_5 : BkOK mi i_59 (bpf P_59) 5 (B_59.getD 5 bk0) := ⟨47, ⟨1, s_aload_n dX1_leastShifted_37 rfl, ⟨3, s_get (C := RX1) (T := TX1) (N := 13) dX1_leastShifted_38 rfl (by decide) wt_139 uw_X1, ⟨1, s_iload_n dX1_leastShifted_41 rfl, ⟨1, s_aload_n dX1_leastShifted_42 rfl, ⟨1, s_aload_n dX1_leastShifted_43 rfl, ⟨3, s_get (C := RX1) (T := TX1) (N := 13) dX1_leastShifted_44 rfl (by decide) wt_138 uw_X1, rfl⟩⟩⟩⟩⟩⟩, t_cv rfl mi_44 mok_44 rfl (fun _ => ⟨rfl, by decide +kernel⟩) (fun hs' e => by cases e; intro E n b h; cases h) (fun q fs As rest h hp hA hr => (call_V (i := i_59) (j := i_44) (C := RX1) (T := TX1) (N := 13) dX1_leastShifted_47 mok_44 rfl ⟨by decide, by decide⟩ np_44 rfl rfl wt_595 wt_596 wt_597 hp hA hr rfl).thr (fun _ => True.intro))⟩
theorem ok_59_6 : BkOK mi i_59 (bpf P_59) 6 (B_59.getD 6 bk0) := ⟨50, rfl, t_cv rfl mi_63 mok_63 rfl (fun _ => ⟨rfl, by decide +kernel⟩) (fun hs' e => by cases e; intro E n b h; cases h) (fun q fs As rest h hp hA hr => (call_V (i := i_59) (j := i_63) (C := RX2) (T := TX2) (N := 1) dX1_leastShifted_50 mok_63 rfl ⟨by decide, by decide⟩ np_63 rfl rfl wt_487 wt_57 wt_58 hp hA hr rfl).thr (fun _ => True.intro))⟩
theorem ok_59_7 : BkOK mi i_59 (bpf P_59) 7 (B_59.getD 7 bk0) := ⟨58, ⟨1, s_aload_n dX1_leastShifted_53 rfl, ⟨3, s_get (C := RX1) (T := TX1) (N := 13) dX1_leastShifted_54 rfl (by decide) wt_139 uw_X1, ⟨1, s_iload_n dX1_leastShifted_57 rfl, rfl⟩⟩⟩, t_cv rfl mi_62 mok_62 rfl (fun _ => ⟨rfl, by decide +kernel⟩) (fun hs' e => by cases e; intro E n b h; cases h) (fun q fs As rest h hp hA hr => (call_V (i := i_59) (j := i_62) (C := RX2) (T := TX2) (N := 1) dX1_leastShifted_58 mok_62 rfl ⟨by decide, by decide⟩ np_62 rfl rfl wt_488 wt_277 wt_278 hp hA hr rfl).thr (fun _ => True.intro))⟩
theorem ok_59_8 : BkOK mi i_59 (bpf P_59) 8 (B_59.getD 8 bk0) := ⟨61, rfl, t_ret dX1_leastShifted_61 rfl⟩
theorem ok_59 : ∀ b, BkOK mi i_59 (bpf P_59) b (B_59.getD b bk0)
  | 0 => ok_59_0
  | 1 => ok_59_1
  | 2 => ok_59_2
  | 3 => ok_59_3
  | 4 => ok_59_4
  | 5 => ok_59_5
  | 6 => ok_59_6
  | 7 => ok_59_7
  | 8 => ok_59_8
  | b + 9 => bk_none mi i_59 (bpf P_59) (b + 9)
theorem ok_60_0 : BkOK mi i_60 (bpf P_60) 0 (B_60.getD 0 bk0) := ⟨5, ⟨1, s_iconst dX1_leastWithRest_0 rfl, ⟨1, s_istore_n dX1_leastWithRest_1 rfl (by decide), ⟨1, s_iconst dX1_leastWithRest_2 rfl, ⟨2, s_istore dX1_leastWithRest_3 (by decide), rfl⟩⟩⟩⟩, t_fall rfl⟩
theorem ok_60_1 : BkOK mi i_60 (bpf P_60) 1 (B_60.getD 1 bk0) := ⟨12, ⟨2, s_iload dX1_leastWithRest_5, ⟨1, s_aload_n dX1_leastWithRest_7 rfl, ⟨3, s_get (C := RX1) (T := TX1) (N := 13) dX1_leastWithRest_8 rfl (by decide) wt_130 uw_X1, ⟨1, s_iload_n dX1_leastWithRest_11 rfl, rfl⟩⟩⟩⟩, t_cv rfl mi_62 mok_62 rfl (fun _ => ⟨rfl, by decide +kernel⟩) (fun hs' e => by cases e; intro E n b h; cases h) (fun q fs As rest h hp hA hr => (call_V (i := i_60) (j := i_62) (C := RX2) (T := TX2) (N := 1) dX1_leastWithRest_12 mok_62 rfl ⟨by decide, by decide⟩ np_62 rfl rfl wt_488 wt_277 wt_278 hp hA hr rfl).thr (fun _ => True.intro))⟩
theorem ok_60_2 : BkOK mi i_60 (bpf P_60) 2 (B_60.getD 2 bk0) := ⟨15, rfl, t_ge dX1_leastWithRest_15 (by decide) rfl⟩
theorem ok_60_3 : BkOK mi i_60 (bpf P_60) 3 (B_60.getD 3 bk0) := ⟨25, ⟨1, s_aload_n dX1_leastWithRest_18 rfl, ⟨3, s_get (C := RX1) (T := TX1) (N := 13) dX1_leastWithRest_19 rfl (by decide) wt_135 uw_X1, ⟨1, s_iload_n dX1_leastWithRest_22 rfl, ⟨2, s_iload dX1_leastWithRest_23, rfl⟩⟩⟩⟩, t_cs rfl mi_31 mok_31 rfl (fun As rest h hA hr => call_S dX1_leastWithRest_25 mok_31 rfl ⟨by decide, by decide⟩ np_31 wt_496 wt_497 hA hr)⟩
theorem ok_60_4 : BkOK mi i_60 (bpf P_60) 4 (B_60.getD 4 bk0) := ⟨28, rfl, t_cv rfl mi_62 mok_62 rfl (fun _ => ⟨rfl, by decide +kernel⟩) (fun hs' e => by cases e; intro E n b h; cases h) (fun q fs As rest h hp hA hr => (call_V (i := i_60) (j := i_62) (C := RX2) (T := TX2) (N := 1) dX1_leastWithRest_28 mok_62 rfl ⟨by decide, by decide⟩ np_62 rfl rfl wt_488 wt_277 wt_278 hp hA hr rfl).thr (fun _ => True.intro))⟩
theorem ok_60_5 : BkOK mi i_60 (bpf P_60) 5 (B_60.getD 5 bk0) := ⟨36, ⟨2, s_istore dX1_leastWithRest_31 (by decide), ⟨1, s_iconst dX1_leastWithRest_33 rfl, ⟨2, s_istore dX1_leastWithRest_34 (by decide), rfl⟩⟩⟩, t_fall rfl⟩
theorem ok_60_6 : BkOK mi i_60 (bpf P_60) 6 (B_60.getD 6 bk0) := ⟨39, ⟨2, s_iload dX1_leastWithRest_36, ⟨1, s_iconst dX1_leastWithRest_38 rfl, rfl⟩⟩, t_eq dX1_leastWithRest_39 (by decide) rfl⟩
theorem ok_60_7 : BkOK mi i_60 (bpf P_60) 7 (B_60.getD 7 bk0) := ⟨51, ⟨2, s_iload dX1_leastWithRest_42, ⟨1, s_aload_n dX1_leastWithRest_44 rfl, ⟨3, s_get (C := RX1) (T := TX1) (N := 13) dX1_leastWithRest_45 rfl (by decide) wt_130 uw_X1, ⟨1, s_iload_n dX1_leastWithRest_48 rfl, ⟨1, s_iconst dX1_leastWithRest_49 rfl, ⟨1, s_iadd dX1_leastWithRest_50, rfl⟩⟩⟩⟩⟩⟩, t_cv rfl mi_62 mok_62 rfl (fun _ => ⟨rfl, by decide +kernel⟩) (fun hs' e => by cases e; intro E n b h; cases h) (fun q fs As rest h hp hA hr => (call_V (i := i_60) (j := i_62) (C := RX2) (T := TX2) (N := 1) dX1_leastWithRest_51 mok_62 rfl ⟨by decide, by decide⟩ np_62 rfl rfl wt_488 wt_277 wt_278 hp hA hr rfl).thr (fun _ => True.intro))⟩
theorem ok_60_8 : BkOK mi i_60 (bpf P_60) 8 (B_60.getD 8 bk0) := ⟨54, rfl, t_ge dX1_leastWithRest_54 (by decide) rfl⟩
theorem ok_60_9 : BkOK mi i_60 (bpf P_60) 9 (B_60.getD 9 bk0) := ⟨68, ⟨1, s_aload_n dX1_leastWithRest_57 rfl, ⟨1, s_iload_n dX1_leastWithRest_58 rfl, ⟨2, s_bipush dX1_leastWithRest_59 rfl, ⟨1, s_aload_n dX1_leastWithRest_61 rfl, ⟨3, s_get (C := RX1) (T := TX1) (N := 13) dX1_leastWithRest_62 rfl (by decide) wt_132 uw_X1, ⟨1, s_iload_n dX1_leastWithRest_65 rfl, ⟨2, s_iload dX1_leastWithRest_66, rfl⟩⟩⟩⟩⟩⟩⟩, t_cs rfl mi_32 mok_32 rfl (fun As rest h hA hr => call_S dX1_leastWithRest_68 mok_32 rfl ⟨by decide, by decide⟩ np_32 wt_493 wt_494 hA hr)⟩
theorem ok_60_10 : BkOK mi i_60 (bpf P_60) 10 (B_60.getD 10 bk0) := ⟨76, ⟨1, s_iload_n dX1_leastWithRest_71 rfl, ⟨1, s_iconst dX1_leastWithRest_72 rfl, ⟨1, s_iadd dX1_leastWithRest_73, ⟨2, s_iload dX1_leastWithRest_74, rfl⟩⟩⟩⟩, t_cs rfl mi_32 mok_32 rfl (fun As rest h hA hr => call_S dX1_leastWithRest_76 mok_32 rfl ⟨by decide, by decide⟩ np_32 wt_493 wt_494 hA hr)⟩
theorem ok_60_11 : BkOK mi i_60 (bpf P_60) 11 (B_60.getD 11 bk0) := ⟨79, rfl, t_cv rfl mi_22 mok_22 rfl (fun _ => ⟨rfl, by decide +kernel⟩) (fun hs' e => by cases e; intro E n b h; cases h) (fun q fs As rest h hp hA hr => (call_V (i := i_60) (j := i_22) (C := RX0) (T := TX0) (N := 10) dX1_leastWithRest_79 mok_22 rfl ⟨by decide, by decide⟩ np_22 rfl rfl wt_536 wt_537 wt_538 hp hA hr rfl).thr (fun _ => True.intro))⟩
theorem ok_60_12 : BkOK mi i_60 (bpf P_60) 12 (B_60.getD 12 bk0) := ⟨95, ⟨2, s_istore dX1_leastWithRest_82 (by decide), ⟨1, s_iload_n dX1_leastWithRest_84 rfl, ⟨2, s_iload dX1_leastWithRest_85, ⟨2, s_iload dX1_leastWithRest_87, ⟨1, s_aload_n dX1_leastWithRest_89 rfl, ⟨1, s_iload_n dX1_leastWithRest_90 rfl, ⟨1, s_iconst dX1_leastWithRest_91 rfl, ⟨1, s_iadd dX1_leastWithRest_92, ⟨2, s_iload dX1_leastWithRest_93, rfl⟩⟩⟩⟩⟩⟩⟩⟩⟩, t_cv rfl mi_42 mok_42 rfl (fun _ => ⟨rfl, by decide +kernel⟩) (fun hs' e => by cases e; intro E n b h; cases h) (fun q fs As rest h hp hA hr => (call_V (i := i_60) (j := i_42) (C := RX1) (T := TX1) (N := 13) dX1_leastWithRest_95 mok_42 rfl ⟨by decide, by decide⟩ np_42 rfl rfl wt_591 wt_592 wt_593 hp hA hr rfl).thr (fun _ => True.intro))⟩
theorem ok_60_13 : BkOK mi i_60 (bpf P_60) 13 (B_60.getD 13 bk0) := ⟨98, rfl, t_cs rfl mi_148 mok_148 rfl (fun As rest h hA hr => call_SN dX1_leastWithRest_98 mok_148 rfl ⟨by decide, by decide⟩ np_148 wt_572 wt_573 hA hr)⟩
theorem ok_60_14 : BkOK mi i_60 (bpf P_60) 14 (B_60.getD 14 bk0) := ⟨101, rfl, t_cs rfl mi_148 mok_148 rfl (fun As rest h hA hr => call_SN dX1_leastWithRest_101 mok_148 rfl ⟨by decide, by decide⟩ np_148 wt_572 wt_573 hA hr)⟩
theorem ok_60_15 : BkOK mi i_60 (bpf P_60) 15 (B_60.getD 15 bk0) := ⟨104, rfl, t_cs rfl mi_149 mok_149 rfl (fun As rest h hA hr => call_SN dX1_leastWithRest_104 mok_149 rfl ⟨by decide, by decide⟩ np_149 wt_575 wt_576 hA hr)⟩
theorem ok_60_16 : BkOK mi i_60 (bpf P_60) 16 (B_60.getD 16 bk0) := ⟨111, ⟨1, s_istore_n dX1_leastWithRest_107 rfl (by decide), ⟨3, s_iinc dX1_leastWithRest_108 rfl (by decide), rfl⟩⟩, t_go dX1_leastWithRest_111 (by decide)⟩
theorem ok_60_17 : BkOK mi i_60 (bpf P_60) 17 (B_60.getD 17 bk0) := ⟨117, ⟨3, s_iinc dX1_leastWithRest_114 rfl (by decide), rfl⟩, t_go dX1_leastWithRest_117 (by decide)⟩
theorem ok_60_18 : BkOK mi i_60 (bpf P_60) 18 (B_60.getD 18 bk0) := ⟨121, ⟨1, s_iload_n dX1_leastWithRest_120 rfl, rfl⟩, t_ret dX1_leastWithRest_121 rfl⟩
theorem ok_60 : ∀ b, BkOK mi i_60 (bpf P_60) b (B_60.getD b bk0)
  | 0 => ok_60_0
  | 1 => ok_60_1
  | 2 => ok_60_2
  | 3 => ok_60_3
  | 4 => ok_60_4
  | 5 => ok_60_5
  | 6 => ok_60_6
  | 7 => ok_60_7
  | 8 => ok_60_8
  | 9 => ok_60_9
  | 10 => ok_60_10
  | 11 => ok_60_11
  | 12 => ok_60_12
  | 13 => ok_60_13
  | 14 => ok_60_14
  | 15 => ok_60_15
  | 16 => ok_60_16
  | 17 => ok_60_17
  | 18 => ok_60_18
  | b + 19 => bk_none mi i_60 (bpf P_60) (b + 19)
theorem ok_61_0 : BkOK mi i_61 (bpf P_61) 0 (B_61.getD 0 bk0) := ⟨15, ⟨1, s_aload_n dX2_init_0 rfl, ⟨3, s_obj dX2_init_1 wt_41x wt_28 wt_29 ⟨by decide, by decide⟩, ⟨1, s_aload_n dX2_init_4 rfl, ⟨1, s_iconst dX2_init_5 rfl, ⟨1, s_iload_n dX2_init_6 rfl, ⟨3, s_mmax dX2_init_7 wt_42x wt_43 wt_4 wt_44 ⟨by decide, by decide⟩, ⟨2, s_newa_i dX2_init_10 wt_49, ⟨3, s_putF (C := RX2) (T := TX2) (N := 1) tyX2 tyX2_ok nmX2 dX2_init_12 rfl (by decide) rfl rfl rfl (tyX2_ok 0 (by decide)) wt_45 uw_X2, rfl⟩⟩⟩⟩⟩⟩⟩⟩, t_retV dX2_init_15 rfl⟩
theorem ok_61 : ∀ b, BkOK mi i_61 (bpf P_61) b (B_61.getD b bk0)
  | 0 => ok_61_0
  | b + 1 => bk_none mi i_61 (bpf P_61) (b + 1)
theorem ok_62_0 : BkOK mi i_62 (bpf P_62) 0 (B_62.getD 0 bk0) := ⟨1, ⟨1, s_iload_n dX2_get_0 rfl, rfl⟩, t_lt0 dX2_get_1 (by decide) rfl⟩
theorem ok_62_1 : BkOK mi i_62 (bpf P_62) 1 (B_62.getD 1 bk0) := ⟨10, ⟨1, s_iload_n dX2_get_4 rfl, ⟨1, s_aload_n dX2_get_5 rfl, ⟨3, s_get (C := RX2) (T := TX2) (N := 1) dX2_get_6 rfl (by decide) wt_45 uw_X2, ⟨1, s_alen dX2_get_9, rfl⟩⟩⟩⟩, t_ge dX2_get_10 (by decide) rfl⟩
theorem ok_62_2 : BkOK mi i_62 (bpf P_62) 2 (B_62.getD 2 bk0) := ⟨19, ⟨1, s_aload_n dX2_get_13 rfl, ⟨3, s_get (C := RX2) (T := TX2) (N := 1) dX2_get_14 rfl (by decide) wt_45 uw_X2, ⟨1, s_iload_n dX2_get_17 rfl, ⟨1, s_iald dX2_get_18, rfl⟩⟩⟩⟩, t_go dX2_get_19 (by decide)⟩
theorem ok_62_3 : BkOK mi i_62 (bpf P_62) 3 (B_62.getD 3 bk0) := ⟨23, ⟨1, s_iconst dX2_get_22 rfl, rfl⟩, t_fall rfl⟩
theorem ok_62_4 : BkOK mi i_62 (bpf P_62) 4 (B_62.getD 4 bk0) := ⟨23, rfl, t_ret dX2_get_23 rfl⟩
theorem ok_62 : ∀ b, BkOK mi i_62 (bpf P_62) b (B_62.getD b bk0)
  | 0 => ok_62_0
  | 1 => ok_62_1
  | 2 => ok_62_2
  | 3 => ok_62_3
  | 4 => ok_62_4
  | b + 5 => bk_none mi i_62 (bpf P_62) (b + 5)
theorem ok_63_0 : BkOK mi i_63 (bpf P_63) 0 (B_63.getD 0 bk0) := ⟨1, ⟨1, s_iload_n dX2_put_0 rfl, rfl⟩, t_lt0 dX2_put_1 (by decide) rfl⟩
theorem ok_63_1 : BkOK mi i_63 (bpf P_63) 1 (B_63.getD 1 bk0) := ⟨10, ⟨1, s_iload_n dX2_put_4 rfl, ⟨1, s_aload_n dX2_put_5 rfl, ⟨3, s_get (C := RX2) (T := TX2) (N := 1) dX2_put_6 rfl (by decide) wt_45 uw_X2, ⟨1, s_alen dX2_put_9, rfl⟩⟩⟩⟩, t_ge dX2_put_10 (by decide) rfl⟩
theorem ok_63_2 : BkOK mi i_63 (bpf P_63) 2 (B_63.getD 2 bk0) := ⟨20, ⟨1, s_aload_n dX2_put_13 rfl, ⟨3, s_get (C := RX2) (T := TX2) (N := 1) dX2_put_14 rfl (by decide) wt_45 uw_X2, ⟨1, s_iload_n dX2_put_17 rfl, ⟨1, s_iload_n dX2_put_18 rfl, ⟨1, s_iast dX2_put_19, rfl⟩⟩⟩⟩⟩, t_fall rfl⟩
theorem ok_63_3 : BkOK mi i_63 (bpf P_63) 3 (B_63.getD 3 bk0) := ⟨20, rfl, t_retV dX2_put_20 rfl⟩
theorem ok_63 : ∀ b, BkOK mi i_63 (bpf P_63) b (B_63.getD b bk0)
  | 0 => ok_63_0
  | 1 => ok_63_1
  | 2 => ok_63_2
  | 3 => ok_63_3
  | b + 4 => bk_none mi i_63 (bpf P_63) (b + 4)
theorem ok_64_0 : BkOK mi i_64 (bpf P_64) 0 (B_64.getD 0 bk0) := ⟨26, ⟨1, s_aload_n dX2_copyFrom_0 rfl, ⟨3, s_get (C := RX2) (T := TX2) (N := 1) dX2_copyFrom_1 rfl (by decide) wt_45 uw_X2, ⟨1, s_iconst dX2_copyFrom_4 rfl, ⟨1, s_aload_n dX2_copyFrom_5 rfl, ⟨3, s_get (C := RX2) (T := TX2) (N := 1) dX2_copyFrom_6 rfl (by decide) wt_45 uw_X2, ⟨1, s_iconst dX2_copyFrom_9 rfl, ⟨1, s_aload_n dX2_copyFrom_10 rfl, ⟨3, s_get (C := RX2) (T := TX2) (N := 1) dX2_copyFrom_11 rfl (by decide) wt_45 uw_X2, ⟨1, s_alen dX2_copyFrom_14, ⟨1, s_aload_n dX2_copyFrom_15 rfl, ⟨3, s_get (C := RX2) (T := TX2) (N := 1) dX2_copyFrom_16 rfl (by decide) wt_45 uw_X2, ⟨1, s_alen dX2_copyFrom_19, ⟨3, s_mmin dX2_copyFrom_20 wt_461x wt_293 wt_4 wt_294 ⟨by decide, by decide⟩, ⟨3, s_cpy dX2_copyFrom_23 wt_462x wt_464 wt_463 wt_17 ⟨by decide, by decide⟩, rfl⟩⟩⟩⟩⟩⟩⟩⟩⟩⟩⟩⟩⟩⟩, t_retV dX2_copyFrom_26 rfl⟩
theorem ok_64 : ∀ b, BkOK mi i_64 (bpf P_64) b (B_64.getD b bk0)
  | 0 => ok_64_0
  | b + 1 => bk_none mi i_64 (bpf P_64) (b + 1)
theorem ok_65_0 : BkOK mi i_65 (bpf P_65) 0 (B_65.getD 0 bk0) := ⟨16, ⟨1, s_aload_n dX3_init_0 rfl, ⟨3, s_obj dX3_init_1 wt_215x wt_28 wt_29 ⟨by decide, by decide⟩, ⟨1, s_aload_n dX3_init_4 rfl, ⟨1, s_iconst dX3_init_5 rfl, ⟨1, s_iload_n dX3_init_6 rfl, ⟨3, s_mmax dX3_init_7 wt_216x wt_43 wt_4 wt_44 ⟨by decide, by decide⟩, ⟨3, s_newq dX3_init_10 wt_217 wt_218, ⟨3, s_putF (C := RX3) (T := TX3) (N := 1) tyX3 tyX3_ok nmX3 dX3_init_13 rfl (by decide) rfl rfl rfl (tyX3_ok 0 (by decide)) wt_219 uw_X3, rfl⟩⟩⟩⟩⟩⟩⟩⟩, t_retV dX3_init_16 rfl⟩
theorem ok_65 : ∀ b, BkOK mi i_65 (bpf P_65) b (B_65.getD b bk0)
  | 0 => ok_65_0
  | b + 1 => bk_none mi i_65 (bpf P_65) (b + 1)
theorem ok_66_0 : BkOK mi i_66 (bpf P_66) 0 (B_66.getD 0 bk0) := ⟨1, ⟨1, s_iload_n dX3_holds_0 rfl, rfl⟩, t_lt0 dX3_holds_1 (by decide) rfl⟩
theorem ok_66_1 : BkOK mi i_66 (bpf P_66) 1 (B_66.getD 1 bk0) := ⟨10, ⟨1, s_iload_n dX3_holds_4 rfl, ⟨1, s_aload_n dX3_holds_5 rfl, ⟨3, s_get (C := RX3) (T := TX3) (N := 1) dX3_holds_6 rfl (by decide) wt_219 uw_X3, ⟨1, s_alen dX3_holds_9, rfl⟩⟩⟩⟩, t_ge dX3_holds_10 (by decide) rfl⟩
theorem ok_66_2 : BkOK mi i_66 (bpf P_66) 2 (B_66.getD 2 bk0) := ⟨19, ⟨1, s_aload_n dX3_holds_13 rfl, ⟨3, s_get (C := RX3) (T := TX3) (N := 1) dX3_holds_14 rfl (by decide) wt_219 uw_X3, ⟨1, s_iload_n dX3_holds_17 rfl, ⟨1, s_aaload dX3_holds_18, rfl⟩⟩⟩⟩, t_null dX3_holds_19 (by decide) rfl⟩
theorem ok_66_3 : BkOK mi i_66 (bpf P_66) 3 (B_66.getD 3 bk0) := ⟨23, ⟨1, s_iconst dX3_holds_22 rfl, rfl⟩, t_go dX3_holds_23 (by decide)⟩
theorem ok_66_4 : BkOK mi i_66 (bpf P_66) 4 (B_66.getD 4 bk0) := ⟨27, ⟨1, s_iconst dX3_holds_26 rfl, rfl⟩, t_fall rfl⟩
theorem ok_66_5 : BkOK mi i_66 (bpf P_66) 5 (B_66.getD 5 bk0) := ⟨27, rfl, t_retZ dX3_holds_27 rfl⟩
theorem ok_66 : ∀ b, BkOK mi i_66 (bpf P_66) b (B_66.getD b bk0)
  | 0 => ok_66_0
  | 1 => ok_66_1
  | 2 => ok_66_2
  | 3 => ok_66_3
  | 4 => ok_66_4
  | 5 => ok_66_5
  | b + 6 => bk_none mi i_66 (bpf P_66) (b + 6)
theorem ok_67_0 : BkOK mi i_67 (bpf P_67) 0 (B_67.getD 0 bk0) := ⟨1, ⟨1, s_iload_n dX3_putIn_0 rfl, rfl⟩, t_lt0 dX3_putIn_1 (by decide) rfl⟩
theorem ok_67_1 : BkOK mi i_67 (bpf P_67) 1 (B_67.getD 1 bk0) := ⟨10, ⟨1, s_iload_n dX3_putIn_4 rfl, ⟨1, s_aload_n dX3_putIn_5 rfl, ⟨3, s_get (C := RX3) (T := TX3) (N := 1) dX3_putIn_6 rfl (by decide) wt_219 uw_X3, ⟨1, s_alen dX3_putIn_9, rfl⟩⟩⟩⟩, t_lt dX3_putIn_10 (by decide) rfl⟩
theorem ok_67_2 : BkOK mi i_67 (bpf P_67) 2 (B_67.getD 2 bk0) := ⟨13, rfl, t_retV dX3_putIn_13 rfl⟩
theorem ok_67_3 : BkOK mi i_67 (bpf P_67) 3 (B_67.getD 3 bk0) := ⟨22, ⟨1, s_aload_n dX3_putIn_14 rfl, ⟨3, s_get (C := RX3) (T := TX3) (N := 1) dX3_putIn_15 rfl (by decide) wt_219 uw_X3, ⟨1, s_iload_n dX3_putIn_18 rfl, ⟨1, s_aaload dX3_putIn_19, ⟨1, s_astore_n dX3_putIn_20 rfl (by decide), ⟨1, s_aload_n dX3_putIn_21 rfl, rfl⟩⟩⟩⟩⟩⟩, t_nonnull dX3_putIn_22 (by decide) rfl⟩
theorem ok_67_4 : BkOK mi i_67 (bpf P_67) 4 (B_67.getD 4 bk0) := ⟨29, ⟨3, s_new (C := RX0) (T := TX0) (N := 10) tyX0 tyX0_ok dX3_putIn_25 rfl nfX0_ok rfl rfl wt_217 wt_31 wt_2 uw_X0, ⟨1, s_dup dX3_putIn_28, rfl⟩⟩, t_ci rfl mi_0 mok_0 rfl (fun q As rest h hA hr => call_I dX3_putIn_29 mok_0 rfl ⟨by decide, by decide⟩ np_0 rfl rfl wt_452 wt_33 hA hr)⟩
theorem ok_67_5 : BkOK mi i_67 (bpf P_67) 5 (B_67.getD 5 bk0) := ⟨40, ⟨1, s_astore_n dX3_putIn_32 rfl (by decide), ⟨1, s_aload_n dX3_putIn_33 rfl, ⟨3, s_get (C := RX3) (T := TX3) (N := 1) dX3_putIn_34 rfl (by decide) wt_219 uw_X3, ⟨1, s_iload_n dX3_putIn_37 rfl, ⟨1, s_aload_n dX3_putIn_38 rfl, ⟨1, s_aast dX3_putIn_39, rfl⟩⟩⟩⟩⟩⟩, t_fall rfl⟩
theorem ok_67_6 : BkOK mi i_67 (bpf P_67) 6 (B_67.getD 6 bk0) := ⟨42, ⟨1, s_aload_n dX3_putIn_40 rfl, ⟨1, s_aload_n dX3_putIn_41 rfl, rfl⟩⟩, t_cv rfl mi_2 mok_2 rfl (fun _ => ⟨rfl, by decide +kernel⟩) (fun hs' e => by cases e; intro E n b h; cases h) (fun q fs As rest h hp hA hr => (call_V (i := i_67) (j := i_2) (C := RX0) (T := TX0) (N := 10) dX3_putIn_42 mok_2 rfl ⟨by decide, by decide⟩ np_2 rfl rfl wt_453 wt_454 wt_455 hp hA hr rfl).thr (fun _ => True.intro))⟩
theorem ok_67_7 : BkOK mi i_67 (bpf P_67) 7 (B_67.getD 7 bk0) := ⟨45, rfl, t_retV dX3_putIn_45 rfl⟩
theorem ok_67 : ∀ b, BkOK mi i_67 (bpf P_67) b (B_67.getD b bk0)
  | 0 => ok_67_0
  | 1 => ok_67_1
  | 2 => ok_67_2
  | 3 => ok_67_3
  | 4 => ok_67_4
  | 5 => ok_67_5
  | 6 => ok_67_6
  | 7 => ok_67_7
  | b + 8 => bk_none mi i_67 (bpf P_67) (b + 8)
theorem ok_68_0 : BkOK mi i_68 (bpf P_68) 0 (B_68.getD 0 bk0) := ⟨1, ⟨1, s_iload_n dX3_takeOut_0 rfl, rfl⟩, t_lt0 dX3_takeOut_1 (by decide) rfl⟩
theorem ok_68_1 : BkOK mi i_68 (bpf P_68) 1 (B_68.getD 1 bk0) := ⟨10, ⟨1, s_iload_n dX3_takeOut_4 rfl, ⟨1, s_aload_n dX3_takeOut_5 rfl, ⟨3, s_get (C := RX3) (T := TX3) (N := 1) dX3_takeOut_6 rfl (by decide) wt_219 uw_X3, ⟨1, s_alen dX3_takeOut_9, rfl⟩⟩⟩⟩, t_ge dX3_takeOut_10 (by decide) rfl⟩
theorem ok_68_2 : BkOK mi i_68 (bpf P_68) 2 (B_68.getD 2 bk0) := ⟨19, ⟨1, s_aload_n dX3_takeOut_13 rfl, ⟨3, s_get (C := RX3) (T := TX3) (N := 1) dX3_takeOut_14 rfl (by decide) wt_219 uw_X3, ⟨1, s_iload_n dX3_takeOut_17 rfl, ⟨1, s_aaload dX3_takeOut_18, rfl⟩⟩⟩⟩, t_go dX3_takeOut_19 (by decide)⟩
theorem ok_68_3 : BkOK mi i_68 (bpf P_68) 3 (B_68.getD 3 bk0) := ⟨23, ⟨1, s_null dX3_takeOut_22, rfl⟩, t_fall rfl⟩
theorem ok_68_4 : BkOK mi i_68 (bpf P_68) 4 (B_68.getD 4 bk0) := ⟨25, ⟨1, s_astore_n dX3_takeOut_23 rfl (by decide), ⟨1, s_aload_n dX3_takeOut_24 rfl, rfl⟩⟩, t_null dX3_takeOut_25 (by decide) rfl⟩
theorem ok_68_5 : BkOK mi i_68 (bpf P_68) 5 (B_68.getD 5 bk0) := ⟨30, ⟨1, s_aload_n dX3_takeOut_28 rfl, ⟨1, s_aload_n dX3_takeOut_29 rfl, rfl⟩⟩, t_cv rfl mi_2 mok_2 rfl (fun _ => ⟨rfl, by decide +kernel⟩) (fun hs' e => by cases e; intro E n b h; cases h) (fun q fs As rest h hp hA hr => (call_V (i := i_68) (j := i_2) (C := RX0) (T := TX0) (N := 10) dX3_takeOut_30 mok_2 rfl ⟨by decide, by decide⟩ np_2 rfl rfl wt_453 wt_454 wt_455 hp hA hr rfl).thr (fun _ => True.intro))⟩
theorem ok_68_6 : BkOK mi i_68 (bpf P_68) 6 (B_68.getD 6 bk0) := ⟨33, rfl, t_retV dX3_takeOut_33 rfl⟩
theorem ok_68 : ∀ b, BkOK mi i_68 (bpf P_68) b (B_68.getD b bk0)
  | 0 => ok_68_0
  | 1 => ok_68_1
  | 2 => ok_68_2
  | 3 => ok_68_3
  | 4 => ok_68_4
  | 5 => ok_68_5
  | 6 => ok_68_6
  | b + 7 => bk_none mi i_68 (bpf P_68) (b + 7)
theorem ok_69_0 : BkOK mi i_69 (bpf P_69) 0 (B_69.getD 0 bk0) := ⟨12, ⟨1, s_aload_n dX4_init_0 rfl, ⟨3, s_obj dX4_init_1 wt_174x wt_28 wt_29 ⟨by decide, by decide⟩, ⟨1, s_aload_n dX4_init_4 rfl, ⟨3, s_new (C := RX2) (T := TX2) (N := 1) tyX2 tyX2_ok dX4_init_5 rfl nfX2_ok rfl rfl wt_175 wt_37 wt_3 uw_X2, ⟨1, s_dup dX4_init_8, ⟨3, s_sipush dX4_init_9 rfl, rfl⟩⟩⟩⟩⟩⟩, t_ci rfl mi_61 mok_61 rfl (fun q As rest h hA hr => call_I dX4_init_12 mok_61 rfl ⟨by decide, by decide⟩ np_61 rfl rfl wt_176 wt_39 hA hr)⟩
theorem ok_69_1 : BkOK mi i_69 (bpf P_69) 1 (B_69.getD 1 bk0) := ⟨58, ⟨3, s_putF (C := RX4) (T := TX4) (N := 9) tyX4 tyX4_ok nmX4 dX4_init_15 rfl (by decide) rfl rfl rfl (tyX4_ok 0 (by decide)) wt_177 uw_X4, ⟨1, s_aload_n dX4_init_18 rfl, ⟨1, s_iconst dX4_init_19 rfl, ⟨3, s_put (C := RX4) (T := TX4) (N := 9) tyX4 tyX4_ok nmX4 dX4_init_20 rfl (by decide) rfl (tyX4_ok 1 (by decide)) wt_178 uw_X4, ⟨1, s_aload_n dX4_init_23 rfl, ⟨1, s_iconst dX4_init_24 rfl, ⟨3, s_put (C := RX4) (T := TX4) (N := 9) tyX4 tyX4_ok nmX4 dX4_init_25 rfl (by decide) rfl (tyX4_ok 2 (by decide)) wt_180 uw_X4, ⟨1, s_aload_n dX4_init_28 rfl, ⟨1, s_iconst dX4_init_29 rfl, ⟨3, s_put (C := RX4) (T := TX4) (N := 9) tyX4 tyX4_ok nmX4 dX4_init_30 rfl (by decide) rfl (tyX4_ok 3 (by decide)) wt_182 uw_X4, ⟨1, s_aload_n dX4_init_33 rfl, ⟨1, s_iconst dX4_init_34 rfl, ⟨3, s_put (C := RX4) (T := TX4) (N := 9) tyX4 tyX4_ok nmX4 dX4_init_35 rfl (by decide) rfl (tyX4_ok 4 (by decide)) wt_184 uw_X4, ⟨1, s_aload_n dX4_init_38 rfl, ⟨1, s_iconst dX4_init_39 rfl, ⟨3, s_put (C := RX4) (T := TX4) (N := 9) tyX4 tyX4_ok nmX4 dX4_init_40 rfl (by decide) rfl (tyX4_ok 5 (by decide)) wt_185 uw_X4, ⟨1, s_aload_n dX4_init_43 rfl, ⟨1, s_iconst dX4_init_44 rfl, ⟨3, s_put (C := RX4) (T := TX4) (N := 9) tyX4 tyX4_ok nmX4 dX4_init_45 rfl (by decide) rfl (tyX4_ok 6 (by decide)) wt_186 uw_X4, ⟨1, s_aload_n dX4_init_48 rfl, ⟨1, s_iconst dX4_init_49 rfl, ⟨3, s_put (C := RX4) (T := TX4) (N := 9) tyX4 tyX4_ok nmX4 dX4_init_50 rfl (by decide) rfl (tyX4_ok 7 (by decide)) wt_187 uw_X4, ⟨1, s_aload_n dX4_init_53 rfl, ⟨1, s_iconst dX4_init_54 rfl, ⟨3, s_put (C := RX4) (T := TX4) (N := 9) tyX4 tyX4_ok nmX4 dX4_init_55 rfl (by decide) rfl (tyX4_ok 8 (by decide)) wt_188 uw_X4, rfl⟩⟩⟩⟩⟩⟩⟩⟩⟩⟩⟩⟩⟩⟩⟩⟩⟩⟩⟩⟩⟩⟩⟩⟩⟩, t_retV dX4_init_58 rfl⟩
theorem ok_69 : ∀ b, BkOK mi i_69 (bpf P_69) b (B_69.getD b bk0)
  | 0 => ok_69_0
  | 1 => ok_69_1
  | b + 2 => bk_none mi i_69 (bpf P_69) (b + 2)
theorem ok_70_0 : BkOK mi i_70 (bpf P_70) 0 (B_70.getD 0 bk0) := ⟨3, ⟨2, s_bipush dX4_addBytes_0 rfl, ⟨1, s_istore_n dX4_addBytes_2 rfl (by decide), rfl⟩⟩, t_fall rfl⟩
theorem ok_70_1 : BkOK mi i_70 (bpf P_70) 1 (B_70.getD 1 bk0) := ⟨4, ⟨1, s_iload_n dX4_addBytes_3 rfl, rfl⟩, t_lt0 dX4_addBytes_4 (by decide) rfl⟩
theorem ok_70_2 : BkOK mi i_70 (bpf P_70) 2 (B_70.getD 2 bk0) := ⟨16, ⟨1, s_iload_n dX4_addBytes_7 rfl, ⟨1, s_iload_n dX4_addBytes_8 rfl, ⟨1, s_iushr dX4_addBytes_9, ⟨3, s_sipush dX4_addBytes_10 rfl, ⟨1, s_iand dX4_addBytes_13, ⟨1, s_istore_n dX4_addBytes_14 rfl (by decide), ⟨1, s_iload_n dX4_addBytes_15 rfl, rfl⟩⟩⟩⟩⟩⟩⟩, t_eq0 dX4_addBytes_16 (by decide) rfl⟩
theorem ok_70_3 : BkOK mi i_70 (bpf P_70) 3 (B_70.getD 3 bk0) := ⟨28, ⟨1, s_aload_n dX4_addBytes_19 rfl, ⟨3, s_get (C := RX4) (T := TX4) (N := 9) dX4_addBytes_20 rfl (by decide) wt_177 uw_X4, ⟨1, s_aload_n dX4_addBytes_23 rfl, ⟨3, s_get (C := RX4) (T := TX4) (N := 9) dX4_addBytes_24 rfl (by decide) wt_178 uw_X4, ⟨1, s_iload_n dX4_addBytes_27 rfl, rfl⟩⟩⟩⟩⟩, t_cv rfl mi_63 mok_63 rfl (fun _ => ⟨rfl, by decide +kernel⟩) (fun hs' e => by cases e; intro E n b h; cases h) (fun q fs As rest h hp hA hr => (call_V (i := i_70) (j := i_63) (C := RX2) (T := TX2) (N := 1) dX4_addBytes_28 mok_63 rfl ⟨by decide, by decide⟩ np_63 rfl rfl wt_390 wt_57 wt_58 hp hA hr rfl).thr (fun _ => True.intro))⟩
theorem ok_70_4 : BkOK mi i_70 (bpf P_70) 4 (B_70.getD 4 bk0) := ⟨41, ⟨1, s_aload_n dX4_addBytes_31 rfl, ⟨1, s_dup dX4_addBytes_32, ⟨3, s_get (C := RX4) (T := TX4) (N := 9) dX4_addBytes_33 rfl (by decide) wt_178 uw_X4, ⟨1, s_iconst dX4_addBytes_36 rfl, ⟨1, s_iadd dX4_addBytes_37, ⟨3, s_put (C := RX4) (T := TX4) (N := 9) tyX4 tyX4_ok nmX4 dX4_addBytes_38 rfl (by decide) rfl (tyX4_ok 1 (by decide)) wt_178 uw_X4, rfl⟩⟩⟩⟩⟩⟩, t_fall rfl⟩
theorem ok_70_5 : BkOK mi i_70 (bpf P_70) 5 (B_70.getD 5 bk0) := ⟨44, ⟨3, s_iinc dX4_addBytes_41 rfl (by decide), rfl⟩, t_go dX4_addBytes_44 (by decide)⟩
theorem ok_70_6 : BkOK mi i_70 (bpf P_70) 6 (B_70.getD 6 bk0) := ⟨47, rfl, t_retV dX4_addBytes_47 rfl⟩
theorem ok_70 : ∀ b, BkOK mi i_70 (bpf P_70) b (B_70.getD b bk0)
  | 0 => ok_70_0
  | 1 => ok_70_1
  | 2 => ok_70_2
  | 3 => ok_70_3
  | 4 => ok_70_4
  | 5 => ok_70_5
  | 6 => ok_70_6
  | b + 7 => bk_none mi i_70 (bpf P_70) (b + 7)
theorem ok_71_0 : BkOK mi i_71 (bpf P_71) 0 (B_71.getD 0 bk0) := ⟨1, ⟨1, s_aload_n dX4_readPiece_0 rfl, rfl⟩, t_cv rfl mi_82 mok_82 rfl (fun _ => ⟨rfl, by decide +kernel⟩) (fun hs' e => by cases e; intro E n b h; cases h) (fun q fs As rest h hp hA hr => (call_V (i := i_71) (j := i_82) (C := RX4) (T := TX4) (N := 9) dX4_readPiece_1 mok_82 rfl ⟨by decide, by decide⟩ np_82 rfl rfl wt_268 wt_269 wt_270 hp hA hr rfl).thr (fun _ => True.intro))⟩
theorem ok_71_1 : BkOK mi i_71 (bpf P_71) 1 (B_71.getD 1 bk0) := ⟨5, ⟨1, s_aload_n dX4_readPiece_4 rfl, rfl⟩, t_cv rfl mi_1 mok_1 rfl (fun _ => ⟨rfl, by decide +kernel⟩) (fun hs' e => by cases e; intro E n b h; cases h) (fun q fs As rest h hp hA hr => (call_V (i := i_71) (j := i_1) (C := RX0) (T := TX0) (N := 10) dX4_readPiece_5 mok_1 rfl ⟨by decide, by decide⟩ np_1 rfl rfl wt_295 wt_51 wt_52 hp hA hr rfl).thr (fun _ => True.intro))⟩
theorem ok_71_2 : BkOK mi i_71 (bpf P_71) 2 (B_71.getD 2 bk0) := ⟨10, ⟨1, s_aload_n dX4_readPiece_8 rfl, ⟨1, s_aload_n dX4_readPiece_9 rfl, rfl⟩⟩, t_cv rfl mi_73 mok_73 rfl (fun _ => ⟨rfl, by decide +kernel⟩) (fun hs' e => by cases e; intro E n b h; cases h) (fun q fs As rest h hp hA hr => (call_V (i := i_71) (j := i_73) (C := RX4) (T := TX4) (N := 9) dX4_readPiece_10 mok_73 rfl ⟨by decide, by decide⟩ np_73 rfl rfl wt_296 wt_297 wt_298 hp hA hr rfl).thr (fun _ => True.intro))⟩
theorem ok_71_3 : BkOK mi i_71 (bpf P_71) 3 (B_71.getD 3 bk0) := ⟨13, rfl, t_eq0 dX4_readPiece_13 (by decide) rfl⟩
theorem ok_71_4 : BkOK mi i_71 (bpf P_71) 4 (B_71.getD 4 bk0) := ⟨18, ⟨1, s_aload_n dX4_readPiece_16 rfl, ⟨1, s_aload_n dX4_readPiece_17 rfl, rfl⟩⟩, t_cv rfl mi_74 mok_74 rfl (fun _ => ⟨rfl, by decide +kernel⟩) (fun hs' e => by cases e; intro E n b h; cases h) (fun q fs As rest h hp hA hr => (call_V (i := i_71) (j := i_74) (C := RX4) (T := TX4) (N := 9) dX4_readPiece_18 mok_74 rfl ⟨by decide, by decide⟩ np_74 rfl rfl wt_367 wt_368 wt_369 hp hA hr rfl).thr (fun _ => True.intro))⟩
theorem ok_71_5 : BkOK mi i_71 (bpf P_71) 5 (B_71.getD 5 bk0) := ⟨21, rfl, t_eq0 dX4_readPiece_21 (by decide) rfl⟩
theorem ok_71_6 : BkOK mi i_71 (bpf P_71) 6 (B_71.getD 6 bk0) := ⟨26, ⟨1, s_aload_n dX4_readPiece_24 rfl, ⟨1, s_aload_n dX4_readPiece_25 rfl, rfl⟩⟩, t_cv rfl mi_76 mok_76 rfl (fun _ => ⟨rfl, by decide +kernel⟩) (fun hs' e => by cases e; intro E n b h; cases h) (fun q fs As rest h hp hA hr => (call_V (i := i_71) (j := i_76) (C := RX4) (T := TX4) (N := 9) dX4_readPiece_26 mok_76 rfl ⟨by decide, by decide⟩ np_76 rfl rfl wt_391 wt_392 wt_393 hp hA hr rfl).thr (fun _ => True.intro))⟩
theorem ok_71_7 : BkOK mi i_71 (bpf P_71) 7 (B_71.getD 7 bk0) := ⟨29, rfl, t_eq0 dX4_readPiece_29 (by decide) rfl⟩
theorem ok_71_8 : BkOK mi i_71 (bpf P_71) 8 (B_71.getD 8 bk0) := ⟨34, ⟨1, s_aload_n dX4_readPiece_32 rfl, ⟨1, s_aload_n dX4_readPiece_33 rfl, rfl⟩⟩, t_cv rfl mi_78 mok_78 rfl (fun _ => ⟨rfl, by decide +kernel⟩) (fun hs' e => by cases e; intro E n b h; cases h) (fun q fs As rest h hp hA hr => (call_V (i := i_71) (j := i_78) (C := RX4) (T := TX4) (N := 9) dX4_readPiece_34 mok_78 rfl ⟨by decide, by decide⟩ np_78 rfl rfl wt_401 wt_402 wt_403 hp hA hr rfl).thr (fun _ => True.intro))⟩
theorem ok_71_9 : BkOK mi i_71 (bpf P_71) 9 (B_71.getD 9 bk0) := ⟨37, rfl, t_eq0 dX4_readPiece_37 (by decide) rfl⟩
theorem ok_71_10 : BkOK mi i_71 (bpf P_71) 10 (B_71.getD 10 bk0) := ⟨41, ⟨1, s_aload_n dX4_readPiece_40 rfl, rfl⟩, t_cv rfl mi_86 mok_86 rfl (fun _ => ⟨rfl, by decide +kernel⟩) (fun hs' e => by cases e; intro E n b h; cases h) (fun q fs As rest h hp hA hr => (call_V (i := i_71) (j := i_86) (C := RX4) (T := TX4) (N := 9) dX4_readPiece_41 mok_86 rfl ⟨by decide, by decide⟩ np_86 rfl rfl wt_440 wt_441 wt_442 hp hA hr rfl).thr (fun _ => True.intro))⟩
theorem ok_71_11 : BkOK mi i_71 (bpf P_71) 11 (B_71.getD 11 bk0) := ⟨44, rfl, t_eq0 dX4_readPiece_44 (by decide) rfl⟩
theorem ok_71_12 : BkOK mi i_71 (bpf P_71) 12 (B_71.getD 12 bk0) := ⟨48, ⟨1, s_iconst dX4_readPiece_47 rfl, rfl⟩, t_go dX4_readPiece_48 (by decide)⟩
theorem ok_71_13 : BkOK mi i_71 (bpf P_71) 13 (B_71.getD 13 bk0) := ⟨52, ⟨1, s_iconst dX4_readPiece_51 rfl, rfl⟩, t_fall rfl⟩
theorem ok_71_14 : BkOK mi i_71 (bpf P_71) 14 (B_71.getD 14 bk0) := ⟨52, rfl, t_retZ dX4_readPiece_52 rfl⟩
theorem ok_71 : ∀ b, BkOK mi i_71 (bpf P_71) b (B_71.getD b bk0)
  | 0 => ok_71_0
  | 1 => ok_71_1
  | 2 => ok_71_2
  | 3 => ok_71_3
  | 4 => ok_71_4
  | 5 => ok_71_5
  | 6 => ok_71_6
  | 7 => ok_71_7
  | 8 => ok_71_8
  | 9 => ok_71_9
  | 10 => ok_71_10
  | 11 => ok_71_11
  | 12 => ok_71_12
  | 13 => ok_71_13
  | 14 => ok_71_14
  | b + 15 => bk_none mi i_71 (bpf P_71) (b + 15)
