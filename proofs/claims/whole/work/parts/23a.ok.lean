theorem bk_none (mi : Nat → MI) (i : MI) (bp : Nat → Nat) (b : Nat) : BkOK mi i bp b bk0 := ⟨bp b, rfl, fun _ _ _ => True.intro⟩
theorem ok_0_0 : BkOK mi i_0 (bpf P_0) 0 (B_0.getD 0 bk0) := ⟨11, ⟨1, s_aload_n dX0_init_0 rfl, ⟨3, s_obj dX0_init_1 wt_35x wt_28 wt_29 ⟨by decide, by decide⟩, ⟨1, s_aload_n dX0_init_4 rfl, ⟨3, s_new (C := RX2) (T := TX2) (N := 1) tyX2 tyX2_ok dX0_init_5 rfl nfX2_ok rfl rfl wt_36 wt_37 wt_3 uw_X2, ⟨1, s_dup dX0_init_8, ⟨2, s_bipush dX0_init_9 rfl, rfl⟩⟩⟩⟩⟩⟩, t_ci rfl mi_61 mok_61 rfl (fun q As rest h hA hr => call_I dX0_init_11 mok_61 rfl ⟨by decide, by decide⟩ np_61 rfl rfl wt_38 wt_39 hA hr)⟩
theorem ok_0_1 : BkOK mi i_0 (bpf P_0) 1 (B_0.getD 1 bk0) := ⟨24, ⟨3, s_putF (C := RX0) (T := TX0) (N := 10) tyX0 tyX0_ok nmX0 dX0_init_14 rfl (by decide) rfl rfl rfl (tyX0_ok 2 (by decide)) wt_76 uw_X0, ⟨1, s_aload_n dX0_init_17 rfl, ⟨3, s_new (C := RX2) (T := TX2) (N := 1) tyX2 tyX2_ok dX0_init_18 rfl nfX2_ok rfl rfl wt_36 wt_37 wt_3 uw_X2, ⟨1, s_dup dX0_init_21, ⟨2, s_bipush dX0_init_22 rfl, rfl⟩⟩⟩⟩⟩, t_ci rfl mi_61 mok_61 rfl (fun q As rest h hA hr => call_I dX0_init_24 mok_61 rfl ⟨by decide, by decide⟩ np_61 rfl rfl wt_38 wt_39 hA hr)⟩
theorem ok_0_2 : BkOK mi i_0 (bpf P_0) 2 (B_0.getD 2 bk0) := ⟨37, ⟨3, s_putF (C := RX0) (T := TX0) (N := 10) tyX0 tyX0_ok nmX0 dX0_init_27 rfl (by decide) rfl rfl rfl (tyX0_ok 3 (by decide)) wt_80 uw_X0, ⟨1, s_aload_n dX0_init_30 rfl, ⟨3, s_new (C := RX2) (T := TX2) (N := 1) tyX2 tyX2_ok dX0_init_31 rfl nfX2_ok rfl rfl wt_36 wt_37 wt_3 uw_X2, ⟨1, s_dup dX0_init_34, ⟨2, s_bipush dX0_init_35 rfl, rfl⟩⟩⟩⟩⟩, t_ci rfl mi_61 mok_61 rfl (fun q As rest h hA hr => call_I dX0_init_37 mok_61 rfl ⟨by decide, by decide⟩ np_61 rfl rfl wt_38 wt_39 hA hr)⟩
theorem ok_0_3 : BkOK mi i_0 (bpf P_0) 3 (B_0.getD 3 bk0) := ⟨50, ⟨3, s_putF (C := RX0) (T := TX0) (N := 10) tyX0 tyX0_ok nmX0 dX0_init_40 rfl (by decide) rfl rfl rfl (tyX0_ok 4 (by decide)) wt_84 uw_X0, ⟨1, s_aload_n dX0_init_43 rfl, ⟨3, s_new (C := RX2) (T := TX2) (N := 1) tyX2 tyX2_ok dX0_init_44 rfl nfX2_ok rfl rfl wt_36 wt_37 wt_3 uw_X2, ⟨1, s_dup dX0_init_47, ⟨2, s_bipush dX0_init_48 rfl, rfl⟩⟩⟩⟩⟩, t_ci rfl mi_61 mok_61 rfl (fun q As rest h hA hr => call_I dX0_init_50 mok_61 rfl ⟨by decide, by decide⟩ np_61 rfl rfl wt_38 wt_39 hA hr)⟩
theorem ok_0_4 : BkOK mi i_0 (bpf P_0) 4 (B_0.getD 4 bk0) := ⟨63, ⟨3, s_putF (C := RX0) (T := TX0) (N := 10) tyX0 tyX0_ok nmX0 dX0_init_53 rfl (by decide) rfl rfl rfl (tyX0_ok 5 (by decide)) wt_85 uw_X0, ⟨1, s_aload_n dX0_init_56 rfl, ⟨3, s_new (C := RX2) (T := TX2) (N := 1) tyX2 tyX2_ok dX0_init_57 rfl nfX2_ok rfl rfl wt_36 wt_37 wt_3 uw_X2, ⟨1, s_dup dX0_init_60, ⟨2, s_bipush dX0_init_61 rfl, rfl⟩⟩⟩⟩⟩, t_ci rfl mi_61 mok_61 rfl (fun q As rest h hA hr => call_I dX0_init_63 mok_61 rfl ⟨by decide, by decide⟩ np_61 rfl rfl wt_38 wt_39 hA hr)⟩
theorem ok_0_5 : BkOK mi i_0 (bpf P_0) 5 (B_0.getD 5 bk0) := ⟨76, ⟨3, s_putF (C := RX0) (T := TX0) (N := 10) tyX0 tyX0_ok nmX0 dX0_init_66 rfl (by decide) rfl rfl rfl (tyX0_ok 6 (by decide)) wt_88 uw_X0, ⟨1, s_aload_n dX0_init_69 rfl, ⟨3, s_new (C := RX2) (T := TX2) (N := 1) tyX2 tyX2_ok dX0_init_70 rfl nfX2_ok rfl rfl wt_36 wt_37 wt_3 uw_X2, ⟨1, s_dup dX0_init_73, ⟨2, s_bipush dX0_init_74 rfl, rfl⟩⟩⟩⟩⟩, t_ci rfl mi_61 mok_61 rfl (fun q As rest h hA hr => call_I dX0_init_76 mok_61 rfl ⟨by decide, by decide⟩ np_61 rfl rfl wt_38 wt_39 hA hr)⟩
theorem ok_0_6 : BkOK mi i_0 (bpf P_0) 6 (B_0.getD 6 bk0) := ⟨89, ⟨3, s_putF (C := RX0) (T := TX0) (N := 10) tyX0 tyX0_ok nmX0 dX0_init_79 rfl (by decide) rfl rfl rfl (tyX0_ok 7 (by decide)) wt_91 uw_X0, ⟨1, s_aload_n dX0_init_82 rfl, ⟨3, s_new (C := RX2) (T := TX2) (N := 1) tyX2 tyX2_ok dX0_init_83 rfl nfX2_ok rfl rfl wt_36 wt_37 wt_3 uw_X2, ⟨1, s_dup dX0_init_86, ⟨2, s_bipush dX0_init_87 rfl, rfl⟩⟩⟩⟩⟩, t_ci rfl mi_61 mok_61 rfl (fun q As rest h hA hr => call_I dX0_init_89 mok_61 rfl ⟨by decide, by decide⟩ np_61 rfl rfl wt_38 wt_39 hA hr)⟩
theorem ok_0_7 : BkOK mi i_0 (bpf P_0) 7 (B_0.getD 7 bk0) := ⟨102, ⟨3, s_putF (C := RX0) (T := TX0) (N := 10) tyX0 tyX0_ok nmX0 dX0_init_92 rfl (by decide) rfl rfl rfl (tyX0_ok 8 (by decide)) wt_93 uw_X0, ⟨1, s_aload_n dX0_init_95 rfl, ⟨3, s_new (C := RX2) (T := TX2) (N := 1) tyX2 tyX2_ok dX0_init_96 rfl nfX2_ok rfl rfl wt_36 wt_37 wt_3 uw_X2, ⟨1, s_dup dX0_init_99, ⟨2, s_bipush dX0_init_100 rfl, rfl⟩⟩⟩⟩⟩, t_ci rfl mi_61 mok_61 rfl (fun q As rest h hA hr => call_I dX0_init_102 mok_61 rfl ⟨by decide, by decide⟩ np_61 rfl rfl wt_38 wt_39 hA hr)⟩
theorem ok_0_8 : BkOK mi i_0 (bpf P_0) 8 (B_0.getD 8 bk0) := ⟨109, ⟨3, s_putF (C := RX0) (T := TX0) (N := 10) tyX0 tyX0_ok nmX0 dX0_init_105 rfl (by decide) rfl rfl rfl (tyX0_ok 9 (by decide)) wt_95 uw_X0, ⟨1, s_aload_n dX0_init_108 rfl, rfl⟩⟩, t_cv rfl mi_1 mok_1 rfl (fun _ => ⟨rfl, by decide +kernel⟩) (fun hs' e => by cases e; intro E n b h; cases h) (fun q fs As rest h hp hA hr => (call_V (i := i_0) (j := i_1) (C := RX0) (T := TX0) (N := 10) dX0_init_109 mok_1 rfl ⟨by decide, by decide⟩ np_1 rfl rfl wt_50 wt_51 wt_52 hp hA hr rfl).thr (fun _ => True.intro))⟩
theorem ok_0_9 : BkOK mi i_0 (bpf P_0) 9 (B_0.getD 9 bk0) := ⟨112, rfl, t_retV dX0_init_112 rfl⟩
theorem ok_0 : ∀ b, BkOK mi i_0 (bpf P_0) b (B_0.getD b bk0)
  | 0 => ok_0_0
  | 1 => ok_0_1
  | 2 => ok_0_2
  | 3 => ok_0_3
  | 4 => ok_0_4
  | 5 => ok_0_5
  | 6 => ok_0_6
  | 7 => ok_0_7
  | 8 => ok_0_8
  | 9 => ok_0_9
  | b + 10 => bk_none mi i_0 (bpf P_0) (b + 10)
theorem ok_1_0 : BkOK mi i_1 (bpf P_1) 0 (B_1.getD 0 bk0) := ⟨12, ⟨1, s_aload_n dX0_begin_0 rfl, ⟨1, s_iconst dX0_begin_1 rfl, ⟨3, s_put (C := RX0) (T := TX0) (N := 10) tyX0 tyX0_ok nmX0 dX0_begin_2 rfl (by decide) rfl (tyX0_ok 0 (by decide)) wt_69 uw_X0, ⟨1, s_aload_n dX0_begin_5 rfl, ⟨1, s_iconst dX0_begin_6 rfl, ⟨3, s_put (C := RX0) (T := TX0) (N := 10) tyX0 tyX0_ok nmX0 dX0_begin_7 rfl (by decide) rfl (tyX0_ok 1 (by decide)) wt_72 uw_X0, ⟨1, s_iconst dX0_begin_10 rfl, ⟨1, s_istore_n dX0_begin_11 rfl (by decide), rfl⟩⟩⟩⟩⟩⟩⟩⟩, t_fall rfl⟩
theorem ok_1_1 : BkOK mi i_1 (bpf P_1) 1 (B_1.getD 1 bk0) := ⟨17, ⟨1, s_iload_n dX0_begin_12 rfl, ⟨3, s_gets dX0_begin_13 wt_54 (by decide), ⟨1, s_alen dX0_begin_16, rfl⟩⟩⟩, t_ge dX0_begin_17 (by decide) rfl⟩
theorem ok_1_2 : BkOK mi i_1 (bpf P_1) 2 (B_1.getD 2 bk0) := ⟨30, ⟨1, s_aload_n dX0_begin_20 rfl, ⟨3, s_get (C := RX0) (T := TX0) (N := 10) dX0_begin_21 rfl (by decide) wt_88 uw_X0, ⟨1, s_iload_n dX0_begin_24 rfl, ⟨3, s_gets dX0_begin_25 wt_54 (by decide), ⟨1, s_iload_n dX0_begin_28 rfl, ⟨1, s_iald dX0_begin_29, rfl⟩⟩⟩⟩⟩⟩, t_cv rfl mi_63 mok_63 rfl (fun _ => ⟨rfl, by decide +kernel⟩) (fun hs' e => by cases e; intro E n b h; cases h) (fun q fs As rest h hp hA hr => (call_V (i := i_1) (j := i_63) (C := RX2) (T := TX2) (N := 1) dX0_begin_30 mok_63 rfl ⟨by decide, by decide⟩ np_63 rfl rfl wt_56 wt_57 wt_58 hp hA hr rfl).thr (fun _ => True.intro))⟩
theorem ok_1_3 : BkOK mi i_1 (bpf P_1) 3 (B_1.getD 3 bk0) := ⟨36, ⟨3, s_iinc dX0_begin_33 rfl (by decide), rfl⟩, t_go dX0_begin_36 (by decide)⟩
theorem ok_1_4 : BkOK mi i_1 (bpf P_1) 4 (B_1.getD 4 bk0) := ⟨41, ⟨1, s_iconst dX0_begin_39 rfl, ⟨1, s_istore_n dX0_begin_40 rfl (by decide), rfl⟩⟩, t_fall rfl⟩
theorem ok_1_5 : BkOK mi i_1 (bpf P_1) 5 (B_1.getD 5 bk0) := ⟨48, ⟨1, s_iload_n dX0_begin_41 rfl, ⟨1, s_iconst dX0_begin_42 rfl, ⟨1, s_iadd dX0_begin_43, ⟨3, s_gets dX0_begin_44 wt_60 (by decide), ⟨1, s_alen dX0_begin_47, rfl⟩⟩⟩⟩⟩, t_gt dX0_begin_48 (by decide) rfl⟩
theorem ok_1_6 : BkOK mi i_1 (bpf P_1) 6 (B_1.getD 6 bk0) := ⟨85, ⟨1, s_aload_n dX0_begin_51 rfl, ⟨3, s_gets dX0_begin_52 wt_60 (by decide), ⟨1, s_iload_n dX0_begin_55 rfl, ⟨1, s_iald dX0_begin_56, ⟨3, s_gets dX0_begin_57 wt_60 (by decide), ⟨1, s_iload_n dX0_begin_60 rfl, ⟨1, s_iconst dX0_begin_61 rfl, ⟨1, s_iadd dX0_begin_62, ⟨1, s_iald dX0_begin_63, ⟨3, s_gets dX0_begin_64 wt_60 (by decide), ⟨1, s_iload_n dX0_begin_67 rfl, ⟨1, s_iconst dX0_begin_68 rfl, ⟨1, s_iadd dX0_begin_69, ⟨1, s_iald dX0_begin_70, ⟨3, s_gets dX0_begin_71 wt_60 (by decide), ⟨1, s_iload_n dX0_begin_74 rfl, ⟨1, s_iconst dX0_begin_75 rfl, ⟨1, s_iadd dX0_begin_76, ⟨1, s_iald dX0_begin_77, ⟨3, s_gets dX0_begin_78 wt_60 (by decide), ⟨1, s_iload_n dX0_begin_81 rfl, ⟨1, s_iconst dX0_begin_82 rfl, ⟨1, s_iadd dX0_begin_83, ⟨1, s_iald dX0_begin_84, rfl⟩⟩⟩⟩⟩⟩⟩⟩⟩⟩⟩⟩⟩⟩⟩⟩⟩⟩⟩⟩⟩⟩⟩⟩, t_cv rfl mi_3 mok_3 rfl (fun _ => ⟨rfl, by decide +kernel⟩) (fun hs' e => by cases e; intro E n b h; cases h) (fun q fs As rest h hp hA hr => (call_V (i := i_1) (j := i_3) (C := RX0) (T := TX0) (N := 10) dX0_begin_85 mok_3 rfl ⟨by decide, by decide⟩ np_3 rfl rfl wt_62 wt_63 wt_64 hp hA hr rfl).thr (fun _ => True.intro))⟩
theorem ok_1_7 : BkOK mi i_1 (bpf P_1) 7 (B_1.getD 7 bk0) := ⟨91, ⟨3, s_iinc dX0_begin_88 rfl (by decide), rfl⟩, t_go dX0_begin_91 (by decide)⟩
theorem ok_1_8 : BkOK mi i_1 (bpf P_1) 8 (B_1.getD 8 bk0) := ⟨94, rfl, t_retV dX0_begin_94 rfl⟩
theorem ok_1 : ∀ b, BkOK mi i_1 (bpf P_1) b (B_1.getD b bk0)
  | 0 => ok_1_0
  | 1 => ok_1_1
  | 2 => ok_1_2
  | 3 => ok_1_3
  | 4 => ok_1_4
  | 5 => ok_1_5
  | 6 => ok_1_6
  | 7 => ok_1_7
  | 8 => ok_1_8
  | b + 9 => bk_none mi i_1 (bpf P_1) (b + 9)
theorem ok_2_0 : BkOK mi i_2 (bpf P_2) 0 (B_2.getD 0 bk0) := ⟨24, ⟨1, s_aload_n dX0_copyFrom_0 rfl, ⟨1, s_aload_n dX0_copyFrom_1 rfl, ⟨3, s_get (C := RX0) (T := TX0) (N := 10) dX0_copyFrom_2 rfl (by decide) wt_69 uw_X0, ⟨3, s_put (C := RX0) (T := TX0) (N := 10) tyX0 tyX0_ok nmX0 dX0_copyFrom_5 rfl (by decide) rfl (tyX0_ok 0 (by decide)) wt_69 uw_X0, ⟨1, s_aload_n dX0_copyFrom_8 rfl, ⟨1, s_aload_n dX0_copyFrom_9 rfl, ⟨3, s_get (C := RX0) (T := TX0) (N := 10) dX0_copyFrom_10 rfl (by decide) wt_72 uw_X0, ⟨3, s_put (C := RX0) (T := TX0) (N := 10) tyX0 tyX0_ok nmX0 dX0_copyFrom_13 rfl (by decide) rfl (tyX0_ok 1 (by decide)) wt_72 uw_X0, ⟨1, s_aload_n dX0_copyFrom_16 rfl, ⟨3, s_get (C := RX0) (T := TX0) (N := 10) dX0_copyFrom_17 rfl (by decide) wt_76 uw_X0, ⟨1, s_aload_n dX0_copyFrom_20 rfl, ⟨3, s_get (C := RX0) (T := TX0) (N := 10) dX0_copyFrom_21 rfl (by decide) wt_76 uw_X0, rfl⟩⟩⟩⟩⟩⟩⟩⟩⟩⟩⟩⟩, t_cv rfl mi_64 mok_64 rfl (fun _ => ⟨rfl, by decide +kernel⟩) (fun hs' e => by cases e; intro E n b h; cases h) (fun q fs As rest h hp hA hr => (call_V (i := i_2) (j := i_64) (C := RX2) (T := TX2) (N := 1) dX0_copyFrom_24 mok_64 rfl ⟨by decide, by decide⟩ np_64 rfl rfl wt_457 wt_458 wt_459 hp hA hr rfl).thr (fun _ => True.intro))⟩
theorem ok_2_1 : BkOK mi i_2 (bpf P_2) 1 (B_2.getD 1 bk0) := ⟨35, ⟨1, s_aload_n dX0_copyFrom_27 rfl, ⟨3, s_get (C := RX0) (T := TX0) (N := 10) dX0_copyFrom_28 rfl (by decide) wt_80 uw_X0, ⟨1, s_aload_n dX0_copyFrom_31 rfl, ⟨3, s_get (C := RX0) (T := TX0) (N := 10) dX0_copyFrom_32 rfl (by decide) wt_80 uw_X0, rfl⟩⟩⟩⟩, t_cv rfl mi_64 mok_64 rfl (fun _ => ⟨rfl, by decide +kernel⟩) (fun hs' e => by cases e; intro E n b h; cases h) (fun q fs As rest h hp hA hr => (call_V (i := i_2) (j := i_64) (C := RX2) (T := TX2) (N := 1) dX0_copyFrom_35 mok_64 rfl ⟨by decide, by decide⟩ np_64 rfl rfl wt_457 wt_458 wt_459 hp hA hr rfl).thr (fun _ => True.intro))⟩
theorem ok_2_2 : BkOK mi i_2 (bpf P_2) 2 (B_2.getD 2 bk0) := ⟨46, ⟨1, s_aload_n dX0_copyFrom_38 rfl, ⟨3, s_get (C := RX0) (T := TX0) (N := 10) dX0_copyFrom_39 rfl (by decide) wt_84 uw_X0, ⟨1, s_aload_n dX0_copyFrom_42 rfl, ⟨3, s_get (C := RX0) (T := TX0) (N := 10) dX0_copyFrom_43 rfl (by decide) wt_84 uw_X0, rfl⟩⟩⟩⟩, t_cv rfl mi_64 mok_64 rfl (fun _ => ⟨rfl, by decide +kernel⟩) (fun hs' e => by cases e; intro E n b h; cases h) (fun q fs As rest h hp hA hr => (call_V (i := i_2) (j := i_64) (C := RX2) (T := TX2) (N := 1) dX0_copyFrom_46 mok_64 rfl ⟨by decide, by decide⟩ np_64 rfl rfl wt_457 wt_458 wt_459 hp hA hr rfl).thr (fun _ => True.intro))⟩
theorem ok_2_3 : BkOK mi i_2 (bpf P_2) 3 (B_2.getD 3 bk0) := ⟨57, ⟨1, s_aload_n dX0_copyFrom_49 rfl, ⟨3, s_get (C := RX0) (T := TX0) (N := 10) dX0_copyFrom_50 rfl (by decide) wt_85 uw_X0, ⟨1, s_aload_n dX0_copyFrom_53 rfl, ⟨3, s_get (C := RX0) (T := TX0) (N := 10) dX0_copyFrom_54 rfl (by decide) wt_85 uw_X0, rfl⟩⟩⟩⟩, t_cv rfl mi_64 mok_64 rfl (fun _ => ⟨rfl, by decide +kernel⟩) (fun hs' e => by cases e; intro E n b h; cases h) (fun q fs As rest h hp hA hr => (call_V (i := i_2) (j := i_64) (C := RX2) (T := TX2) (N := 1) dX0_copyFrom_57 mok_64 rfl ⟨by decide, by decide⟩ np_64 rfl rfl wt_457 wt_458 wt_459 hp hA hr rfl).thr (fun _ => True.intro))⟩
theorem ok_2_4 : BkOK mi i_2 (bpf P_2) 4 (B_2.getD 4 bk0) := ⟨68, ⟨1, s_aload_n dX0_copyFrom_60 rfl, ⟨3, s_get (C := RX0) (T := TX0) (N := 10) dX0_copyFrom_61 rfl (by decide) wt_88 uw_X0, ⟨1, s_aload_n dX0_copyFrom_64 rfl, ⟨3, s_get (C := RX0) (T := TX0) (N := 10) dX0_copyFrom_65 rfl (by decide) wt_88 uw_X0, rfl⟩⟩⟩⟩, t_cv rfl mi_64 mok_64 rfl (fun _ => ⟨rfl, by decide +kernel⟩) (fun hs' e => by cases e; intro E n b h; cases h) (fun q fs As rest h hp hA hr => (call_V (i := i_2) (j := i_64) (C := RX2) (T := TX2) (N := 1) dX0_copyFrom_68 mok_64 rfl ⟨by decide, by decide⟩ np_64 rfl rfl wt_457 wt_458 wt_459 hp hA hr rfl).thr (fun _ => True.intro))⟩
theorem ok_2_5 : BkOK mi i_2 (bpf P_2) 5 (B_2.getD 5 bk0) := ⟨79, ⟨1, s_aload_n dX0_copyFrom_71 rfl, ⟨3, s_get (C := RX0) (T := TX0) (N := 10) dX0_copyFrom_72 rfl (by decide) wt_91 uw_X0, ⟨1, s_aload_n dX0_copyFrom_75 rfl, ⟨3, s_get (C := RX0) (T := TX0) (N := 10) dX0_copyFrom_76 rfl (by decide) wt_91 uw_X0, rfl⟩⟩⟩⟩, t_cv rfl mi_64 mok_64 rfl (fun _ => ⟨rfl, by decide +kernel⟩) (fun hs' e => by cases e; intro E n b h; cases h) (fun q fs As rest h hp hA hr => (call_V (i := i_2) (j := i_64) (C := RX2) (T := TX2) (N := 1) dX0_copyFrom_79 mok_64 rfl ⟨by decide, by decide⟩ np_64 rfl rfl wt_457 wt_458 wt_459 hp hA hr rfl).thr (fun _ => True.intro))⟩
theorem ok_2_6 : BkOK mi i_2 (bpf P_2) 6 (B_2.getD 6 bk0) := ⟨90, ⟨1, s_aload_n dX0_copyFrom_82 rfl, ⟨3, s_get (C := RX0) (T := TX0) (N := 10) dX0_copyFrom_83 rfl (by decide) wt_93 uw_X0, ⟨1, s_aload_n dX0_copyFrom_86 rfl, ⟨3, s_get (C := RX0) (T := TX0) (N := 10) dX0_copyFrom_87 rfl (by decide) wt_93 uw_X0, rfl⟩⟩⟩⟩, t_cv rfl mi_64 mok_64 rfl (fun _ => ⟨rfl, by decide +kernel⟩) (fun hs' e => by cases e; intro E n b h; cases h) (fun q fs As rest h hp hA hr => (call_V (i := i_2) (j := i_64) (C := RX2) (T := TX2) (N := 1) dX0_copyFrom_90 mok_64 rfl ⟨by decide, by decide⟩ np_64 rfl rfl wt_457 wt_458 wt_459 hp hA hr rfl).thr (fun _ => True.intro))⟩
theorem ok_2_7 : BkOK mi i_2 (bpf P_2) 7 (B_2.getD 7 bk0) := ⟨101, ⟨1, s_aload_n dX0_copyFrom_93 rfl, ⟨3, s_get (C := RX0) (T := TX0) (N := 10) dX0_copyFrom_94 rfl (by decide) wt_95 uw_X0, ⟨1, s_aload_n dX0_copyFrom_97 rfl, ⟨3, s_get (C := RX0) (T := TX0) (N := 10) dX0_copyFrom_98 rfl (by decide) wt_95 uw_X0, rfl⟩⟩⟩⟩, t_cv rfl mi_64 mok_64 rfl (fun _ => ⟨rfl, by decide +kernel⟩) (fun hs' e => by cases e; intro E n b h; cases h) (fun q fs As rest h hp hA hr => (call_V (i := i_2) (j := i_64) (C := RX2) (T := TX2) (N := 1) dX0_copyFrom_101 mok_64 rfl ⟨by decide, by decide⟩ np_64 rfl rfl wt_457 wt_458 wt_459 hp hA hr rfl).thr (fun _ => True.intro))⟩
theorem ok_2_8 : BkOK mi i_2 (bpf P_2) 8 (B_2.getD 8 bk0) := ⟨104, rfl, t_retV dX0_copyFrom_104 rfl⟩
theorem ok_2 : ∀ b, BkOK mi i_2 (bpf P_2) b (B_2.getD b bk0)
  | 0 => ok_2_0
  | 1 => ok_2_1
  | 2 => ok_2_2
  | 3 => ok_2_3
  | 4 => ok_2_4
  | 5 => ok_2_5
  | 6 => ok_2_6
  | 7 => ok_2_7
  | 8 => ok_2_8
  | b + 9 => bk_none mi i_2 (bpf P_2) (b + 9)
theorem ok_3_0 : BkOK mi i_3 (bpf P_3) 0 (B_3.getD 0 bk0) := ⟨6, ⟨1, s_aload_n dX0_putSpan_0 rfl, ⟨3, s_get (C := RX0) (T := TX0) (N := 10) dX0_putSpan_1 rfl (by decide) wt_91 uw_X0, ⟨1, s_iload_n dX0_putSpan_4 rfl, ⟨1, s_iload_n dX0_putSpan_5 rfl, rfl⟩⟩⟩⟩, t_cs rfl mi_147 mok_147 rfl (fun As rest h hA hr => call_SN dX0_putSpan_6 mok_147 rfl ⟨by decide, by decide⟩ np_147 wt_66 wt_67 hA hr)⟩
theorem ok_3_1 : BkOK mi i_3 (bpf P_3) 1 (B_3.getD 1 bk0) := ⟨10, ⟨1, s_iload_n dX0_putSpan_9 rfl, rfl⟩, t_cv rfl mi_63 mok_63 rfl (fun _ => ⟨rfl, by decide +kernel⟩) (fun hs' e => by cases e; intro E n b h; cases h) (fun q fs As rest h hp hA hr => (call_V (i := i_3) (j := i_63) (C := RX2) (T := TX2) (N := 1) dX0_putSpan_10 mok_63 rfl ⟨by decide, by decide⟩ np_63 rfl rfl wt_56 wt_57 wt_58 hp hA hr rfl).thr (fun _ => True.intro))⟩
theorem ok_3_2 : BkOK mi i_3 (bpf P_3) 2 (B_3.getD 2 bk0) := ⟨19, ⟨1, s_aload_n dX0_putSpan_13 rfl, ⟨3, s_get (C := RX0) (T := TX0) (N := 10) dX0_putSpan_14 rfl (by decide) wt_91 uw_X0, ⟨1, s_iload_n dX0_putSpan_17 rfl, ⟨1, s_iload_n dX0_putSpan_18 rfl, rfl⟩⟩⟩⟩, t_cs rfl mi_147 mok_147 rfl (fun As rest h hA hr => call_SN dX0_putSpan_19 mok_147 rfl ⟨by decide, by decide⟩ np_147 wt_66 wt_67 hA hr)⟩
theorem ok_3_3 : BkOK mi i_3 (bpf P_3) 3 (B_3.getD 3 bk0) := ⟨23, ⟨1, s_iload_n dX0_putSpan_22 rfl, rfl⟩, t_cv rfl mi_63 mok_63 rfl (fun _ => ⟨rfl, by decide +kernel⟩) (fun hs' e => by cases e; intro E n b h; cases h) (fun q fs As rest h hp hA hr => (call_V (i := i_3) (j := i_63) (C := RX2) (T := TX2) (N := 1) dX0_putSpan_23 mok_63 rfl ⟨by decide, by decide⟩ np_63 rfl rfl wt_56 wt_57 wt_58 hp hA hr rfl).thr (fun _ => True.intro))⟩
theorem ok_3_4 : BkOK mi i_3 (bpf P_3) 4 (B_3.getD 4 bk0) := ⟨32, ⟨1, s_aload_n dX0_putSpan_26 rfl, ⟨3, s_get (C := RX0) (T := TX0) (N := 10) dX0_putSpan_27 rfl (by decide) wt_93 uw_X0, ⟨1, s_iload_n dX0_putSpan_30 rfl, ⟨1, s_iload_n dX0_putSpan_31 rfl, rfl⟩⟩⟩⟩, t_cs rfl mi_147 mok_147 rfl (fun As rest h hA hr => call_SN dX0_putSpan_32 mok_147 rfl ⟨by decide, by decide⟩ np_147 wt_66 wt_67 hA hr)⟩
theorem ok_3_5 : BkOK mi i_3 (bpf P_3) 5 (B_3.getD 5 bk0) := ⟨37, ⟨2, s_iload dX0_putSpan_35, rfl⟩, t_cv rfl mi_63 mok_63 rfl (fun _ => ⟨rfl, by decide +kernel⟩) (fun hs' e => by cases e; intro E n b h; cases h) (fun q fs As rest h hp hA hr => (call_V (i := i_3) (j := i_63) (C := RX2) (T := TX2) (N := 1) dX0_putSpan_37 mok_63 rfl ⟨by decide, by decide⟩ np_63 rfl rfl wt_56 wt_57 wt_58 hp hA hr rfl).thr (fun _ => True.intro))⟩
theorem ok_3_6 : BkOK mi i_3 (bpf P_3) 6 (B_3.getD 6 bk0) := ⟨46, ⟨1, s_aload_n dX0_putSpan_40 rfl, ⟨3, s_get (C := RX0) (T := TX0) (N := 10) dX0_putSpan_41 rfl (by decide) wt_93 uw_X0, ⟨1, s_iload_n dX0_putSpan_44 rfl, ⟨1, s_iload_n dX0_putSpan_45 rfl, rfl⟩⟩⟩⟩, t_cs rfl mi_147 mok_147 rfl (fun As rest h hA hr => call_SN dX0_putSpan_46 mok_147 rfl ⟨by decide, by decide⟩ np_147 wt_66 wt_67 hA hr)⟩
theorem ok_3_7 : BkOK mi i_3 (bpf P_3) 7 (B_3.getD 7 bk0) := ⟨51, ⟨2, s_iload dX0_putSpan_49, rfl⟩, t_cv rfl mi_63 mok_63 rfl (fun _ => ⟨rfl, by decide +kernel⟩) (fun hs' e => by cases e; intro E n b h; cases h) (fun q fs As rest h hp hA hr => (call_V (i := i_3) (j := i_63) (C := RX2) (T := TX2) (N := 1) dX0_putSpan_51 mok_63 rfl ⟨by decide, by decide⟩ np_63 rfl rfl wt_56 wt_57 wt_58 hp hA hr rfl).thr (fun _ => True.intro))⟩
theorem ok_3_8 : BkOK mi i_3 (bpf P_3) 8 (B_3.getD 8 bk0) := ⟨60, ⟨1, s_aload_n dX0_putSpan_54 rfl, ⟨3, s_get (C := RX0) (T := TX0) (N := 10) dX0_putSpan_55 rfl (by decide) wt_95 uw_X0, ⟨1, s_iload_n dX0_putSpan_58 rfl, ⟨1, s_iload_n dX0_putSpan_59 rfl, rfl⟩⟩⟩⟩, t_cs rfl mi_147 mok_147 rfl (fun As rest h hA hr => call_SN dX0_putSpan_60 mok_147 rfl ⟨by decide, by decide⟩ np_147 wt_66 wt_67 hA hr)⟩
theorem ok_3_9 : BkOK mi i_3 (bpf P_3) 9 (B_3.getD 9 bk0) := ⟨65, ⟨2, s_iload dX0_putSpan_63, rfl⟩, t_cv rfl mi_63 mok_63 rfl (fun _ => ⟨rfl, by decide +kernel⟩) (fun hs' e => by cases e; intro E n b h; cases h) (fun q fs As rest h hp hA hr => (call_V (i := i_3) (j := i_63) (C := RX2) (T := TX2) (N := 1) dX0_putSpan_65 mok_63 rfl ⟨by decide, by decide⟩ np_63 rfl rfl wt_56 wt_57 wt_58 hp hA hr rfl).thr (fun _ => True.intro))⟩
theorem ok_3_10 : BkOK mi i_3 (bpf P_3) 10 (B_3.getD 10 bk0) := ⟨74, ⟨1, s_aload_n dX0_putSpan_68 rfl, ⟨3, s_get (C := RX0) (T := TX0) (N := 10) dX0_putSpan_69 rfl (by decide) wt_95 uw_X0, ⟨1, s_iload_n dX0_putSpan_72 rfl, ⟨1, s_iload_n dX0_putSpan_73 rfl, rfl⟩⟩⟩⟩, t_cs rfl mi_147 mok_147 rfl (fun As rest h hA hr => call_SN dX0_putSpan_74 mok_147 rfl ⟨by decide, by decide⟩ np_147 wt_66 wt_67 hA hr)⟩
theorem ok_3_11 : BkOK mi i_3 (bpf P_3) 11 (B_3.getD 11 bk0) := ⟨79, ⟨2, s_iload dX0_putSpan_77, rfl⟩, t_cv rfl mi_63 mok_63 rfl (fun _ => ⟨rfl, by decide +kernel⟩) (fun hs' e => by cases e; intro E n b h; cases h) (fun q fs As rest h hp hA hr => (call_V (i := i_3) (j := i_63) (C := RX2) (T := TX2) (N := 1) dX0_putSpan_79 mok_63 rfl ⟨by decide, by decide⟩ np_63 rfl rfl wt_56 wt_57 wt_58 hp hA hr rfl).thr (fun _ => True.intro))⟩
theorem ok_3_12 : BkOK mi i_3 (bpf P_3) 12 (B_3.getD 12 bk0) := ⟨82, rfl, t_retV dX0_putSpan_82 rfl⟩
theorem ok_3 : ∀ b, BkOK mi i_3 (bpf P_3) b (B_3.getD b bk0)
  | 0 => ok_3_0
  | 1 => ok_3_1
  | 2 => ok_3_2
  | 3 => ok_3_3
  | 4 => ok_3_4
  | 5 => ok_3_5
  | 6 => ok_3_6
  | 7 => ok_3_7
  | 8 => ok_3_8
  | 9 => ok_3_9
  | 10 => ok_3_10
  | 11 => ok_3_11
  | 12 => ok_3_12
  | b + 13 => bk_none mi i_3 (bpf P_3) (b + 13)
theorem ok_4_0 : BkOK mi i_4 (bpf P_4) 0 (B_4.getD 0 bk0) := ⟨5, ⟨1, s_aload_n dX0_openPlace_0 rfl, ⟨3, s_get (C := RX0) (T := TX0) (N := 10) dX0_openPlace_1 rfl (by decide) wt_72 uw_X0, ⟨1, s_istore_n dX0_openPlace_4 rfl (by decide), rfl⟩⟩⟩, t_fall rfl⟩
theorem ok_4_1 : BkOK mi i_4 (bpf P_4) 1 (B_4.getD 1 bk0) := ⟨7, ⟨1, s_iload_n dX0_openPlace_5 rfl, ⟨1, s_iload_n dX0_openPlace_6 rfl, rfl⟩⟩, t_le dX0_openPlace_7 (by decide) rfl⟩
theorem ok_4_2 : BkOK mi i_4 (bpf P_4) 2 (B_4.getD 2 bk0) := ⟨15, ⟨1, s_aload_n dX0_openPlace_10 rfl, ⟨1, s_iload_n dX0_openPlace_11 rfl, ⟨1, s_iconst dX0_openPlace_12 rfl, ⟨1, s_isub dX0_openPlace_13, ⟨1, s_iload_n dX0_openPlace_14 rfl, rfl⟩⟩⟩⟩⟩, t_cv rfl mi_6 mok_6 rfl (fun _ => ⟨rfl, by decide +kernel⟩) (fun hs' e => by cases e; intro E n b h; cases h) (fun q fs As rest h hp hA hr => (call_V (i := i_4) (j := i_6) (C := RX0) (T := TX0) (N := 10) dX0_openPlace_15 mok_6 rfl ⟨by decide, by decide⟩ np_6 rfl rfl wt_410 wt_411 wt_412 hp hA hr rfl).thr (fun _ => True.intro))⟩
theorem ok_4_3 : BkOK mi i_4 (bpf P_4) 3 (B_4.getD 3 bk0) := ⟨21, ⟨3, s_iinc dX0_openPlace_18 rfl (by decide), rfl⟩, t_go dX0_openPlace_21 (by decide)⟩
theorem ok_4_4 : BkOK mi i_4 (bpf P_4) 4 (B_4.getD 4 bk0) := ⟨30, ⟨1, s_aload_n dX0_openPlace_24 rfl, ⟨3, s_get (C := RX0) (T := TX0) (N := 10) dX0_openPlace_25 rfl (by decide) wt_76 uw_X0, ⟨1, s_iload_n dX0_openPlace_28 rfl, ⟨1, s_iconst dX0_openPlace_29 rfl, rfl⟩⟩⟩⟩, t_cv rfl mi_63 mok_63 rfl (fun _ => ⟨rfl, by decide +kernel⟩) (fun hs' e => by cases e; intro E n b h; cases h) (fun q fs As rest h hp hA hr => (call_V (i := i_4) (j := i_63) (C := RX2) (T := TX2) (N := 1) dX0_openPlace_30 mok_63 rfl ⟨by decide, by decide⟩ np_63 rfl rfl wt_56 wt_57 wt_58 hp hA hr rfl).thr (fun _ => True.intro))⟩
theorem ok_4_5 : BkOK mi i_4 (bpf P_4) 5 (B_4.getD 5 bk0) := ⟨39, ⟨1, s_aload_n dX0_openPlace_33 rfl, ⟨3, s_get (C := RX0) (T := TX0) (N := 10) dX0_openPlace_34 rfl (by decide) wt_80 uw_X0, ⟨1, s_iload_n dX0_openPlace_37 rfl, ⟨1, s_iconst dX0_openPlace_38 rfl, rfl⟩⟩⟩⟩, t_cv rfl mi_63 mok_63 rfl (fun _ => ⟨rfl, by decide +kernel⟩) (fun hs' e => by cases e; intro E n b h; cases h) (fun q fs As rest h hp hA hr => (call_V (i := i_4) (j := i_63) (C := RX2) (T := TX2) (N := 1) dX0_openPlace_39 mok_63 rfl ⟨by decide, by decide⟩ np_63 rfl rfl wt_56 wt_57 wt_58 hp hA hr rfl).thr (fun _ => True.intro))⟩
theorem ok_4_6 : BkOK mi i_4 (bpf P_4) 6 (B_4.getD 6 bk0) := ⟨52, ⟨1, s_aload_n dX0_openPlace_42 rfl, ⟨1, s_dup dX0_openPlace_43, ⟨3, s_get (C := RX0) (T := TX0) (N := 10) dX0_openPlace_44 rfl (by decide) wt_72 uw_X0, ⟨1, s_iconst dX0_openPlace_47 rfl, ⟨1, s_iadd dX0_openPlace_48, ⟨3, s_put (C := RX0) (T := TX0) (N := 10) tyX0 tyX0_ok nmX0 dX0_openPlace_49 rfl (by decide) rfl (tyX0_ok 1 (by decide)) wt_72 uw_X0, rfl⟩⟩⟩⟩⟩⟩, t_retV dX0_openPlace_52 rfl⟩
theorem ok_4 : ∀ b, BkOK mi i_4 (bpf P_4) b (B_4.getD b bk0)
  | 0 => ok_4_0
  | 1 => ok_4_1
  | 2 => ok_4_2
  | 3 => ok_4_3
  | 4 => ok_4_4
  | 5 => ok_4_5
  | 6 => ok_4_6
  | b + 7 => bk_none mi i_4 (bpf P_4) (b + 7)
theorem ok_5_0 : BkOK mi i_5 (bpf P_5) 0 (B_5.getD 0 bk0) := ⟨12, ⟨1, s_aload_n dX0_closePlace_0 rfl, ⟨1, s_dup dX0_closePlace_1, ⟨3, s_get (C := RX0) (T := TX0) (N := 10) dX0_closePlace_2 rfl (by decide) wt_72 uw_X0, ⟨1, s_iconst dX0_closePlace_5 rfl, ⟨1, s_isub dX0_closePlace_6, ⟨3, s_put (C := RX0) (T := TX0) (N := 10) tyX0 tyX0_ok nmX0 dX0_closePlace_7 rfl (by decide) rfl (tyX0_ok 1 (by decide)) wt_72 uw_X0, ⟨1, s_iload_n dX0_closePlace_10 rfl, ⟨1, s_istore_n dX0_closePlace_11 rfl (by decide), rfl⟩⟩⟩⟩⟩⟩⟩⟩, t_fall rfl⟩
theorem ok_5_1 : BkOK mi i_5 (bpf P_5) 1 (B_5.getD 1 bk0) := ⟨17, ⟨1, s_iload_n dX0_closePlace_12 rfl, ⟨1, s_aload_n dX0_closePlace_13 rfl, ⟨3, s_get (C := RX0) (T := TX0) (N := 10) dX0_closePlace_14 rfl (by decide) wt_72 uw_X0, rfl⟩⟩⟩, t_ge dX0_closePlace_17 (by decide) rfl⟩
theorem ok_5_2 : BkOK mi i_5 (bpf P_5) 2 (B_5.getD 2 bk0) := ⟨25, ⟨1, s_aload_n dX0_closePlace_20 rfl, ⟨1, s_iload_n dX0_closePlace_21 rfl, ⟨1, s_iconst dX0_closePlace_22 rfl, ⟨1, s_iadd dX0_closePlace_23, ⟨1, s_iload_n dX0_closePlace_24 rfl, rfl⟩⟩⟩⟩⟩, t_cv rfl mi_6 mok_6 rfl (fun _ => ⟨rfl, by decide +kernel⟩) (fun hs' e => by cases e; intro E n b h; cases h) (fun q fs As rest h hp hA hr => (call_V (i := i_5) (j := i_6) (C := RX0) (T := TX0) (N := 10) dX0_closePlace_25 mok_6 rfl ⟨by decide, by decide⟩ np_6 rfl rfl wt_410 wt_411 wt_412 hp hA hr rfl).thr (fun _ => True.intro))⟩
theorem ok_5_3 : BkOK mi i_5 (bpf P_5) 3 (B_5.getD 3 bk0) := ⟨31, ⟨3, s_iinc dX0_closePlace_28 rfl (by decide), rfl⟩, t_go dX0_closePlace_31 (by decide)⟩
theorem ok_5_4 : BkOK mi i_5 (bpf P_5) 4 (B_5.getD 4 bk0) := ⟨34, rfl, t_retV dX0_closePlace_34 rfl⟩
theorem ok_5 : ∀ b, BkOK mi i_5 (bpf P_5) b (B_5.getD b bk0)
  | 0 => ok_5_0
  | 1 => ok_5_1
  | 2 => ok_5_2
  | 3 => ok_5_3
  | 4 => ok_5_4
  | b + 5 => bk_none mi i_5 (bpf P_5) (b + 5)
theorem ok_6_0 : BkOK mi i_6 (bpf P_6) 0 (B_6.getD 0 bk0) := ⟨10, ⟨1, s_aload_n dX0_moveEvent_0 rfl, ⟨3, s_get (C := RX0) (T := TX0) (N := 10) dX0_moveEvent_1 rfl (by decide) wt_76 uw_X0, ⟨1, s_iload_n dX0_moveEvent_4 rfl, ⟨1, s_aload_n dX0_moveEvent_5 rfl, ⟨3, s_get (C := RX0) (T := TX0) (N := 10) dX0_moveEvent_6 rfl (by decide) wt_76 uw_X0, ⟨1, s_iload_n dX0_moveEvent_9 rfl, rfl⟩⟩⟩⟩⟩⟩, t_cv rfl mi_62 mok_62 rfl (fun _ => ⟨rfl, by decide +kernel⟩) (fun hs' e => by cases e; intro E n b h; cases h) (fun q fs As rest h hp hA hr => (call_V (i := i_6) (j := i_62) (C := RX2) (T := TX2) (N := 1) dX0_moveEvent_10 mok_62 rfl ⟨by decide, by decide⟩ np_62 rfl rfl wt_414 wt_277 wt_278 hp hA hr rfl).thr (fun _ => True.intro))⟩
theorem ok_6_1 : BkOK mi i_6 (bpf P_6) 1 (B_6.getD 1 bk0) := ⟨13, rfl, t_cv rfl mi_63 mok_63 rfl (fun _ => ⟨rfl, by decide +kernel⟩) (fun hs' e => by cases e; intro E n b h; cases h) (fun q fs As rest h hp hA hr => (call_V (i := i_6) (j := i_63) (C := RX2) (T := TX2) (N := 1) dX0_moveEvent_13 mok_63 rfl ⟨by decide, by decide⟩ np_63 rfl rfl wt_56 wt_57 wt_58 hp hA hr rfl).thr (fun _ => True.intro))⟩
theorem ok_6_2 : BkOK mi i_6 (bpf P_6) 2 (B_6.getD 2 bk0) := ⟨26, ⟨1, s_aload_n dX0_moveEvent_16 rfl, ⟨3, s_get (C := RX0) (T := TX0) (N := 10) dX0_moveEvent_17 rfl (by decide) wt_80 uw_X0, ⟨1, s_iload_n dX0_moveEvent_20 rfl, ⟨1, s_aload_n dX0_moveEvent_21 rfl, ⟨3, s_get (C := RX0) (T := TX0) (N := 10) dX0_moveEvent_22 rfl (by decide) wt_80 uw_X0, ⟨1, s_iload_n dX0_moveEvent_25 rfl, rfl⟩⟩⟩⟩⟩⟩, t_cv rfl mi_62 mok_62 rfl (fun _ => ⟨rfl, by decide +kernel⟩) (fun hs' e => by cases e; intro E n b h; cases h) (fun q fs As rest h hp hA hr => (call_V (i := i_6) (j := i_62) (C := RX2) (T := TX2) (N := 1) dX0_moveEvent_26 mok_62 rfl ⟨by decide, by decide⟩ np_62 rfl rfl wt_414 wt_277 wt_278 hp hA hr rfl).thr (fun _ => True.intro))⟩
theorem ok_6_3 : BkOK mi i_6 (bpf P_6) 3 (B_6.getD 3 bk0) := ⟨29, rfl, t_cv rfl mi_63 mok_63 rfl (fun _ => ⟨rfl, by decide +kernel⟩) (fun hs' e => by cases e; intro E n b h; cases h) (fun q fs As rest h hp hA hr => (call_V (i := i_6) (j := i_63) (C := RX2) (T := TX2) (N := 1) dX0_moveEvent_29 mok_63 rfl ⟨by decide, by decide⟩ np_63 rfl rfl wt_56 wt_57 wt_58 hp hA hr rfl).thr (fun _ => True.intro))⟩
theorem ok_6_4 : BkOK mi i_6 (bpf P_6) 4 (B_6.getD 4 bk0) := ⟨34, ⟨1, s_iconst dX0_moveEvent_32 rfl, ⟨1, s_istore_n dX0_moveEvent_33 rfl (by decide), rfl⟩⟩, t_fall rfl⟩
theorem ok_6_5 : BkOK mi i_6 (bpf P_6) 5 (B_6.getD 5 bk0) := ⟨36, ⟨1, s_iload_n dX0_moveEvent_34 rfl, ⟨1, s_iconst dX0_moveEvent_35 rfl, rfl⟩⟩, t_ge dX0_moveEvent_36 (by decide) rfl⟩
theorem ok_6_6 : BkOK mi i_6 (bpf P_6) 6 (B_6.getD 6 bk0) := ⟨45, ⟨1, s_aload_n dX0_moveEvent_39 rfl, ⟨3, s_get (C := RX0) (T := TX0) (N := 10) dX0_moveEvent_40 rfl (by decide) wt_84 uw_X0, ⟨1, s_iload_n dX0_moveEvent_43 rfl, ⟨1, s_iload_n dX0_moveEvent_44 rfl, rfl⟩⟩⟩⟩, t_cs rfl mi_146 mok_146 rfl (fun As rest h hA hr => call_SN dX0_moveEvent_45 mok_146 rfl ⟨by decide, by decide⟩ np_146 wt_415 wt_416 hA hr)⟩
theorem ok_6_7 : BkOK mi i_6 (bpf P_6) 7 (B_6.getD 7 bk0) := ⟨54, ⟨1, s_aload_n dX0_moveEvent_48 rfl, ⟨3, s_get (C := RX0) (T := TX0) (N := 10) dX0_moveEvent_49 rfl (by decide) wt_84 uw_X0, ⟨1, s_iload_n dX0_moveEvent_52 rfl, ⟨1, s_iload_n dX0_moveEvent_53 rfl, rfl⟩⟩⟩⟩, t_cs rfl mi_146 mok_146 rfl (fun As rest h hA hr => call_SN dX0_moveEvent_54 mok_146 rfl ⟨by decide, by decide⟩ np_146 wt_415 wt_416 hA hr)⟩
theorem ok_6_8 : BkOK mi i_6 (bpf P_6) 8 (B_6.getD 8 bk0) := ⟨57, rfl, t_cv rfl mi_62 mok_62 rfl (fun _ => ⟨rfl, by decide +kernel⟩) (fun hs' e => by cases e; intro E n b h; cases h) (fun q fs As rest h hp hA hr => (call_V (i := i_6) (j := i_62) (C := RX2) (T := TX2) (N := 1) dX0_moveEvent_57 mok_62 rfl ⟨by decide, by decide⟩ np_62 rfl rfl wt_414 wt_277 wt_278 hp hA hr rfl).thr (fun _ => True.intro))⟩
theorem ok_6_9 : BkOK mi i_6 (bpf P_6) 9 (B_6.getD 9 bk0) := ⟨60, rfl, t_cv rfl mi_63 mok_63 rfl (fun _ => ⟨rfl, by decide +kernel⟩) (fun hs' e => by cases e; intro E n b h; cases h) (fun q fs As rest h hp hA hr => (call_V (i := i_6) (j := i_63) (C := RX2) (T := TX2) (N := 1) dX0_moveEvent_60 mok_63 rfl ⟨by decide, by decide⟩ np_63 rfl rfl wt_56 wt_57 wt_58 hp hA hr rfl).thr (fun _ => True.intro))⟩
theorem ok_6_10 : BkOK mi i_6 (bpf P_6) 10 (B_6.getD 10 bk0) := ⟨69, ⟨1, s_aload_n dX0_moveEvent_63 rfl, ⟨3, s_get (C := RX0) (T := TX0) (N := 10) dX0_moveEvent_64 rfl (by decide) wt_85 uw_X0, ⟨1, s_iload_n dX0_moveEvent_67 rfl, ⟨1, s_iload_n dX0_moveEvent_68 rfl, rfl⟩⟩⟩⟩, t_cs rfl mi_146 mok_146 rfl (fun As rest h hA hr => call_SN dX0_moveEvent_69 mok_146 rfl ⟨by decide, by decide⟩ np_146 wt_415 wt_416 hA hr)⟩
theorem ok_6_11 : BkOK mi i_6 (bpf P_6) 11 (B_6.getD 11 bk0) := ⟨78, ⟨1, s_aload_n dX0_moveEvent_72 rfl, ⟨3, s_get (C := RX0) (T := TX0) (N := 10) dX0_moveEvent_73 rfl (by decide) wt_85 uw_X0, ⟨1, s_iload_n dX0_moveEvent_76 rfl, ⟨1, s_iload_n dX0_moveEvent_77 rfl, rfl⟩⟩⟩⟩, t_cs rfl mi_146 mok_146 rfl (fun As rest h hA hr => call_SN dX0_moveEvent_78 mok_146 rfl ⟨by decide, by decide⟩ np_146 wt_415 wt_416 hA hr)⟩
theorem ok_6_12 : BkOK mi i_6 (bpf P_6) 12 (B_6.getD 12 bk0) := ⟨81, rfl, t_cv rfl mi_62 mok_62 rfl (fun _ => ⟨rfl, by decide +kernel⟩) (fun hs' e => by cases e; intro E n b h; cases h) (fun q fs As rest h hp hA hr => (call_V (i := i_6) (j := i_62) (C := RX2) (T := TX2) (N := 1) dX0_moveEvent_81 mok_62 rfl ⟨by decide, by decide⟩ np_62 rfl rfl wt_414 wt_277 wt_278 hp hA hr rfl).thr (fun _ => True.intro))⟩
theorem ok_6_13 : BkOK mi i_6 (bpf P_6) 13 (B_6.getD 13 bk0) := ⟨84, rfl, t_cv rfl mi_63 mok_63 rfl (fun _ => ⟨rfl, by decide +kernel⟩) (fun hs' e => by cases e; intro E n b h; cases h) (fun q fs As rest h hp hA hr => (call_V (i := i_6) (j := i_63) (C := RX2) (T := TX2) (N := 1) dX0_moveEvent_84 mok_63 rfl ⟨by decide, by decide⟩ np_63 rfl rfl wt_56 wt_57 wt_58 hp hA hr rfl).thr (fun _ => True.intro))⟩
theorem ok_6_14 : BkOK mi i_6 (bpf P_6) 14 (B_6.getD 14 bk0) := ⟨90, ⟨3, s_iinc dX0_moveEvent_87 rfl (by decide), rfl⟩, t_go dX0_moveEvent_90 (by decide)⟩
theorem ok_6_15 : BkOK mi i_6 (bpf P_6) 15 (B_6.getD 15 bk0) := ⟨93, rfl, t_retV dX0_moveEvent_93 rfl⟩
theorem ok_6 : ∀ b, BkOK mi i_6 (bpf P_6) b (B_6.getD b bk0)
  | 0 => ok_6_0
  | 1 => ok_6_1
  | 2 => ok_6_2
  | 3 => ok_6_3
  | 4 => ok_6_4
  | 5 => ok_6_5
  | 6 => ok_6_6
  | 7 => ok_6_7
  | 8 => ok_6_8
  | 9 => ok_6_9
  | 10 => ok_6_10
  | 11 => ok_6_11
  | 12 => ok_6_12
  | 13 => ok_6_13
  | 14 => ok_6_14
  | 15 => ok_6_15
  | b + 16 => bk_none mi i_6 (bpf P_6) (b + 16)
theorem ok_7_0 : BkOK mi i_7 (bpf P_7) 0 (B_7.getD 0 bk0) := ⟨6, ⟨1, s_aload_n dX0_putNote_0 rfl, ⟨3, s_get (C := RX0) (T := TX0) (N := 10) dX0_putNote_1 rfl (by decide) wt_84 uw_X0, ⟨1, s_iload_n dX0_putNote_4 rfl, ⟨1, s_iload_n dX0_putNote_5 rfl, rfl⟩⟩⟩⟩, t_cs rfl mi_146 mok_146 rfl (fun As rest h hA hr => call_SN dX0_putNote_6 mok_146 rfl ⟨by decide, by decide⟩ np_146 wt_415 wt_416 hA hr)⟩
theorem ok_7_1 : BkOK mi i_7 (bpf P_7) 1 (B_7.getD 1 bk0) := ⟨10, ⟨1, s_iload_n dX0_putNote_9 rfl, rfl⟩, t_cv rfl mi_63 mok_63 rfl (fun _ => ⟨rfl, by decide +kernel⟩) (fun hs' e => by cases e; intro E n b h; cases h) (fun q fs As rest h hp hA hr => (call_V (i := i_7) (j := i_63) (C := RX2) (T := TX2) (N := 1) dX0_putNote_10 mok_63 rfl ⟨by decide, by decide⟩ np_63 rfl rfl wt_56 wt_57 wt_58 hp hA hr rfl).thr (fun _ => True.intro))⟩
theorem ok_7_2 : BkOK mi i_7 (bpf P_7) 2 (B_7.getD 2 bk0) := ⟨19, ⟨1, s_aload_n dX0_putNote_13 rfl, ⟨3, s_get (C := RX0) (T := TX0) (N := 10) dX0_putNote_14 rfl (by decide) wt_85 uw_X0, ⟨1, s_iload_n dX0_putNote_17 rfl, ⟨1, s_iload_n dX0_putNote_18 rfl, rfl⟩⟩⟩⟩, t_cs rfl mi_146 mok_146 rfl (fun As rest h hA hr => call_SN dX0_putNote_19 mok_146 rfl ⟨by decide, by decide⟩ np_146 wt_415 wt_416 hA hr)⟩
theorem ok_7_3 : BkOK mi i_7 (bpf P_7) 3 (B_7.getD 3 bk0) := ⟨24, ⟨2, s_bipush dX0_putNote_22 rfl, rfl⟩, t_cv rfl mi_63 mok_63 rfl (fun _ => ⟨rfl, by decide +kernel⟩) (fun hs' e => by cases e; intro E n b h; cases h) (fun q fs As rest h hp hA hr => (call_V (i := i_7) (j := i_63) (C := RX2) (T := TX2) (N := 1) dX0_putNote_24 mok_63 rfl ⟨by decide, by decide⟩ np_63 rfl rfl wt_56 wt_57 wt_58 hp hA hr rfl).thr (fun _ => True.intro))⟩
theorem ok_7_4 : BkOK mi i_7 (bpf P_7) 4 (B_7.getD 4 bk0) := ⟨35, ⟨1, s_aload_n dX0_putNote_27 rfl, ⟨3, s_get (C := RX0) (T := TX0) (N := 10) dX0_putNote_28 rfl (by decide) wt_76 uw_X0, ⟨1, s_iload_n dX0_putNote_31 rfl, ⟨1, s_iload_n dX0_putNote_32 rfl, ⟨1, s_iconst dX0_putNote_33 rfl, ⟨1, s_iadd dX0_putNote_34, rfl⟩⟩⟩⟩⟩⟩, t_cv rfl mi_63 mok_63 rfl (fun _ => ⟨rfl, by decide +kernel⟩) (fun hs' e => by cases e; intro E n b h; cases h) (fun q fs As rest h hp hA hr => (call_V (i := i_7) (j := i_63) (C := RX2) (T := TX2) (N := 1) dX0_putNote_35 mok_63 rfl ⟨by decide, by decide⟩ np_63 rfl rfl wt_56 wt_57 wt_58 hp hA hr rfl).thr (fun _ => True.intro))⟩
theorem ok_7_5 : BkOK mi i_7 (bpf P_7) 5 (B_7.getD 5 bk0) := ⟨38, rfl, t_retV dX0_putNote_38 rfl⟩
theorem ok_7 : ∀ b, BkOK mi i_7 (bpf P_7) b (B_7.getD b bk0)
  | 0 => ok_7_0
  | 1 => ok_7_1
  | 2 => ok_7_2
  | 3 => ok_7_3
  | 4 => ok_7_4
  | 5 => ok_7_5
  | b + 6 => bk_none mi i_7 (bpf P_7) (b + 6)
theorem ok_8_0 : BkOK mi i_8 (bpf P_8) 0 (B_8.getD 0 bk0) := ⟨4, ⟨1, s_aload_n dX0_canShift_0 rfl, ⟨3, s_get (C := RX0) (T := TX0) (N := 10) dX0_canShift_1 rfl (by decide) wt_72 uw_X0, rfl⟩⟩, t_eq0 dX0_canShift_4 (by decide) rfl⟩
theorem ok_8_1 : BkOK mi i_8 (bpf P_8) 1 (B_8.getD 1 bk0) := ⟨8, ⟨1, s_aload_n dX0_canShift_7 rfl, rfl⟩, t_cv rfl mi_12 mok_12 rfl (fun _ => ⟨rfl, by decide +kernel⟩) (fun hs' e => by cases e; intro E n b h; cases h) (fun q fs As rest h hp hA hr => (call_V (i := i_8) (j := i_12) (C := RX0) (T := TX0) (N := 10) dX0_canShift_8 mok_12 rfl ⟨by decide, by decide⟩ np_12 rfl rfl wt_994 wt_776 wt_777 hp hA hr rfl).thr (fun _ => True.intro))⟩
theorem ok_8_2 : BkOK mi i_8 (bpf P_8) 2 (B_8.getD 2 bk0) := ⟨15, ⟨1, s_iload_n dX0_canShift_11 rfl, ⟨1, s_iadd dX0_canShift_12, ⟨2, s_bipush dX0_canShift_13 rfl, rfl⟩⟩⟩, t_lt dX0_canShift_15 (by decide) rfl⟩
theorem ok_8_3 : BkOK mi i_8 (bpf P_8) 3 (B_8.getD 3 bk0) := ⟨19, ⟨1, s_aload_n dX0_canShift_18 rfl, rfl⟩, t_cv rfl mi_13 mok_13 rfl (fun _ => ⟨rfl, by decide +kernel⟩) (fun hs' e => by cases e; intro E n b h; cases h) (fun q fs As rest h hp hA hr => (call_V (i := i_8) (j := i_13) (C := RX0) (T := TX0) (N := 10) dX0_canShift_19 mok_13 rfl ⟨by decide, by decide⟩ np_13 rfl rfl wt_995 wt_781 wt_782 hp hA hr rfl).thr (fun _ => True.intro))⟩
theorem ok_8_4 : BkOK mi i_8 (bpf P_8) 4 (B_8.getD 4 bk0) := ⟨26, ⟨1, s_iload_n dX0_canShift_22 rfl, ⟨1, s_iadd dX0_canShift_23, ⟨2, s_bipush dX0_canShift_24 rfl, rfl⟩⟩⟩, t_gt dX0_canShift_26 (by decide) rfl⟩
theorem ok_8_5 : BkOK mi i_8 (bpf P_8) 5 (B_8.getD 5 bk0) := ⟨30, ⟨1, s_iconst dX0_canShift_29 rfl, rfl⟩, t_go dX0_canShift_30 (by decide)⟩
theorem ok_8_6 : BkOK mi i_8 (bpf P_8) 6 (B_8.getD 6 bk0) := ⟨34, ⟨1, s_iconst dX0_canShift_33 rfl, rfl⟩, t_fall rfl⟩
theorem ok_8_7 : BkOK mi i_8 (bpf P_8) 7 (B_8.getD 7 bk0) := ⟨34, rfl, t_retZ dX0_canShift_34 rfl⟩
theorem ok_8 : ∀ b, BkOK mi i_8 (bpf P_8) b (B_8.getD b bk0)
  | 0 => ok_8_0
  | 1 => ok_8_1
  | 2 => ok_8_2
  | 3 => ok_8_3
  | 4 => ok_8_4
  | 5 => ok_8_5
  | 6 => ok_8_6
  | 7 => ok_8_7
  | b + 8 => bk_none mi i_8 (bpf P_8) (b + 8)
theorem ok_9_0 : BkOK mi i_9 (bpf P_9) 0 (B_9.getD 0 bk0) := ⟨2, ⟨1, s_iconst dX0_shift_0 rfl, ⟨1, s_istore_n dX0_shift_1 rfl (by decide), rfl⟩⟩, t_fall rfl⟩
theorem ok_9_1 : BkOK mi i_9 (bpf P_9) 1 (B_9.getD 1 bk0) := ⟨7, ⟨1, s_iload_n dX0_shift_2 rfl, ⟨1, s_aload_n dX0_shift_3 rfl, ⟨3, s_get (C := RX0) (T := TX0) (N := 10) dX0_shift_4 rfl (by decide) wt_72 uw_X0, rfl⟩⟩⟩, t_ge dX0_shift_7 (by decide) rfl⟩
theorem ok_9_2 : BkOK mi i_9 (bpf P_9) 2 (B_9.getD 2 bk0) := ⟨12, ⟨1, s_iconst dX0_shift_10 rfl, ⟨1, s_istore_n dX0_shift_11 rfl (by decide), rfl⟩⟩, t_fall rfl⟩
theorem ok_9_3 : BkOK mi i_9 (bpf P_9) 3 (B_9.getD 3 bk0) := ⟨18, ⟨1, s_iload_n dX0_shift_12 rfl, ⟨1, s_aload_n dX0_shift_13 rfl, ⟨3, s_get (C := RX0) (T := TX0) (N := 10) dX0_shift_14 rfl (by decide) wt_76 uw_X0, ⟨1, s_iload_n dX0_shift_17 rfl, rfl⟩⟩⟩⟩, t_cv rfl mi_62 mok_62 rfl (fun _ => ⟨rfl, by decide +kernel⟩) (fun hs' e => by cases e; intro E n b h; cases h) (fun q fs As rest h hp hA hr => (call_V (i := i_9) (j := i_62) (C := RX2) (T := TX2) (N := 1) dX0_shift_18 mok_62 rfl ⟨by decide, by decide⟩ np_62 rfl rfl wt_414 wt_277 wt_278 hp hA hr rfl).thr (fun _ => True.intro))⟩
theorem ok_9_4 : BkOK mi i_9 (bpf P_9) 4 (B_9.getD 4 bk0) := ⟨21, rfl, t_ge dX0_shift_21 (by decide) rfl⟩
theorem ok_9_5 : BkOK mi i_9 (bpf P_9) 5 (B_9.getD 5 bk0) := ⟨30, ⟨1, s_aload_n dX0_shift_24 rfl, ⟨3, s_get (C := RX0) (T := TX0) (N := 10) dX0_shift_25 rfl (by decide) wt_84 uw_X0, ⟨1, s_iload_n dX0_shift_28 rfl, ⟨1, s_iload_n dX0_shift_29 rfl, rfl⟩⟩⟩⟩, t_cs rfl mi_146 mok_146 rfl (fun As rest h hA hr => call_SN dX0_shift_30 mok_146 rfl ⟨by decide, by decide⟩ np_146 wt_415 wt_416 hA hr)⟩
theorem ok_9_6 : BkOK mi i_9 (bpf P_9) 6 (B_9.getD 6 bk0) := ⟨36, ⟨1, s_aload_n dX0_shift_33 rfl, ⟨1, s_iload_n dX0_shift_34 rfl, ⟨1, s_iload_n dX0_shift_35 rfl, rfl⟩⟩⟩, t_cv rfl mi_10 mok_10 rfl (fun _ => ⟨rfl, by decide +kernel⟩) (fun hs' e => by cases e; intro E n b h; cases h) (fun q fs As rest h hp hA hr => (call_V (i := i_9) (j := i_10) (C := RX0) (T := TX0) (N := 10) dX0_shift_36 mok_10 rfl ⟨by decide, by decide⟩ np_10 rfl rfl wt_508 wt_509 wt_510 hp hA hr rfl).thr (fun _ => True.intro))⟩
theorem ok_9_7 : BkOK mi i_9 (bpf P_9) 7 (B_9.getD 7 bk0) := ⟨41, ⟨1, s_iload_n dX0_shift_39 rfl, ⟨1, s_iadd dX0_shift_40, rfl⟩⟩, t_cv rfl mi_63 mok_63 rfl (fun _ => ⟨rfl, by decide +kernel⟩) (fun hs' e => by cases e; intro E n b h; cases h) (fun q fs As rest h hp hA hr => (call_V (i := i_9) (j := i_63) (C := RX2) (T := TX2) (N := 1) dX0_shift_41 mok_63 rfl ⟨by decide, by decide⟩ np_63 rfl rfl wt_56 wt_57 wt_58 hp hA hr rfl).thr (fun _ => True.intro))⟩
theorem ok_9_8 : BkOK mi i_9 (bpf P_9) 8 (B_9.getD 8 bk0) := ⟨47, ⟨3, s_iinc dX0_shift_44 rfl (by decide), rfl⟩, t_go dX0_shift_47 (by decide)⟩
theorem ok_9_9 : BkOK mi i_9 (bpf P_9) 9 (B_9.getD 9 bk0) := ⟨53, ⟨3, s_iinc dX0_shift_50 rfl (by decide), rfl⟩, t_go dX0_shift_53 (by decide)⟩
theorem ok_9_10 : BkOK mi i_9 (bpf P_9) 10 (B_9.getD 10 bk0) := ⟨56, rfl, t_retV dX0_shift_56 rfl⟩
theorem ok_9 : ∀ b, BkOK mi i_9 (bpf P_9) b (B_9.getD b bk0)
  | 0 => ok_9_0
  | 1 => ok_9_1
  | 2 => ok_9_2
  | 3 => ok_9_3
  | 4 => ok_9_4
  | 5 => ok_9_5
  | 6 => ok_9_6
  | 7 => ok_9_7
  | 8 => ok_9_8
  | 9 => ok_9_9
  | 10 => ok_9_10
  | b + 11 => bk_none mi i_9 (bpf P_9) (b + 11)
theorem ok_10_0 : BkOK mi i_10 (bpf P_10) 0 (B_10.getD 0 bk0) := ⟨6, ⟨1, s_aload_n dX0_keyOf_0 rfl, ⟨3, s_get (C := RX0) (T := TX0) (N := 10) dX0_keyOf_1 rfl (by decide) wt_84 uw_X0, ⟨1, s_iload_n dX0_keyOf_4 rfl, ⟨1, s_iload_n dX0_keyOf_5 rfl, rfl⟩⟩⟩⟩, t_cs rfl mi_146 mok_146 rfl (fun As rest h hA hr => call_SN dX0_keyOf_6 mok_146 rfl ⟨by decide, by decide⟩ np_146 wt_415 wt_416 hA hr)⟩
theorem ok_10_1 : BkOK mi i_10 (bpf P_10) 1 (B_10.getD 1 bk0) := ⟨9, rfl, t_cv rfl mi_62 mok_62 rfl (fun _ => ⟨rfl, by decide +kernel⟩) (fun hs' e => by cases e; intro E n b h; cases h) (fun q fs As rest h hp hA hr => (call_V (i := i_10) (j := i_62) (C := RX2) (T := TX2) (N := 1) dX0_keyOf_9 mok_62 rfl ⟨by decide, by decide⟩ np_62 rfl rfl wt_414 wt_277 wt_278 hp hA hr rfl).thr (fun _ => True.intro))⟩
theorem ok_10_2 : BkOK mi i_10 (bpf P_10) 2 (B_10.getD 2 bk0) := ⟨12, rfl, t_ret dX0_keyOf_12 rfl⟩
theorem ok_10 : ∀ b, BkOK mi i_10 (bpf P_10) b (B_10.getD b bk0)
  | 0 => ok_10_0
  | 1 => ok_10_1
  | 2 => ok_10_2
  | b + 3 => bk_none mi i_10 (bpf P_10) (b + 3)
theorem ok_11_0 : BkOK mi i_11 (bpf P_11) 0 (B_11.getD 0 bk0) := ⟨4, ⟨1, s_iconst dX0_allNotes_0 rfl, ⟨1, s_istore_n dX0_allNotes_1 rfl (by decide), ⟨1, s_iconst dX0_allNotes_2 rfl, ⟨1, s_istore_n dX0_allNotes_3 rfl (by decide), rfl⟩⟩⟩⟩, t_fall rfl⟩
theorem ok_11_1 : BkOK mi i_11 (bpf P_11) 1 (B_11.getD 1 bk0) := ⟨9, ⟨1, s_iload_n dX0_allNotes_4 rfl, ⟨1, s_aload_n dX0_allNotes_5 rfl, ⟨3, s_get (C := RX0) (T := TX0) (N := 10) dX0_allNotes_6 rfl (by decide) wt_72 uw_X0, rfl⟩⟩⟩, t_ge dX0_allNotes_9 (by decide) rfl⟩
theorem ok_11_2 : BkOK mi i_11 (bpf P_11) 2 (B_11.getD 2 bk0) := ⟨18, ⟨1, s_iload_n dX0_allNotes_12 rfl, ⟨1, s_aload_n dX0_allNotes_13 rfl, ⟨3, s_get (C := RX0) (T := TX0) (N := 10) dX0_allNotes_14 rfl (by decide) wt_76 uw_X0, ⟨1, s_iload_n dX0_allNotes_17 rfl, rfl⟩⟩⟩⟩, t_cv rfl mi_62 mok_62 rfl (fun _ => ⟨rfl, by decide +kernel⟩) (fun hs' e => by cases e; intro E n b h; cases h) (fun q fs As rest h hp hA hr => (call_V (i := i_11) (j := i_62) (C := RX2) (T := TX2) (N := 1) dX0_allNotes_18 mok_62 rfl ⟨by decide, by decide⟩ np_62 rfl rfl wt_414 wt_277 wt_278 hp hA hr rfl).thr (fun _ => True.intro))⟩
theorem ok_11_3 : BkOK mi i_11 (bpf P_11) 3 (B_11.getD 3 bk0) := ⟨26, ⟨1, s_iadd dX0_allNotes_21, ⟨1, s_istore_n dX0_allNotes_22 rfl (by decide), ⟨3, s_iinc dX0_allNotes_23 rfl (by decide), rfl⟩⟩⟩, t_go dX0_allNotes_26 (by decide)⟩
theorem ok_11_4 : BkOK mi i_11 (bpf P_11) 4 (B_11.getD 4 bk0) := ⟨30, ⟨1, s_iload_n dX0_allNotes_29 rfl, rfl⟩, t_ret dX0_allNotes_30 rfl⟩
theorem ok_11 : ∀ b, BkOK mi i_11 (bpf P_11) b (B_11.getD b bk0)
  | 0 => ok_11_0
  | 1 => ok_11_1
  | 2 => ok_11_2
  | 3 => ok_11_3
  | 4 => ok_11_4
  | b + 5 => bk_none mi i_11 (bpf P_11) (b + 5)
theorem ok_12_0 : BkOK mi i_12 (bpf P_12) 0 (B_12.getD 0 bk0) := ⟨4, ⟨1, s_iconst dX0_leastKey_0 rfl, ⟨1, s_istore_n dX0_leastKey_1 rfl (by decide), ⟨1, s_iconst dX0_leastKey_2 rfl, ⟨1, s_istore_n dX0_leastKey_3 rfl (by decide), rfl⟩⟩⟩⟩, t_fall rfl⟩
theorem ok_12_1 : BkOK mi i_12 (bpf P_12) 1 (B_12.getD 1 bk0) := ⟨9, ⟨1, s_iload_n dX0_leastKey_4 rfl, ⟨1, s_aload_n dX0_leastKey_5 rfl, ⟨3, s_get (C := RX0) (T := TX0) (N := 10) dX0_leastKey_6 rfl (by decide) wt_72 uw_X0, rfl⟩⟩⟩, t_ge dX0_leastKey_9 (by decide) rfl⟩
theorem ok_12_2 : BkOK mi i_12 (bpf P_12) 2 (B_12.getD 2 bk0) := ⟨16, ⟨1, s_iload_n dX0_leastKey_12 rfl, ⟨1, s_aload_n dX0_leastKey_13 rfl, ⟨1, s_iload_n dX0_leastKey_14 rfl, ⟨1, s_iconst dX0_leastKey_15 rfl, rfl⟩⟩⟩⟩, t_cv rfl mi_10 mok_10 rfl (fun _ => ⟨rfl, by decide +kernel⟩) (fun hs' e => by cases e; intro E n b h; cases h) (fun q fs As rest h hp hA hr => (call_V (i := i_12) (j := i_10) (C := RX0) (T := TX0) (N := 10) dX0_leastKey_16 mok_10 rfl ⟨by decide, by decide⟩ np_10 rfl rfl wt_508 wt_509 wt_510 hp hA hr rfl).thr (fun _ => True.intro))⟩
theorem ok_12_3 : BkOK mi i_12 (bpf P_12) 3 (B_12.getD 3 bk0) := ⟨19, rfl, t_cs rfl mi_149 mok_149 rfl (fun As rest h hA hr => call_SN dX0_leastKey_19 mok_149 rfl ⟨by decide, by decide⟩ np_149 wt_779 wt_576 hA hr)⟩
theorem ok_12_4 : BkOK mi i_12 (bpf P_12) 4 (B_12.getD 4 bk0) := ⟨26, ⟨1, s_istore_n dX0_leastKey_22 rfl (by decide), ⟨3, s_iinc dX0_leastKey_23 rfl (by decide), rfl⟩⟩, t_go dX0_leastKey_26 (by decide)⟩
theorem ok_12_5 : BkOK mi i_12 (bpf P_12) 5 (B_12.getD 5 bk0) := ⟨30, ⟨1, s_iload_n dX0_leastKey_29 rfl, rfl⟩, t_ret dX0_leastKey_30 rfl⟩
theorem ok_12 : ∀ b, BkOK mi i_12 (bpf P_12) b (B_12.getD b bk0)
  | 0 => ok_12_0
  | 1 => ok_12_1
  | 2 => ok_12_2
  | 3 => ok_12_3
  | 4 => ok_12_4
  | 5 => ok_12_5
  | b + 6 => bk_none mi i_12 (bpf P_12) (b + 6)
theorem ok_13_0 : BkOK mi i_13 (bpf P_13) 0 (B_13.getD 0 bk0) := ⟨4, ⟨1, s_iconst dX0_greatestKey_0 rfl, ⟨1, s_istore_n dX0_greatestKey_1 rfl (by decide), ⟨1, s_iconst dX0_greatestKey_2 rfl, ⟨1, s_istore_n dX0_greatestKey_3 rfl (by decide), rfl⟩⟩⟩⟩, t_fall rfl⟩
theorem ok_13_1 : BkOK mi i_13 (bpf P_13) 1 (B_13.getD 1 bk0) := ⟨9, ⟨1, s_iload_n dX0_greatestKey_4 rfl, ⟨1, s_aload_n dX0_greatestKey_5 rfl, ⟨3, s_get (C := RX0) (T := TX0) (N := 10) dX0_greatestKey_6 rfl (by decide) wt_72 uw_X0, rfl⟩⟩⟩, t_ge dX0_greatestKey_9 (by decide) rfl⟩
theorem ok_13_2 : BkOK mi i_13 (bpf P_13) 2 (B_13.getD 2 bk0) := ⟨20, ⟨1, s_iload_n dX0_greatestKey_12 rfl, ⟨1, s_aload_n dX0_greatestKey_13 rfl, ⟨1, s_iload_n dX0_greatestKey_14 rfl, ⟨1, s_aload_n dX0_greatestKey_15 rfl, ⟨3, s_get (C := RX0) (T := TX0) (N := 10) dX0_greatestKey_16 rfl (by decide) wt_76 uw_X0, ⟨1, s_iload_n dX0_greatestKey_19 rfl, rfl⟩⟩⟩⟩⟩⟩, t_cv rfl mi_62 mok_62 rfl (fun _ => ⟨rfl, by decide +kernel⟩) (fun hs' e => by cases e; intro E n b h; cases h) (fun q fs As rest h hp hA hr => (call_V (i := i_13) (j := i_62) (C := RX2) (T := TX2) (N := 1) dX0_greatestKey_20 mok_62 rfl ⟨by decide, by decide⟩ np_62 rfl rfl wt_414 wt_277 wt_278 hp hA hr rfl).thr (fun _ => True.intro))⟩
theorem ok_13_3 : BkOK mi i_13 (bpf P_13) 3 (B_13.getD 3 bk0) := ⟨25, ⟨1, s_iconst dX0_greatestKey_23 rfl, ⟨1, s_isub dX0_greatestKey_24, rfl⟩⟩, t_cv rfl mi_10 mok_10 rfl (fun _ => ⟨rfl, by decide +kernel⟩) (fun hs' e => by cases e; intro E n b h; cases h) (fun q fs As rest h hp hA hr => (call_V (i := i_13) (j := i_10) (C := RX0) (T := TX0) (N := 10) dX0_greatestKey_25 mok_10 rfl ⟨by decide, by decide⟩ np_10 rfl rfl wt_508 wt_509 wt_510 hp hA hr rfl).thr (fun _ => True.intro))⟩
theorem ok_13_4 : BkOK mi i_13 (bpf P_13) 4 (B_13.getD 4 bk0) := ⟨35, ⟨3, s_mmax dX0_greatestKey_28 wt_523x wt_43 wt_4 wt_44 ⟨by decide, by decide⟩, ⟨1, s_istore_n dX0_greatestKey_31 rfl (by decide), ⟨3, s_iinc dX0_greatestKey_32 rfl (by decide), rfl⟩⟩⟩, t_go dX0_greatestKey_35 (by decide)⟩
theorem ok_13_5 : BkOK mi i_13 (bpf P_13) 5 (B_13.getD 5 bk0) := ⟨39, ⟨1, s_iload_n dX0_greatestKey_38 rfl, rfl⟩, t_ret dX0_greatestKey_39 rfl⟩
theorem ok_13 : ∀ b, BkOK mi i_13 (bpf P_13) b (B_13.getD b bk0)
  | 0 => ok_13_0
  | 1 => ok_13_1
  | 2 => ok_13_2
  | 3 => ok_13_3
  | 4 => ok_13_4
  | 5 => ok_13_5
  | b + 6 => bk_none mi i_13 (bpf P_13) (b + 6)
theorem ok_14_0 : BkOK mi i_14 (bpf P_14) 0 (B_14.getD 0 bk0) := ⟨4, ⟨1, s_iconst dX0_blackNotes_0 rfl, ⟨1, s_istore_n dX0_blackNotes_1 rfl (by decide), ⟨1, s_iconst dX0_blackNotes_2 rfl, ⟨1, s_istore_n dX0_blackNotes_3 rfl (by decide), rfl⟩⟩⟩⟩, t_fall rfl⟩
theorem ok_14_1 : BkOK mi i_14 (bpf P_14) 1 (B_14.getD 1 bk0) := ⟨9, ⟨1, s_iload_n dX0_blackNotes_4 rfl, ⟨1, s_aload_n dX0_blackNotes_5 rfl, ⟨3, s_get (C := RX0) (T := TX0) (N := 10) dX0_blackNotes_6 rfl (by decide) wt_72 uw_X0, rfl⟩⟩⟩, t_ge dX0_blackNotes_9 (by decide) rfl⟩
theorem ok_14_2 : BkOK mi i_14 (bpf P_14) 2 (B_14.getD 2 bk0) := ⟨14, ⟨1, s_iconst dX0_blackNotes_12 rfl, ⟨1, s_istore_n dX0_blackNotes_13 rfl (by decide), rfl⟩⟩, t_fall rfl⟩
theorem ok_14_3 : BkOK mi i_14 (bpf P_14) 3 (B_14.getD 3 bk0) := ⟨20, ⟨1, s_iload_n dX0_blackNotes_14 rfl, ⟨1, s_aload_n dX0_blackNotes_15 rfl, ⟨3, s_get (C := RX0) (T := TX0) (N := 10) dX0_blackNotes_16 rfl (by decide) wt_76 uw_X0, ⟨1, s_iload_n dX0_blackNotes_19 rfl, rfl⟩⟩⟩⟩, t_cv rfl mi_62 mok_62 rfl (fun _ => ⟨rfl, by decide +kernel⟩) (fun hs' e => by cases e; intro E n b h; cases h) (fun q fs As rest h hp hA hr => (call_V (i := i_14) (j := i_62) (C := RX2) (T := TX2) (N := 1) dX0_blackNotes_20 mok_62 rfl ⟨by decide, by decide⟩ np_62 rfl rfl wt_414 wt_277 wt_278 hp hA hr rfl).thr (fun _ => True.intro))⟩
theorem ok_14_4 : BkOK mi i_14 (bpf P_14) 4 (B_14.getD 4 bk0) := ⟨23, rfl, t_ge dX0_blackNotes_23 (by decide) rfl⟩
theorem ok_14_5 : BkOK mi i_14 (bpf P_14) 5 (B_14.getD 5 bk0) := ⟨30, ⟨1, s_iload_n dX0_blackNotes_26 rfl, ⟨1, s_aload_n dX0_blackNotes_27 rfl, ⟨1, s_iload_n dX0_blackNotes_28 rfl, ⟨1, s_iload_n dX0_blackNotes_29 rfl, rfl⟩⟩⟩⟩, t_cv rfl mi_10 mok_10 rfl (fun _ => ⟨rfl, by decide +kernel⟩) (fun hs' e => by cases e; intro E n b h; cases h) (fun q fs As rest h hp hA hr => (call_V (i := i_14) (j := i_10) (C := RX0) (T := TX0) (N := 10) dX0_blackNotes_30 mok_10 rfl ⟨by decide, by decide⟩ np_10 rfl rfl wt_508 wt_509 wt_510 hp hA hr rfl).thr (fun _ => True.intro))⟩
theorem ok_14_6 : BkOK mi i_14 (bpf P_14) 6 (B_14.getD 6 bk0) := ⟨33, rfl, t_cs rfl mi_144 mok_144 rfl (fun As rest h hA hr => call_SN dX0_blackNotes_33 mok_144 rfl ⟨by decide, by decide⟩ np_144 wt_516 wt_517 hA hr)⟩
theorem ok_14_7 : BkOK mi i_14 (bpf P_14) 7 (B_14.getD 7 bk0) := ⟨36, rfl, t_eq0 dX0_blackNotes_36 (by decide) rfl⟩
theorem ok_14_8 : BkOK mi i_14 (bpf P_14) 8 (B_14.getD 8 bk0) := ⟨40, ⟨1, s_iconst dX0_blackNotes_39 rfl, rfl⟩, t_go dX0_blackNotes_40 (by decide)⟩
theorem ok_14_9 : BkOK mi i_14 (bpf P_14) 9 (B_14.getD 9 bk0) := ⟨44, ⟨1, s_iconst dX0_blackNotes_43 rfl, rfl⟩, t_fall rfl⟩
theorem ok_14_10 : BkOK mi i_14 (bpf P_14) 10 (B_14.getD 10 bk0) := ⟨49, ⟨1, s_iadd dX0_blackNotes_44, ⟨1, s_istore_n dX0_blackNotes_45 rfl (by decide), ⟨3, s_iinc dX0_blackNotes_46 rfl (by decide), rfl⟩⟩⟩, t_go dX0_blackNotes_49 (by decide)⟩
theorem ok_14_11 : BkOK mi i_14 (bpf P_14) 11 (B_14.getD 11 bk0) := ⟨55, ⟨3, s_iinc dX0_blackNotes_52 rfl (by decide), rfl⟩, t_go dX0_blackNotes_55 (by decide)⟩
theorem ok_14_12 : BkOK mi i_14 (bpf P_14) 12 (B_14.getD 12 bk0) := ⟨59, ⟨1, s_iload_n dX0_blackNotes_58 rfl, rfl⟩, t_ret dX0_blackNotes_59 rfl⟩
theorem ok_14 : ∀ b, BkOK mi i_14 (bpf P_14) b (B_14.getD b bk0)
  | 0 => ok_14_0
  | 1 => ok_14_1
  | 2 => ok_14_2
  | 3 => ok_14_3
  | 4 => ok_14_4
  | 5 => ok_14_5
  | 6 => ok_14_6
  | 7 => ok_14_7
  | 8 => ok_14_8
  | 9 => ok_14_9
  | 10 => ok_14_10
  | 11 => ok_14_11
  | 12 => ok_14_12
  | b + 13 => bk_none mi i_14 (bpf P_14) (b + 13)
theorem ok_15_0 : BkOK mi i_15 (bpf P_15) 0 (B_15.getD 0 bk0) := ⟨4, ⟨1, s_iconst dX0_freePassages_0 rfl, ⟨1, s_istore_n dX0_freePassages_1 rfl (by decide), ⟨1, s_iconst dX0_freePassages_2 rfl, ⟨1, s_istore_n dX0_freePassages_3 rfl (by decide), rfl⟩⟩⟩⟩, t_fall rfl⟩
theorem ok_15_1 : BkOK mi i_15 (bpf P_15) 1 (B_15.getD 1 bk0) := ⟨11, ⟨1, s_iload_n dX0_freePassages_4 rfl, ⟨1, s_aload_n dX0_freePassages_5 rfl, ⟨3, s_get (C := RX0) (T := TX0) (N := 10) dX0_freePassages_6 rfl (by decide) wt_72 uw_X0, ⟨1, s_iconst dX0_freePassages_9 rfl, ⟨1, s_isub dX0_freePassages_10, rfl⟩⟩⟩⟩⟩, t_ge dX0_freePassages_11 (by decide) rfl⟩
theorem ok_15_2 : BkOK mi i_15 (bpf P_15) 2 (B_15.getD 2 bk0) := ⟨21, ⟨1, s_iload_n dX0_freePassages_14 rfl, ⟨1, s_aload_n dX0_freePassages_15 rfl, ⟨1, s_aload_n dX0_freePassages_16 rfl, ⟨3, s_get (C := RX0) (T := TX0) (N := 10) dX0_freePassages_17 rfl (by decide) wt_80 uw_X0, ⟨1, s_iload_n dX0_freePassages_20 rfl, rfl⟩⟩⟩⟩⟩, t_cv rfl mi_62 mok_62 rfl (fun _ => ⟨rfl, by decide +kernel⟩) (fun hs' e => by cases e; intro E n b h; cases h) (fun q fs As rest h hp hA hr => (call_V (i := i_15) (j := i_62) (C := RX2) (T := TX2) (N := 1) dX0_freePassages_21 mok_62 rfl ⟨by decide, by decide⟩ np_62 rfl rfl wt_414 wt_277 wt_278 hp hA hr rfl).thr (fun _ => True.intro))⟩
theorem ok_15_3 : BkOK mi i_15 (bpf P_15) 3 (B_15.getD 3 bk0) := ⟨24, rfl, t_cv rfl mi_16 mok_16 rfl (fun _ => ⟨rfl, by decide +kernel⟩) (fun hs' e => by cases e; intro E n b h; cases h) (fun q fs As rest h hp hA hr => (call_V (i := i_15) (j := i_16) (C := RX0) (T := TX0) (N := 10) dX0_freePassages_24 mok_16 rfl ⟨by decide, by decide⟩ np_16 rfl rfl wt_540 wt_541 wt_542 hp hA hr rfl).thr (fun _ => True.intro))⟩
theorem ok_15_4 : BkOK mi i_15 (bpf P_15) 4 (B_15.getD 4 bk0) := ⟨27, rfl, t_eq0 dX0_freePassages_27 (by decide) rfl⟩
theorem ok_15_5 : BkOK mi i_15 (bpf P_15) 5 (B_15.getD 5 bk0) := ⟨31, ⟨1, s_iconst dX0_freePassages_30 rfl, rfl⟩, t_go dX0_freePassages_31 (by decide)⟩
theorem ok_15_6 : BkOK mi i_15 (bpf P_15) 6 (B_15.getD 6 bk0) := ⟨35, ⟨1, s_iconst dX0_freePassages_34 rfl, rfl⟩, t_fall rfl⟩
theorem ok_15_7 : BkOK mi i_15 (bpf P_15) 7 (B_15.getD 7 bk0) := ⟨40, ⟨1, s_iadd dX0_freePassages_35, ⟨1, s_istore_n dX0_freePassages_36 rfl (by decide), ⟨3, s_iinc dX0_freePassages_37 rfl (by decide), rfl⟩⟩⟩, t_go dX0_freePassages_40 (by decide)⟩
theorem ok_15_8 : BkOK mi i_15 (bpf P_15) 8 (B_15.getD 8 bk0) := ⟨44, ⟨1, s_iload_n dX0_freePassages_43 rfl, rfl⟩, t_ret dX0_freePassages_44 rfl⟩
theorem ok_15 : ∀ b, BkOK mi i_15 (bpf P_15) b (B_15.getD b bk0)
  | 0 => ok_15_0
  | 1 => ok_15_1
  | 2 => ok_15_2
  | 3 => ok_15_3
  | 4 => ok_15_4
  | 5 => ok_15_5
  | 6 => ok_15_6
  | 7 => ok_15_7
  | 8 => ok_15_8
  | b + 9 => bk_none mi i_15 (bpf P_15) (b + 9)
theorem ok_16_0 : BkOK mi i_16 (bpf P_16) 0 (B_16.getD 0 bk0) := ⟨7, ⟨1, s_iload_n dX0_isFree_0 rfl, ⟨1, s_aload_n dX0_isFree_1 rfl, ⟨3, s_get (C := RX0) (T := TX0) (N := 10) dX0_isFree_2 rfl (by decide) wt_88 uw_X0, ⟨2, s_bipush dX0_isFree_5 rfl, rfl⟩⟩⟩⟩, t_cv rfl mi_62 mok_62 rfl (fun _ => ⟨rfl, by decide +kernel⟩) (fun hs' e => by cases e; intro E n b h; cases h) (fun q fs As rest h hp hA hr => (call_V (i := i_16) (j := i_62) (C := RX2) (T := TX2) (N := 1) dX0_isFree_7 mok_62 rfl ⟨by decide, by decide⟩ np_62 rfl rfl wt_414 wt_277 wt_278 hp hA hr rfl).thr (fun _ => True.intro))⟩
theorem ok_16_1 : BkOK mi i_16 (bpf P_16) 1 (B_16.getD 1 bk0) := ⟨10, rfl, t_lt dX0_isFree_10 (by decide) rfl⟩
theorem ok_16_2 : BkOK mi i_16 (bpf P_16) 2 (B_16.getD 2 bk0) := ⟨14, ⟨1, s_iconst dX0_isFree_13 rfl, rfl⟩, t_go dX0_isFree_14 (by decide)⟩
theorem ok_16_3 : BkOK mi i_16 (bpf P_16) 3 (B_16.getD 3 bk0) := ⟨18, ⟨1, s_iconst dX0_isFree_17 rfl, rfl⟩, t_fall rfl⟩
theorem ok_16_4 : BkOK mi i_16 (bpf P_16) 4 (B_16.getD 4 bk0) := ⟨18, rfl, t_retZ dX0_isFree_18 rfl⟩
theorem ok_16 : ∀ b, BkOK mi i_16 (bpf P_16) b (B_16.getD b bk0)
  | 0 => ok_16_0
  | 1 => ok_16_1
  | 2 => ok_16_2
  | 3 => ok_16_3
  | 4 => ok_16_4
  | b + 5 => bk_none mi i_16 (bpf P_16) (b + 5)
theorem ok_17_0 : BkOK mi i_17 (bpf P_17) 0 (B_17.getD 0 bk0) := ⟨6, ⟨1, s_aload_n dX0_mayPlay_0 rfl, ⟨3, s_get (C := RX0) (T := TX0) (N := 10) dX0_mayPlay_1 rfl (by decide) wt_85 uw_X0, ⟨1, s_iload_n dX0_mayPlay_4 rfl, ⟨1, s_iload_n dX0_mayPlay_5 rfl, rfl⟩⟩⟩⟩, t_cs rfl mi_146 mok_146 rfl (fun As rest h hA hr => call_SN dX0_mayPlay_6 mok_146 rfl ⟨by decide, by decide⟩ np_146 wt_415 wt_416 hA hr)⟩
theorem ok_17_1 : BkOK mi i_17 (bpf P_17) 1 (B_17.getD 1 bk0) := ⟨9, rfl, t_cv rfl mi_62 mok_62 rfl (fun _ => ⟨rfl, by decide +kernel⟩) (fun hs' e => by cases e; intro E n b h; cases h) (fun q fs As rest h hp hA hr => (call_V (i := i_17) (j := i_62) (C := RX2) (T := TX2) (N := 1) dX0_mayPlay_9 mok_62 rfl ⟨by decide, by decide⟩ np_62 rfl rfl wt_414 wt_277 wt_278 hp hA hr rfl).thr (fun _ => True.intro))⟩
theorem ok_17_2 : BkOK mi i_17 (bpf P_17) 2 (B_17.getD 2 bk0) := ⟨13, ⟨1, s_iload_n dX0_mayPlay_12 rfl, rfl⟩, t_cs rfl mi_145 mok_145 rfl (fun As rest h hA hr => call_SN dX0_mayPlay_13 mok_145 rfl ⟨by decide, by decide⟩ np_145 wt_507 wt_438 hA hr)⟩
theorem ok_17_3 : BkOK mi i_17 (bpf P_17) 3 (B_17.getD 3 bk0) := ⟨17, ⟨1, s_iand dX0_mayPlay_16, rfl⟩, t_eq0 dX0_mayPlay_17 (by decide) rfl⟩
theorem ok_17_4 : BkOK mi i_17 (bpf P_17) 4 (B_17.getD 4 bk0) := ⟨21, ⟨1, s_iconst dX0_mayPlay_20 rfl, rfl⟩, t_go dX0_mayPlay_21 (by decide)⟩
theorem ok_17_5 : BkOK mi i_17 (bpf P_17) 5 (B_17.getD 5 bk0) := ⟨25, ⟨1, s_iconst dX0_mayPlay_24 rfl, rfl⟩, t_fall rfl⟩
theorem ok_17_6 : BkOK mi i_17 (bpf P_17) 6 (B_17.getD 6 bk0) := ⟨25, rfl, t_retZ dX0_mayPlay_25 rfl⟩
theorem ok_17 : ∀ b, BkOK mi i_17 (bpf P_17) b (B_17.getD b bk0)
  | 0 => ok_17_0
  | 1 => ok_17_1
  | 2 => ok_17_2
  | 3 => ok_17_3
  | 4 => ok_17_4
  | 5 => ok_17_5
  | 6 => ok_17_6
  | b + 7 => bk_none mi i_17 (bpf P_17) (b + 7)
theorem ok_18_0 : BkOK mi i_18 (bpf P_18) 0 (B_18.getD 0 bk0) := ⟨4, ⟨1, s_aload_n dX0_inOrder_0 rfl, ⟨3, s_get (C := RX0) (T := TX0) (N := 10) dX0_inOrder_1 rfl (by decide) wt_69 uw_X0, rfl⟩⟩, t_eq0 dX0_inOrder_4 (by decide) rfl⟩
theorem ok_18_1 : BkOK mi i_18 (bpf P_18) 1 (B_18.getD 1 bk0) := ⟨9, ⟨1, s_iload_n dX0_inOrder_7 rfl, ⟨1, s_iload_n dX0_inOrder_8 rfl, rfl⟩⟩, t_ge dX0_inOrder_9 (by decide) rfl⟩
theorem ok_18_2 : BkOK mi i_18 (bpf P_18) 2 (B_18.getD 2 bk0) := ⟨13, ⟨1, s_iconst dX0_inOrder_12 rfl, rfl⟩, t_go dX0_inOrder_13 (by decide)⟩
theorem ok_18_3 : BkOK mi i_18 (bpf P_18) 3 (B_18.getD 3 bk0) := ⟨17, ⟨1, s_iconst dX0_inOrder_16 rfl, rfl⟩, t_go dX0_inOrder_17 (by decide)⟩
theorem ok_18_4 : BkOK mi i_18 (bpf P_18) 4 (B_18.getD 4 bk0) := ⟨22, ⟨1, s_iload_n dX0_inOrder_20 rfl, ⟨1, s_iload_n dX0_inOrder_21 rfl, rfl⟩⟩, t_le dX0_inOrder_22 (by decide) rfl⟩
theorem ok_18_5 : BkOK mi i_18 (bpf P_18) 5 (B_18.getD 5 bk0) := ⟨26, ⟨1, s_iconst dX0_inOrder_25 rfl, rfl⟩, t_go dX0_inOrder_26 (by decide)⟩
theorem ok_18_6 : BkOK mi i_18 (bpf P_18) 6 (B_18.getD 6 bk0) := ⟨30, ⟨1, s_iconst dX0_inOrder_29 rfl, rfl⟩, t_fall rfl⟩
theorem ok_18_7 : BkOK mi i_18 (bpf P_18) 7 (B_18.getD 7 bk0) := ⟨30, rfl, t_retZ dX0_inOrder_30 rfl⟩
theorem ok_18 : ∀ b, BkOK mi i_18 (bpf P_18) b (B_18.getD b bk0)
  | 0 => ok_18_0
  | 1 => ok_18_1
  | 2 => ok_18_2
  | 3 => ok_18_3
  | 4 => ok_18_4
  | 5 => ok_18_5
  | 6 => ok_18_6
  | 7 => ok_18_7
  | b + 8 => bk_none mi i_18 (bpf P_18) (b + 8)
theorem ok_19_0 : BkOK mi i_19 (bpf P_19) 0 (B_19.getD 0 bk0) := ⟨6, ⟨1, s_iconst dX0_costOfEvent_0 rfl, ⟨2, s_istore dX0_costOfEvent_1 (by decide), ⟨1, s_iconst dX0_costOfEvent_3 rfl, ⟨2, s_istore dX0_costOfEvent_4 (by decide), rfl⟩⟩⟩⟩, t_fall rfl⟩
theorem ok_19_1 : BkOK mi i_19 (bpf P_19) 1 (B_19.getD 1 bk0) := ⟨13, ⟨2, s_iload dX0_costOfEvent_6, ⟨1, s_aload_n dX0_costOfEvent_8 rfl, ⟨3, s_get (C := RX0) (T := TX0) (N := 10) dX0_costOfEvent_9 rfl (by decide) wt_76 uw_X0, ⟨1, s_iload_n dX0_costOfEvent_12 rfl, rfl⟩⟩⟩⟩, t_cv rfl mi_62 mok_62 rfl (fun _ => ⟨rfl, by decide +kernel⟩) (fun hs' e => by cases e; intro E n b h; cases h) (fun q fs As rest h hp hA hr => (call_V (i := i_19) (j := i_62) (C := RX2) (T := TX2) (N := 1) dX0_costOfEvent_13 mok_62 rfl ⟨by decide, by decide⟩ np_62 rfl rfl wt_414 wt_277 wt_278 hp hA hr rfl).thr (fun _ => True.intro))⟩
theorem ok_19_2 : BkOK mi i_19 (bpf P_19) 2 (B_19.getD 2 bk0) := ⟨16, rfl, t_ge dX0_costOfEvent_16 (by decide) rfl⟩
theorem ok_19_3 : BkOK mi i_19 (bpf P_19) 3 (B_19.getD 3 bk0) := ⟨24, ⟨1, s_aload_n dX0_costOfEvent_19 rfl, ⟨1, s_iload_n dX0_costOfEvent_20 rfl, ⟨2, s_iload dX0_costOfEvent_21, ⟨1, s_iadd dX0_costOfEvent_23, rfl⟩⟩⟩⟩, t_cv rfl mi_62 mok_62 rfl (fun _ => ⟨rfl, by decide +kernel⟩) (fun hs' e => by cases e; intro E n b h; cases h) (fun q fs As rest h hp hA hr => (call_V (i := i_19) (j := i_62) (C := RX2) (T := TX2) (N := 1) dX0_costOfEvent_24 mok_62 rfl ⟨by decide, by decide⟩ np_62 rfl rfl wt_414 wt_277 wt_278 hp hA hr rfl).thr (fun _ => True.intro))⟩
theorem ok_19_4 : BkOK mi i_19 (bpf P_19) 4 (B_19.getD 4 bk0) := ⟨35, ⟨2, s_istore dX0_costOfEvent_27 (by decide), ⟨1, s_aload_n dX0_costOfEvent_29 rfl, ⟨1, s_iload_n dX0_costOfEvent_30 rfl, ⟨2, s_iload dX0_costOfEvent_31, ⟨2, s_iload dX0_costOfEvent_33, rfl⟩⟩⟩⟩⟩, t_cv rfl mi_17 mok_17 rfl (fun _ => ⟨rfl, by decide +kernel⟩) (fun hs' e => by cases e; intro E n b h; cases h) (fun q fs As rest h hp hA hr => (call_V (i := i_19) (j := i_17) (C := RX0) (T := TX0) (N := 10) dX0_costOfEvent_35 mok_17 rfl ⟨by decide, by decide⟩ np_17 rfl rfl wt_503 wt_504 wt_505 hp hA hr rfl).thr (fun _ => True.intro))⟩
theorem ok_19_5 : BkOK mi i_19 (bpf P_19) 5 (B_19.getD 5 bk0) := ⟨38, rfl, t_ne0 dX0_costOfEvent_38 (by decide) rfl⟩
theorem ok_19_6 : BkOK mi i_19 (bpf P_19) 6 (B_19.getD 6 bk0) := ⟨42, ⟨1, s_iconst dX0_costOfEvent_41 rfl, rfl⟩, t_ret dX0_costOfEvent_42 rfl⟩
theorem ok_19_7 : BkOK mi i_19 (bpf P_19) 7 (B_19.getD 7 bk0) := ⟨50, ⟨2, s_iload dX0_costOfEvent_43, ⟨1, s_aload_n dX0_costOfEvent_45 rfl, ⟨1, s_aload_n dX0_costOfEvent_46 rfl, ⟨1, s_iload_n dX0_costOfEvent_47 rfl, ⟨2, s_iload dX0_costOfEvent_48, rfl⟩⟩⟩⟩⟩, t_cv rfl mi_10 mok_10 rfl (fun _ => ⟨rfl, by decide +kernel⟩) (fun hs' e => by cases e; intro E n b h; cases h) (fun q fs As rest h hp hA hr => (call_V (i := i_19) (j := i_10) (C := RX0) (T := TX0) (N := 10) dX0_costOfEvent_50 mok_10 rfl ⟨by decide, by decide⟩ np_10 rfl rfl wt_508 wt_509 wt_510 hp hA hr rfl).thr (fun _ => True.intro))⟩
theorem ok_19_8 : BkOK mi i_19 (bpf P_19) 8 (B_19.getD 8 bk0) := ⟨58, ⟨2, s_iload dX0_costOfEvent_53, ⟨1, s_iadd dX0_costOfEvent_55, ⟨2, s_iload dX0_costOfEvent_56, rfl⟩⟩⟩, t_cv rfl mi_20 mok_20 rfl (fun _ => ⟨rfl, by decide +kernel⟩) (fun hs' e => by cases e; intro E n b h; cases h) (fun q fs As rest h hp hA hr => (call_V (i := i_19) (j := i_20) (C := RX0) (T := TX0) (N := 10) dX0_costOfEvent_58 mok_20 rfl ⟨by decide, by decide⟩ np_20 rfl rfl wt_512 wt_513 wt_514 hp hA hr rfl).thr (fun _ => True.intro))⟩
theorem ok_19_9 : BkOK mi i_19 (bpf P_19) 9 (B_19.getD 9 bk0) := ⟨66, ⟨1, s_iadd dX0_costOfEvent_61, ⟨2, s_istore dX0_costOfEvent_62 (by decide), ⟨2, s_iload dX0_costOfEvent_64, rfl⟩⟩⟩, t_ne0 dX0_costOfEvent_66 (by decide) rfl⟩
theorem ok_19_10 : BkOK mi i_19 (bpf P_19) 10 (B_19.getD 10 bk0) := ⟨69, rfl, t_go dX0_costOfEvent_69 (by decide)⟩
theorem ok_19_11 : BkOK mi i_19 (bpf P_19) 11 (B_19.getD 11 bk0) := ⟨79, ⟨1, s_aload_n dX0_costOfEvent_72 rfl, ⟨1, s_iload_n dX0_costOfEvent_73 rfl, ⟨2, s_iload dX0_costOfEvent_74, ⟨1, s_iadd dX0_costOfEvent_76, ⟨1, s_iconst dX0_costOfEvent_77 rfl, ⟨1, s_isub dX0_costOfEvent_78, rfl⟩⟩⟩⟩⟩⟩, t_cv rfl mi_62 mok_62 rfl (fun _ => ⟨rfl, by decide +kernel⟩) (fun hs' e => by cases e; intro E n b h; cases h) (fun q fs As rest h hp hA hr => (call_V (i := i_19) (j := i_62) (C := RX2) (T := TX2) (N := 1) dX0_costOfEvent_79 mok_62 rfl ⟨by decide, by decide⟩ np_62 rfl rfl wt_414 wt_277 wt_278 hp hA hr rfl).thr (fun _ => True.intro))⟩
theorem ok_19_12 : BkOK mi i_19 (bpf P_19) 12 (B_19.getD 12 bk0) := ⟨89, ⟨2, s_istore dX0_costOfEvent_82 (by decide), ⟨1, s_aload_n dX0_costOfEvent_84 rfl, ⟨1, s_aload_n dX0_costOfEvent_85 rfl, ⟨1, s_iload_n dX0_costOfEvent_86 rfl, ⟨2, s_iload dX0_costOfEvent_87, rfl⟩⟩⟩⟩⟩, t_cv rfl mi_10 mok_10 rfl (fun _ => ⟨rfl, by decide +kernel⟩) (fun hs' e => by cases e; intro E n b h; cases h) (fun q fs As rest h hp hA hr => (call_V (i := i_19) (j := i_10) (C := RX0) (T := TX0) (N := 10) dX0_costOfEvent_89 mok_10 rfl ⟨by decide, by decide⟩ np_10 rfl rfl wt_508 wt_509 wt_510 hp hA hr rfl).thr (fun _ => True.intro))⟩
theorem ok_19_13 : BkOK mi i_19 (bpf P_19) 13 (B_19.getD 13 bk0) := ⟨98, ⟨1, s_aload_n dX0_costOfEvent_92 rfl, ⟨1, s_iload_n dX0_costOfEvent_93 rfl, ⟨2, s_iload dX0_costOfEvent_94, ⟨1, s_iconst dX0_costOfEvent_96 rfl, ⟨1, s_isub dX0_costOfEvent_97, rfl⟩⟩⟩⟩⟩, t_cv rfl mi_10 mok_10 rfl (fun _ => ⟨rfl, by decide +kernel⟩) (fun hs' e => by cases e; intro E n b h; cases h) (fun q fs As rest h hp hA hr => (call_V (i := i_19) (j := i_10) (C := RX0) (T := TX0) (N := 10) dX0_costOfEvent_98 mok_10 rfl ⟨by decide, by decide⟩ np_10 rfl rfl wt_508 wt_509 wt_510 hp hA hr rfl).thr (fun _ => True.intro))⟩
theorem ok_19_14 : BkOK mi i_19 (bpf P_19) 14 (B_19.getD 14 bk0) := ⟨106, ⟨1, s_isub dX0_costOfEvent_101, ⟨2, s_iload dX0_costOfEvent_102, ⟨2, s_iload dX0_costOfEvent_104, rfl⟩⟩⟩, t_cv rfl mi_21 mok_21 rfl (fun _ => ⟨rfl, by decide +kernel⟩) (fun hs' e => by cases e; intro E n b h; cases h) (fun q fs As rest h hp hA hr => (call_V (i := i_19) (j := i_21) (C := RX0) (T := TX0) (N := 10) dX0_costOfEvent_106 mok_21 rfl ⟨by decide, by decide⟩ np_21 rfl rfl wt_519 wt_520 wt_521 hp hA hr rfl).thr (fun _ => True.intro))⟩
theorem ok_19_15 : BkOK mi i_19 (bpf P_19) 15 (B_19.getD 15 bk0) := ⟨116, ⟨2, s_istore dX0_costOfEvent_109 (by decide), ⟨1, s_aload_n dX0_costOfEvent_111 rfl, ⟨2, s_iload dX0_costOfEvent_112, ⟨2, s_iload dX0_costOfEvent_114, rfl⟩⟩⟩⟩, t_cv rfl mi_18 mok_18 rfl (fun _ => ⟨rfl, by decide +kernel⟩) (fun hs' e => by cases e; intro E n b h; cases h) (fun q fs As rest h hp hA hr => (call_V (i := i_19) (j := i_18) (C := RX0) (T := TX0) (N := 10) dX0_costOfEvent_116 mok_18 rfl ⟨by decide, by decide⟩ np_18 rfl rfl wt_524 wt_525 wt_526 hp hA hr rfl).thr (fun _ => True.intro))⟩
theorem ok_19_16 : BkOK mi i_19 (bpf P_19) 16 (B_19.getD 16 bk0) := ⟨119, rfl, t_eq0 dX0_costOfEvent_119 (by decide) rfl⟩
theorem ok_19_17 : BkOK mi i_19 (bpf P_19) 17 (B_19.getD 17 bk0) := ⟨125, ⟨2, s_iload dX0_costOfEvent_122, ⟨1, s_iconst dX0_costOfEvent_124 rfl, rfl⟩⟩, t_nei dX0_costOfEvent_125 (by decide) rfl⟩
theorem ok_19_18 : BkOK mi i_19 (bpf P_19) 18 (B_19.getD 18 bk0) := ⟨129, ⟨1, s_iconst dX0_costOfEvent_128 rfl, rfl⟩, t_ret dX0_costOfEvent_129 rfl⟩
theorem ok_19_19 : BkOK mi i_19 (bpf P_19) 19 (B_19.getD 19 bk0) := ⟨137, ⟨2, s_iload dX0_costOfEvent_130, ⟨2, s_iload dX0_costOfEvent_132, ⟨1, s_iadd dX0_costOfEvent_134, ⟨2, s_istore dX0_costOfEvent_135 (by decide), rfl⟩⟩⟩⟩, t_fall rfl⟩
theorem ok_19_20 : BkOK mi i_19 (bpf P_19) 20 (B_19.getD 20 bk0) := ⟨140, ⟨3, s_iinc dX0_costOfEvent_137 rfl (by decide), rfl⟩, t_go dX0_costOfEvent_140 (by decide)⟩
theorem ok_19_21 : BkOK mi i_19 (bpf P_19) 21 (B_19.getD 21 bk0) := ⟨145, ⟨2, s_iload dX0_costOfEvent_143, rfl⟩, t_ret dX0_costOfEvent_145 rfl⟩
theorem ok_19 : ∀ b, BkOK mi i_19 (bpf P_19) b (B_19.getD b bk0)
  | 0 => ok_19_0
  | 1 => ok_19_1
  | 2 => ok_19_2
  | 3 => ok_19_3
  | 4 => ok_19_4
  | 5 => ok_19_5
  | 6 => ok_19_6
  | 7 => ok_19_7
  | 8 => ok_19_8
  | 9 => ok_19_9
  | 10 => ok_19_10
  | 11 => ok_19_11
  | 12 => ok_19_12
  | 13 => ok_19_13
  | 14 => ok_19_14
  | 15 => ok_19_15
  | 16 => ok_19_16
  | 17 => ok_19_17
  | 18 => ok_19_18
  | 19 => ok_19_19
  | 20 => ok_19_20
  | 21 => ok_19_21
  | b + 22 => bk_none mi i_19 (bpf P_19) (b + 22)
theorem ok_20_0 : BkOK mi i_20 (bpf P_20) 0 (B_20.getD 0 bk0) := ⟨2, ⟨1, s_iload_n dX0_costOfNote_0 rfl, ⟨1, s_iconst dX0_costOfNote_1 rfl, rfl⟩⟩, t_nei dX0_costOfNote_2 (by decide) rfl⟩
theorem ok_20_1 : BkOK mi i_20 (bpf P_20) 1 (B_20.getD 1 bk0) := ⟨11, ⟨1, s_aload_n dX0_costOfNote_5 rfl, ⟨3, s_get (C := RX0) (T := TX0) (N := 10) dX0_costOfNote_6 rfl (by decide) wt_88 uw_X0, ⟨2, s_bipush dX0_costOfNote_9 rfl, rfl⟩⟩⟩, t_cv rfl mi_62 mok_62 rfl (fun _ => ⟨rfl, by decide +kernel⟩) (fun hs' e => by cases e; intro E n b h; cases h) (fun q fs As rest h hp hA hr => (call_V (i := i_20) (j := i_62) (C := RX2) (T := TX2) (N := 1) dX0_costOfNote_11 mok_62 rfl ⟨by decide, by decide⟩ np_62 rfl rfl wt_414 wt_277 wt_278 hp hA hr rfl).thr (fun _ => True.intro))⟩
theorem ok_20_2 : BkOK mi i_20 (bpf P_20) 2 (B_20.getD 2 bk0) := ⟨14, rfl, t_go dX0_costOfNote_14 (by decide)⟩
theorem ok_20_3 : BkOK mi i_20 (bpf P_20) 3 (B_20.getD 3 bk0) := ⟨18, ⟨1, s_iconst dX0_costOfNote_17 rfl, rfl⟩, t_fall rfl⟩
theorem ok_20_4 : BkOK mi i_20 (bpf P_20) 4 (B_20.getD 4 bk0) := ⟨21, ⟨1, s_istore_n dX0_costOfNote_18 rfl (by decide), ⟨1, s_iload_n dX0_costOfNote_19 rfl, ⟨1, s_iconst dX0_costOfNote_20 rfl, rfl⟩⟩⟩, t_eq dX0_costOfNote_21 (by decide) rfl⟩
theorem ok_20_5 : BkOK mi i_20 (bpf P_20) 5 (B_20.getD 5 bk0) := ⟨26, ⟨1, s_iload_n dX0_costOfNote_24 rfl, ⟨1, s_iconst dX0_costOfNote_25 rfl, rfl⟩⟩, t_nei dX0_costOfNote_26 (by decide) rfl⟩
theorem ok_20_6 : BkOK mi i_20 (bpf P_20) 6 (B_20.getD 6 bk0) := ⟨30, ⟨1, s_iload_n dX0_costOfNote_29 rfl, rfl⟩, t_cs rfl mi_144 mok_144 rfl (fun As rest h hA hr => call_SN dX0_costOfNote_30 mok_144 rfl ⟨by decide, by decide⟩ np_144 wt_516 wt_517 hA hr)⟩
theorem ok_20_7 : BkOK mi i_20 (bpf P_20) 7 (B_20.getD 7 bk0) := ⟨33, rfl, t_eq0 dX0_costOfNote_33 (by decide) rfl⟩
theorem ok_20_8 : BkOK mi i_20 (bpf P_20) 8 (B_20.getD 8 bk0) := ⟨42, ⟨1, s_iload_n dX0_costOfNote_36 rfl, ⟨1, s_aload_n dX0_costOfNote_37 rfl, ⟨3, s_get (C := RX0) (T := TX0) (N := 10) dX0_costOfNote_38 rfl (by decide) wt_88 uw_X0, ⟨1, s_iconst dX0_costOfNote_41 rfl, rfl⟩⟩⟩⟩, t_cv rfl mi_62 mok_62 rfl (fun _ => ⟨rfl, by decide +kernel⟩) (fun hs' e => by cases e; intro E n b h; cases h) (fun q fs As rest h hp hA hr => (call_V (i := i_20) (j := i_62) (C := RX2) (T := TX2) (N := 1) dX0_costOfNote_42 mok_62 rfl ⟨by decide, by decide⟩ np_62 rfl rfl wt_414 wt_277 wt_278 hp hA hr rfl).thr (fun _ => True.intro))⟩
theorem ok_20_9 : BkOK mi i_20 (bpf P_20) 9 (B_20.getD 9 bk0) := ⟨47, ⟨1, s_iadd dX0_costOfNote_45, ⟨1, s_istore_n dX0_costOfNote_46 rfl (by decide), rfl⟩⟩, t_fall rfl⟩
theorem ok_20_10 : BkOK mi i_20 (bpf P_20) 10 (B_20.getD 10 bk0) := ⟨48, ⟨1, s_iload_n dX0_costOfNote_47 rfl, rfl⟩, t_ret dX0_costOfNote_48 rfl⟩
theorem ok_20 : ∀ b, BkOK mi i_20 (bpf P_20) b (B_20.getD b bk0)
  | 0 => ok_20_0
  | 1 => ok_20_1
  | 2 => ok_20_2
  | 3 => ok_20_3
  | 4 => ok_20_4
  | 5 => ok_20_5
  | 6 => ok_20_6
  | 7 => ok_20_7
  | 8 => ok_20_8
  | 9 => ok_20_9
  | 10 => ok_20_10
  | b + 11 => bk_none mi i_20 (bpf P_20) (b + 11)
theorem ok_21_0 : BkOK mi i_21 (bpf P_21) 0 (B_21.getD 0 bk0) := ⟨2, ⟨1, s_iload_n dX0_costOfStretch_0 rfl, ⟨1, s_iload_n dX0_costOfStretch_1 rfl, rfl⟩⟩, t_cs rfl mi_147 mok_147 rfl (fun As rest h hA hr => call_SN dX0_costOfStretch_2 mok_147 rfl ⟨by decide, by decide⟩ np_147 wt_66 wt_67 hA hr)⟩
theorem ok_21_1 : BkOK mi i_21 (bpf P_21) 1 (B_21.getD 1 bk0) := ⟨14, ⟨2, s_istore dX0_costOfStretch_5 (by decide), ⟨1, s_iload_n dX0_costOfStretch_7 rfl, ⟨1, s_aload_n dX0_costOfStretch_8 rfl, ⟨3, s_get (C := RX0) (T := TX0) (N := 10) dX0_costOfStretch_9 rfl (by decide) wt_95 uw_X0, ⟨2, s_iload dX0_costOfStretch_12, rfl⟩⟩⟩⟩⟩, t_cv rfl mi_62 mok_62 rfl (fun _ => ⟨rfl, by decide +kernel⟩) (fun hs' e => by cases e; intro E n b h; cases h) (fun q fs As rest h hp hA hr => (call_V (i := i_21) (j := i_62) (C := RX2) (T := TX2) (N := 1) dX0_costOfStretch_14 mok_62 rfl ⟨by decide, by decide⟩ np_62 rfl rfl wt_414 wt_277 wt_278 hp hA hr rfl).thr (fun _ => True.intro))⟩
theorem ok_21_2 : BkOK mi i_21 (bpf P_21) 2 (B_21.getD 2 bk0) := ⟨17, rfl, t_le dX0_costOfStretch_17 (by decide) rfl⟩
theorem ok_21_3 : BkOK mi i_21 (bpf P_21) 3 (B_21.getD 3 bk0) := ⟨21, ⟨1, s_iconst dX0_costOfStretch_20 rfl, rfl⟩, t_ret dX0_costOfStretch_21 rfl⟩
theorem ok_21_4 : BkOK mi i_21 (bpf P_21) 4 (B_21.getD 4 bk0) := ⟨28, ⟨1, s_aload_n dX0_costOfStretch_22 rfl, ⟨3, s_get (C := RX0) (T := TX0) (N := 10) dX0_costOfStretch_23 rfl (by decide) wt_91 uw_X0, ⟨2, s_iload dX0_costOfStretch_26, rfl⟩⟩⟩, t_cv rfl mi_62 mok_62 rfl (fun _ => ⟨rfl, by decide +kernel⟩) (fun hs' e => by cases e; intro E n b h; cases h) (fun q fs As rest h hp hA hr => (call_V (i := i_21) (j := i_62) (C := RX2) (T := TX2) (N := 1) dX0_costOfStretch_28 mok_62 rfl ⟨by decide, by decide⟩ np_62 rfl rfl wt_414 wt_277 wt_278 hp hA hr rfl).thr (fun _ => True.intro))⟩
theorem ok_21_5 : BkOK mi i_21 (bpf P_21) 5 (B_21.getD 5 bk0) := ⟨42, ⟨1, s_iload_n dX0_costOfStretch_31 rfl, ⟨1, s_isub dX0_costOfStretch_32, ⟨2, s_istore dX0_costOfStretch_33 (by decide), ⟨1, s_iload_n dX0_costOfStretch_35 rfl, ⟨1, s_aload_n dX0_costOfStretch_36 rfl, ⟨3, s_get (C := RX0) (T := TX0) (N := 10) dX0_costOfStretch_37 rfl (by decide) wt_93 uw_X0, ⟨2, s_iload dX0_costOfStretch_40, rfl⟩⟩⟩⟩⟩⟩⟩, t_cv rfl mi_62 mok_62 rfl (fun _ => ⟨rfl, by decide +kernel⟩) (fun hs' e => by cases e; intro E n b h; cases h) (fun q fs As rest h hp hA hr => (call_V (i := i_21) (j := i_62) (C := RX2) (T := TX2) (N := 1) dX0_costOfStretch_42 mok_62 rfl ⟨by decide, by decide⟩ np_62 rfl rfl wt_414 wt_277 wt_278 hp hA hr rfl).thr (fun _ => True.intro))⟩
theorem ok_21_6 : BkOK mi i_21 (bpf P_21) 6 (B_21.getD 6 bk0) := ⟨53, ⟨1, s_isub dX0_costOfStretch_45, ⟨2, s_istore dX0_costOfStretch_46 (by decide), ⟨1, s_aload_n dX0_costOfStretch_48 rfl, ⟨3, s_get (C := RX0) (T := TX0) (N := 10) dX0_costOfStretch_49 rfl (by decide) wt_88 uw_X0, ⟨1, s_iconst dX0_costOfStretch_52 rfl, rfl⟩⟩⟩⟩⟩, t_cv rfl mi_62 mok_62 rfl (fun _ => ⟨rfl, by decide +kernel⟩) (fun hs' e => by cases e; intro E n b h; cases h) (fun q fs As rest h hp hA hr => (call_V (i := i_21) (j := i_62) (C := RX2) (T := TX2) (N := 1) dX0_costOfStretch_53 mok_62 rfl ⟨by decide, by decide⟩ np_62 rfl rfl wt_414 wt_277 wt_278 hp hA hr rfl).thr (fun _ => True.intro))⟩
theorem ok_21_7 : BkOK mi i_21 (bpf P_21) 7 (B_21.getD 7 bk0) := ⟨68, ⟨1, s_iconst dX0_costOfStretch_56 rfl, ⟨2, s_iload dX0_costOfStretch_57, ⟨2, s_iload dX0_costOfStretch_59, ⟨3, s_mmax dX0_costOfStretch_61 wt_523x wt_43 wt_4 wt_44 ⟨by decide, by decide⟩, ⟨3, s_mmax dX0_costOfStretch_64 wt_523x wt_43 wt_4 wt_44 ⟨by decide, by decide⟩, ⟨1, s_imul dX0_costOfStretch_67, rfl⟩⟩⟩⟩⟩⟩, t_ret dX0_costOfStretch_68 rfl⟩
theorem ok_21 : ∀ b, BkOK mi i_21 (bpf P_21) b (B_21.getD b bk0)
  | 0 => ok_21_0
  | 1 => ok_21_1
  | 2 => ok_21_2
  | 3 => ok_21_3
  | 4 => ok_21_4
  | 5 => ok_21_5
  | 6 => ok_21_6
  | 7 => ok_21_7
  | b + 8 => bk_none mi i_21 (bpf P_21) (b + 8)
theorem ok_22_0 : BkOK mi i_22 (bpf P_22) 0 (B_22.getD 0 bk0) := ⟨2, ⟨1, s_aload_n dX0_costOfPassage_0 rfl, ⟨1, s_iload_n dX0_costOfPassage_1 rfl, rfl⟩⟩, t_cv rfl mi_16 mok_16 rfl (fun _ => ⟨rfl, by decide +kernel⟩) (fun hs' e => by cases e; intro E n b h; cases h) (fun q fs As rest h hp hA hr => (call_V (i := i_22) (j := i_16) (C := RX0) (T := TX0) (N := 10) dX0_costOfPassage_2 mok_16 rfl ⟨by decide, by decide⟩ np_16 rfl rfl wt_540 wt_541 wt_542 hp hA hr rfl).thr (fun _ => True.intro))⟩
theorem ok_22_1 : BkOK mi i_22 (bpf P_22) 1 (B_22.getD 1 bk0) := ⟨5, rfl, t_eq0 dX0_costOfPassage_5 (by decide) rfl⟩
theorem ok_22_2 : BkOK mi i_22 (bpf P_22) 2 (B_22.getD 2 bk0) := ⟨9, ⟨1, s_iconst dX0_costOfPassage_8 rfl, rfl⟩, t_ret dX0_costOfPassage_9 rfl⟩
theorem ok_22_3 : BkOK mi i_22 (bpf P_22) 3 (B_22.getD 3 bk0) := ⟨16, ⟨1, s_iconst dX0_costOfPassage_10 rfl, ⟨2, s_istore dX0_costOfPassage_11 (by decide), ⟨1, s_iconst dX0_costOfPassage_13 rfl, ⟨2, s_istore dX0_costOfPassage_14 (by decide), rfl⟩⟩⟩⟩, t_fall rfl⟩
theorem ok_22_4 : BkOK mi i_22 (bpf P_22) 4 (B_22.getD 4 bk0) := ⟨20, ⟨2, s_iload dX0_costOfPassage_16, ⟨1, s_aload_n dX0_costOfPassage_18 rfl, ⟨1, s_iload_n dX0_costOfPassage_19 rfl, rfl⟩⟩⟩, t_cv rfl mi_24 mok_24 rfl (fun _ => ⟨rfl, by decide +kernel⟩) (fun hs' e => by cases e; intro E n b h; cases h) (fun q fs As rest h hp hA hr => (call_V (i := i_22) (j := i_24) (C := RX0) (T := TX0) (N := 10) dX0_costOfPassage_20 mok_24 rfl ⟨by decide, by decide⟩ np_24 rfl rfl wt_544 wt_545 wt_546 hp hA hr rfl).thr (fun _ => True.intro))⟩
theorem ok_22_5 : BkOK mi i_22 (bpf P_22) 5 (B_22.getD 5 bk0) := ⟨23, rfl, t_ge dX0_costOfPassage_23 (by decide) rfl⟩
theorem ok_22_6 : BkOK mi i_22 (bpf P_22) 6 (B_22.getD 6 bk0) := ⟨30, ⟨1, s_aload_n dX0_costOfPassage_26 rfl, ⟨1, s_iload_n dX0_costOfPassage_27 rfl, ⟨2, s_iload dX0_costOfPassage_28, rfl⟩⟩⟩, t_cv rfl mi_25 mok_25 rfl (fun _ => ⟨rfl, by decide +kernel⟩) (fun hs' e => by cases e; intro E n b h; cases h) (fun q fs As rest h hp hA hr => (call_V (i := i_22) (j := i_25) (C := RX0) (T := TX0) (N := 10) dX0_costOfPassage_30 mok_25 rfl ⟨by decide, by decide⟩ np_25 rfl rfl wt_548 wt_549 wt_550 hp hA hr rfl).thr (fun _ => True.intro))⟩
theorem ok_22_7 : BkOK mi i_22 (bpf P_22) 7 (B_22.getD 7 bk0) := ⟨41, ⟨2, s_istore dX0_costOfPassage_33 (by decide), ⟨1, s_aload_n dX0_costOfPassage_35 rfl, ⟨1, s_iload_n dX0_costOfPassage_36 rfl, ⟨1, s_iconst dX0_costOfPassage_37 rfl, ⟨1, s_iadd dX0_costOfPassage_38, ⟨2, s_iload dX0_costOfPassage_39, rfl⟩⟩⟩⟩⟩⟩, t_cv rfl mi_25 mok_25 rfl (fun _ => ⟨rfl, by decide +kernel⟩) (fun hs' e => by cases e; intro E n b h; cases h) (fun q fs As rest h hp hA hr => (call_V (i := i_22) (j := i_25) (C := RX0) (T := TX0) (N := 10) dX0_costOfPassage_41 mok_25 rfl ⟨by decide, by decide⟩ np_25 rfl rfl wt_548 wt_549 wt_550 hp hA hr rfl).thr (fun _ => True.intro))⟩
theorem ok_22_8 : BkOK mi i_22 (bpf P_22) 8 (B_22.getD 8 bk0) := ⟨53, ⟨2, s_istore dX0_costOfPassage_44 (by decide), ⟨1, s_aload_n dX0_costOfPassage_46 rfl, ⟨1, s_aload_n dX0_costOfPassage_47 rfl, ⟨2, s_iload dX0_costOfPassage_48, ⟨2, s_iload dX0_costOfPassage_50, ⟨1, s_iadd dX0_costOfPassage_52, rfl⟩⟩⟩⟩⟩⟩, t_cv rfl mi_62 mok_62 rfl (fun _ => ⟨rfl, by decide +kernel⟩) (fun hs' e => by cases e; intro E n b h; cases h) (fun q fs As rest h hp hA hr => (call_V (i := i_22) (j := i_62) (C := RX2) (T := TX2) (N := 1) dX0_costOfPassage_53 mok_62 rfl ⟨by decide, by decide⟩ np_62 rfl rfl wt_414 wt_277 wt_278 hp hA hr rfl).thr (fun _ => True.intro))⟩
theorem ok_22_9 : BkOK mi i_22 (bpf P_22) 9 (B_22.getD 9 bk0) := ⟨60, ⟨1, s_aload_n dX0_costOfPassage_56 rfl, ⟨1, s_iload_n dX0_costOfPassage_57 rfl, ⟨2, s_iload dX0_costOfPassage_58, rfl⟩⟩⟩, t_cv rfl mi_10 mok_10 rfl (fun _ => ⟨rfl, by decide +kernel⟩) (fun hs' e => by cases e; intro E n b h; cases h) (fun q fs As rest h hp hA hr => (call_V (i := i_22) (j := i_10) (C := RX0) (T := TX0) (N := 10) dX0_costOfPassage_60 mok_10 rfl ⟨by decide, by decide⟩ np_10 rfl rfl wt_508 wt_509 wt_510 hp hA hr rfl).thr (fun _ => True.intro))⟩
theorem ok_22_10 : BkOK mi i_22 (bpf P_22) 10 (B_22.getD 10 bk0) := ⟨69, ⟨1, s_aload_n dX0_costOfPassage_63 rfl, ⟨2, s_iload dX0_costOfPassage_64, ⟨2, s_iload dX0_costOfPassage_66, ⟨1, s_iadd dX0_costOfPassage_68, rfl⟩⟩⟩⟩, t_cv rfl mi_62 mok_62 rfl (fun _ => ⟨rfl, by decide +kernel⟩) (fun hs' e => by cases e; intro E n b h; cases h) (fun q fs As rest h hp hA hr => (call_V (i := i_22) (j := i_62) (C := RX2) (T := TX2) (N := 1) dX0_costOfPassage_69 mok_62 rfl ⟨by decide, by decide⟩ np_62 rfl rfl wt_414 wt_277 wt_278 hp hA hr rfl).thr (fun _ => True.intro))⟩
theorem ok_22_11 : BkOK mi i_22 (bpf P_22) 11 (B_22.getD 11 bk0) := ⟨78, ⟨1, s_aload_n dX0_costOfPassage_72 rfl, ⟨1, s_iload_n dX0_costOfPassage_73 rfl, ⟨1, s_iconst dX0_costOfPassage_74 rfl, ⟨1, s_iadd dX0_costOfPassage_75, ⟨2, s_iload dX0_costOfPassage_76, rfl⟩⟩⟩⟩⟩, t_cv rfl mi_10 mok_10 rfl (fun _ => ⟨rfl, by decide +kernel⟩) (fun hs' e => by cases e; intro E n b h; cases h) (fun q fs As rest h hp hA hr => (call_V (i := i_22) (j := i_10) (C := RX0) (T := TX0) (N := 10) dX0_costOfPassage_78 mok_10 rfl ⟨by decide, by decide⟩ np_10 rfl rfl wt_508 wt_509 wt_510 hp hA hr rfl).thr (fun _ => True.intro))⟩
theorem ok_22_12 : BkOK mi i_22 (bpf P_22) 12 (B_22.getD 12 bk0) := ⟨81, rfl, t_cv rfl mi_26 mok_26 rfl (fun _ => ⟨rfl, by decide +kernel⟩) (fun hs' e => by cases e; intro E n b h; cases h) (fun q fs As rest h hp hA hr => (call_V (i := i_22) (j := i_26) (C := RX0) (T := TX0) (N := 10) dX0_costOfPassage_81 mok_26 rfl ⟨by decide, by decide⟩ np_26 rfl rfl wt_552 wt_553 wt_554 hp hA hr rfl).thr (fun _ => True.intro))⟩
theorem ok_22_13 : BkOK mi i_22 (bpf P_22) 13 (B_22.getD 13 bk0) := ⟨89, ⟨2, s_istore dX0_costOfPassage_84 (by decide), ⟨2, s_iload dX0_costOfPassage_86, ⟨1, s_iconst dX0_costOfPassage_88 rfl, rfl⟩⟩⟩, t_nei dX0_costOfPassage_89 (by decide) rfl⟩
theorem ok_22_14 : BkOK mi i_22 (bpf P_22) 14 (B_22.getD 14 bk0) := ⟨93, ⟨1, s_iconst dX0_costOfPassage_92 rfl, rfl⟩, t_ret dX0_costOfPassage_93 rfl⟩
theorem ok_22_15 : BkOK mi i_22 (bpf P_22) 15 (B_22.getD 15 bk0) := ⟨104, ⟨2, s_iload dX0_costOfPassage_94, ⟨2, s_iload dX0_costOfPassage_96, ⟨1, s_iadd dX0_costOfPassage_98, ⟨2, s_istore dX0_costOfPassage_99 (by decide), ⟨3, s_iinc dX0_costOfPassage_101 rfl (by decide), rfl⟩⟩⟩⟩⟩, t_go dX0_costOfPassage_104 (by decide)⟩
theorem ok_22_16 : BkOK mi i_22 (bpf P_22) 16 (B_22.getD 16 bk0) := ⟨116, ⟨1, s_iconst dX0_costOfPassage_107 rfl, ⟨2, s_iload dX0_costOfPassage_108, ⟨1, s_aload_n dX0_costOfPassage_110 rfl, ⟨3, s_get (C := RX0) (T := TX0) (N := 10) dX0_costOfPassage_111 rfl (by decide) wt_88 uw_X0, ⟨2, s_bipush dX0_costOfPassage_114 rfl, rfl⟩⟩⟩⟩⟩, t_cv rfl mi_62 mok_62 rfl (fun _ => ⟨rfl, by decide +kernel⟩) (fun hs' e => by cases e; intro E n b h; cases h) (fun q fs As rest h hp hA hr => (call_V (i := i_22) (j := i_62) (C := RX2) (T := TX2) (N := 1) dX0_costOfPassage_116 mok_62 rfl ⟨by decide, by decide⟩ np_62 rfl rfl wt_414 wt_277 wt_278 hp hA hr rfl).thr (fun _ => True.intro))⟩
theorem ok_22_17 : BkOK mi i_22 (bpf P_22) 17 (B_22.getD 17 bk0) := ⟨125, ⟨1, s_iload_n dX0_costOfPassage_119 rfl, ⟨1, s_imul dX0_costOfPassage_120, ⟨1, s_isub dX0_costOfPassage_121, ⟨3, s_mmax dX0_costOfPassage_122 wt_523x wt_43 wt_4 wt_44 ⟨by decide, by decide⟩, rfl⟩⟩⟩⟩, t_ret dX0_costOfPassage_125 rfl⟩
theorem ok_22 : ∀ b, BkOK mi i_22 (bpf P_22) b (B_22.getD b bk0)
  | 0 => ok_22_0
  | 1 => ok_22_1
  | 2 => ok_22_2
  | 3 => ok_22_3
  | 4 => ok_22_4
  | 5 => ok_22_5
  | 6 => ok_22_6
  | 7 => ok_22_7
  | 8 => ok_22_8
  | 9 => ok_22_9
  | 10 => ok_22_10
  | 11 => ok_22_11
  | 12 => ok_22_12
  | 13 => ok_22_13
  | 14 => ok_22_14
  | 15 => ok_22_15
  | 16 => ok_22_16
  | 17 => ok_22_17
  | b + 18 => bk_none mi i_22 (bpf P_22) (b + 18)
theorem ok_23_0 : BkOK mi i_23 (bpf P_23) 0 (B_23.getD 0 bk0) := ⟨6, ⟨1, s_aload_n dX0_crossings_0 rfl, ⟨1, s_aload_n dX0_crossings_1 rfl, ⟨3, s_get (C := RX0) (T := TX0) (N := 10) dX0_crossings_2 rfl (by decide) wt_80 uw_X0, ⟨1, s_iload_n dX0_crossings_5 rfl, rfl⟩⟩⟩⟩, t_cv rfl mi_62 mok_62 rfl (fun _ => ⟨rfl, by decide +kernel⟩) (fun hs' e => by cases e; intro E n b h; cases h) (fun q fs As rest h hp hA hr => (call_V (i := i_23) (j := i_62) (C := RX2) (T := TX2) (N := 1) dX0_crossings_6 mok_62 rfl ⟨by decide, by decide⟩ np_62 rfl rfl wt_414 wt_277 wt_278 hp hA hr rfl).thr (fun _ => True.intro))⟩
theorem ok_23_1 : BkOK mi i_23 (bpf P_23) 1 (B_23.getD 1 bk0) := ⟨9, rfl, t_cv rfl mi_16 mok_16 rfl (fun _ => ⟨rfl, by decide +kernel⟩) (fun hs' e => by cases e; intro E n b h; cases h) (fun q fs As rest h hp hA hr => (call_V (i := i_23) (j := i_16) (C := RX0) (T := TX0) (N := 10) dX0_crossings_9 mok_16 rfl ⟨by decide, by decide⟩ np_16 rfl rfl wt_540 wt_541 wt_542 hp hA hr rfl).thr (fun _ => True.intro))⟩
theorem ok_23_2 : BkOK mi i_23 (bpf P_23) 2 (B_23.getD 2 bk0) := ⟨12, rfl, t_eq0 dX0_crossings_12 (by decide) rfl⟩
theorem ok_23_3 : BkOK mi i_23 (bpf P_23) 3 (B_23.getD 3 bk0) := ⟨16, ⟨1, s_iconst dX0_crossings_15 rfl, rfl⟩, t_ret dX0_crossings_16 rfl⟩
theorem ok_23_4 : BkOK mi i_23 (bpf P_23) 4 (B_23.getD 4 bk0) := ⟨23, ⟨1, s_iconst dX0_crossings_17 rfl, ⟨2, s_istore dX0_crossings_18 (by decide), ⟨1, s_iconst dX0_crossings_20 rfl, ⟨2, s_istore dX0_crossings_21 (by decide), rfl⟩⟩⟩⟩, t_fall rfl⟩
theorem ok_23_5 : BkOK mi i_23 (bpf P_23) 5 (B_23.getD 5 bk0) := ⟨27, ⟨2, s_iload dX0_crossings_23, ⟨1, s_aload_n dX0_crossings_25 rfl, ⟨1, s_iload_n dX0_crossings_26 rfl, rfl⟩⟩⟩, t_cv rfl mi_24 mok_24 rfl (fun _ => ⟨rfl, by decide +kernel⟩) (fun hs' e => by cases e; intro E n b h; cases h) (fun q fs As rest h hp hA hr => (call_V (i := i_23) (j := i_24) (C := RX0) (T := TX0) (N := 10) dX0_crossings_27 mok_24 rfl ⟨by decide, by decide⟩ np_24 rfl rfl wt_544 wt_545 wt_546 hp hA hr rfl).thr (fun _ => True.intro))⟩
theorem ok_23_6 : BkOK mi i_23 (bpf P_23) 6 (B_23.getD 6 bk0) := ⟨30, rfl, t_ge dX0_crossings_30 (by decide) rfl⟩
theorem ok_23_7 : BkOK mi i_23 (bpf P_23) 7 (B_23.getD 7 bk0) := ⟨37, ⟨1, s_aload_n dX0_crossings_33 rfl, ⟨1, s_iload_n dX0_crossings_34 rfl, ⟨2, s_iload dX0_crossings_35, rfl⟩⟩⟩, t_cv rfl mi_25 mok_25 rfl (fun _ => ⟨rfl, by decide +kernel⟩) (fun hs' e => by cases e; intro E n b h; cases h) (fun q fs As rest h hp hA hr => (call_V (i := i_23) (j := i_25) (C := RX0) (T := TX0) (N := 10) dX0_crossings_37 mok_25 rfl ⟨by decide, by decide⟩ np_25 rfl rfl wt_548 wt_549 wt_550 hp hA hr rfl).thr (fun _ => True.intro))⟩
theorem ok_23_8 : BkOK mi i_23 (bpf P_23) 8 (B_23.getD 8 bk0) := ⟨48, ⟨2, s_istore dX0_crossings_40 (by decide), ⟨1, s_aload_n dX0_crossings_42 rfl, ⟨1, s_iload_n dX0_crossings_43 rfl, ⟨1, s_iconst dX0_crossings_44 rfl, ⟨1, s_iadd dX0_crossings_45, ⟨2, s_iload dX0_crossings_46, rfl⟩⟩⟩⟩⟩⟩, t_cv rfl mi_25 mok_25 rfl (fun _ => ⟨rfl, by decide +kernel⟩) (fun hs' e => by cases e; intro E n b h; cases h) (fun q fs As rest h hp hA hr => (call_V (i := i_23) (j := i_25) (C := RX0) (T := TX0) (N := 10) dX0_crossings_48 mok_25 rfl ⟨by decide, by decide⟩ np_25 rfl rfl wt_548 wt_549 wt_550 hp hA hr rfl).thr (fun _ => True.intro))⟩
theorem ok_23_9 : BkOK mi i_23 (bpf P_23) 9 (B_23.getD 9 bk0) := ⟨59, ⟨2, s_istore dX0_crossings_51 (by decide), ⟨1, s_aload_n dX0_crossings_53 rfl, ⟨1, s_aload_n dX0_crossings_54 rfl, ⟨1, s_iload_n dX0_crossings_55 rfl, ⟨2, s_iload dX0_crossings_56, ⟨1, s_iadd dX0_crossings_58, rfl⟩⟩⟩⟩⟩⟩, t_cv rfl mi_62 mok_62 rfl (fun _ => ⟨rfl, by decide +kernel⟩) (fun hs' e => by cases e; intro E n b h; cases h) (fun q fs As rest h hp hA hr => (call_V (i := i_23) (j := i_62) (C := RX2) (T := TX2) (N := 1) dX0_crossings_59 mok_62 rfl ⟨by decide, by decide⟩ np_62 rfl rfl wt_414 wt_277 wt_278 hp hA hr rfl).thr (fun _ => True.intro))⟩
theorem ok_23_10 : BkOK mi i_23 (bpf P_23) 10 (B_23.getD 10 bk0) := ⟨66, ⟨1, s_aload_n dX0_crossings_62 rfl, ⟨1, s_iload_n dX0_crossings_63 rfl, ⟨2, s_iload dX0_crossings_64, rfl⟩⟩⟩, t_cv rfl mi_10 mok_10 rfl (fun _ => ⟨rfl, by decide +kernel⟩) (fun hs' e => by cases e; intro E n b h; cases h) (fun q fs As rest h hp hA hr => (call_V (i := i_23) (j := i_10) (C := RX0) (T := TX0) (N := 10) dX0_crossings_66 mok_10 rfl ⟨by decide, by decide⟩ np_10 rfl rfl wt_508 wt_509 wt_510 hp hA hr rfl).thr (fun _ => True.intro))⟩
theorem ok_23_11 : BkOK mi i_23 (bpf P_23) 11 (B_23.getD 11 bk0) := ⟨75, ⟨1, s_aload_n dX0_crossings_69 rfl, ⟨2, s_iload dX0_crossings_70, ⟨2, s_iload dX0_crossings_72, ⟨1, s_iadd dX0_crossings_74, rfl⟩⟩⟩⟩, t_cv rfl mi_62 mok_62 rfl (fun _ => ⟨rfl, by decide +kernel⟩) (fun hs' e => by cases e; intro E n b h; cases h) (fun q fs As rest h hp hA hr => (call_V (i := i_23) (j := i_62) (C := RX2) (T := TX2) (N := 1) dX0_crossings_75 mok_62 rfl ⟨by decide, by decide⟩ np_62 rfl rfl wt_414 wt_277 wt_278 hp hA hr rfl).thr (fun _ => True.intro))⟩
theorem ok_23_12 : BkOK mi i_23 (bpf P_23) 12 (B_23.getD 12 bk0) := ⟨84, ⟨1, s_aload_n dX0_crossings_78 rfl, ⟨1, s_iload_n dX0_crossings_79 rfl, ⟨1, s_iconst dX0_crossings_80 rfl, ⟨1, s_iadd dX0_crossings_81, ⟨2, s_iload dX0_crossings_82, rfl⟩⟩⟩⟩⟩, t_cv rfl mi_10 mok_10 rfl (fun _ => ⟨rfl, by decide +kernel⟩) (fun hs' e => by cases e; intro E n b h; cases h) (fun q fs As rest h hp hA hr => (call_V (i := i_23) (j := i_10) (C := RX0) (T := TX0) (N := 10) dX0_crossings_84 mok_10 rfl ⟨by decide, by decide⟩ np_10 rfl rfl wt_508 wt_509 wt_510 hp hA hr rfl).thr (fun _ => True.intro))⟩
theorem ok_23_13 : BkOK mi i_23 (bpf P_23) 13 (B_23.getD 13 bk0) := ⟨87, rfl, t_cv rfl mi_27 mok_27 rfl (fun _ => ⟨rfl, by decide +kernel⟩) (fun hs' e => by cases e; intro E n b h; cases h) (fun q fs As rest h hp hA hr => (call_V (i := i_23) (j := i_27) (C := RX0) (T := TX0) (N := 10) dX0_crossings_87 mok_27 rfl ⟨by decide, by decide⟩ np_27 rfl rfl wt_559 wt_560 wt_561 hp hA hr rfl).thr (fun _ => True.intro))⟩
theorem ok_23_14 : BkOK mi i_23 (bpf P_23) 14 (B_23.getD 14 bk0) := ⟨97, ⟨2, s_istore dX0_crossings_90 (by decide), ⟨2, s_iload dX0_crossings_92, ⟨2, s_iload dX0_crossings_94, ⟨1, s_iconst dX0_crossings_96 rfl, rfl⟩⟩⟩⟩, t_nei dX0_crossings_97 (by decide) rfl⟩
theorem ok_23_15 : BkOK mi i_23 (bpf P_23) 15 (B_23.getD 15 bk0) := ⟨101, ⟨1, s_iconst dX0_crossings_100 rfl, rfl⟩, t_go dX0_crossings_101 (by decide)⟩
theorem ok_23_16 : BkOK mi i_23 (bpf P_23) 16 (B_23.getD 16 bk0) := ⟨105, ⟨1, s_iconst dX0_crossings_104 rfl, rfl⟩, t_fall rfl⟩
theorem ok_23_17 : BkOK mi i_23 (bpf P_23) 17 (B_23.getD 17 bk0) := ⟨111, ⟨1, s_iadd dX0_crossings_105, ⟨2, s_istore dX0_crossings_106 (by decide), ⟨3, s_iinc dX0_crossings_108 rfl (by decide), rfl⟩⟩⟩, t_go dX0_crossings_111 (by decide)⟩
theorem ok_23_18 : BkOK mi i_23 (bpf P_23) 18 (B_23.getD 18 bk0) := ⟨116, ⟨2, s_iload dX0_crossings_114, rfl⟩, t_ret dX0_crossings_116 rfl⟩
theorem ok_23 : ∀ b, BkOK mi i_23 (bpf P_23) b (B_23.getD b bk0)
  | 0 => ok_23_0
  | 1 => ok_23_1
  | 2 => ok_23_2
  | 3 => ok_23_3
  | 4 => ok_23_4
  | 5 => ok_23_5
  | 6 => ok_23_6
  | 7 => ok_23_7
  | 8 => ok_23_8
  | 9 => ok_23_9
  | 10 => ok_23_10
  | 11 => ok_23_11
  | 12 => ok_23_12
  | 13 => ok_23_13
  | 14 => ok_23_14
  | 15 => ok_23_15
  | 16 => ok_23_16
  | 17 => ok_23_17
  | 18 => ok_23_18
  | b + 19 => bk_none mi i_23 (bpf P_23) (b + 19)
theorem ok_24_0 : BkOK mi i_24 (bpf P_24) 0 (B_24.getD 0 bk0) := ⟨5, ⟨1, s_aload_n dX0_endsOf_0 rfl, ⟨3, s_get (C := RX0) (T := TX0) (N := 10) dX0_endsOf_1 rfl (by decide) wt_76 uw_X0, ⟨1, s_iload_n dX0_endsOf_4 rfl, rfl⟩⟩⟩, t_cv rfl mi_62 mok_62 rfl (fun _ => ⟨rfl, by decide +kernel⟩) (fun hs' e => by cases e; intro E n b h; cases h) (fun q fs As rest h hp hA hr => (call_V (i := i_24) (j := i_62) (C := RX2) (T := TX2) (N := 1) dX0_endsOf_5 mok_62 rfl ⟨by decide, by decide⟩ np_62 rfl rfl wt_414 wt_277 wt_278 hp hA hr rfl).thr (fun _ => True.intro))⟩
theorem ok_24_1 : BkOK mi i_24 (bpf P_24) 1 (B_24.getD 1 bk0) := ⟨9, ⟨1, s_iconst dX0_endsOf_8 rfl, rfl⟩, t_gt dX0_endsOf_9 (by decide) rfl⟩
theorem ok_24_2 : BkOK mi i_24 (bpf P_24) 2 (B_24.getD 2 bk0) := ⟨19, ⟨1, s_aload_n dX0_endsOf_12 rfl, ⟨3, s_get (C := RX0) (T := TX0) (N := 10) dX0_endsOf_13 rfl (by decide) wt_76 uw_X0, ⟨1, s_iload_n dX0_endsOf_16 rfl, ⟨1, s_iconst dX0_endsOf_17 rfl, ⟨1, s_iadd dX0_endsOf_18, rfl⟩⟩⟩⟩⟩, t_cv rfl mi_62 mok_62 rfl (fun _ => ⟨rfl, by decide +kernel⟩) (fun hs' e => by cases e; intro E n b h; cases h) (fun q fs As rest h hp hA hr => (call_V (i := i_24) (j := i_62) (C := RX2) (T := TX2) (N := 1) dX0_endsOf_19 mok_62 rfl ⟨by decide, by decide⟩ np_62 rfl rfl wt_414 wt_277 wt_278 hp hA hr rfl).thr (fun _ => True.intro))⟩
theorem ok_24_3 : BkOK mi i_24 (bpf P_24) 3 (B_24.getD 3 bk0) := ⟨23, ⟨1, s_iconst dX0_endsOf_22 rfl, rfl⟩, t_le dX0_endsOf_23 (by decide) rfl⟩
theorem ok_24_4 : BkOK mi i_24 (bpf P_24) 4 (B_24.getD 4 bk0) := ⟨27, ⟨1, s_iconst dX0_endsOf_26 rfl, rfl⟩, t_go dX0_endsOf_27 (by decide)⟩
theorem ok_24_5 : BkOK mi i_24 (bpf P_24) 5 (B_24.getD 5 bk0) := ⟨31, ⟨1, s_iconst dX0_endsOf_30 rfl, rfl⟩, t_fall rfl⟩
theorem ok_24_6 : BkOK mi i_24 (bpf P_24) 6 (B_24.getD 6 bk0) := ⟨31, rfl, t_ret dX0_endsOf_31 rfl⟩
theorem ok_24 : ∀ b, BkOK mi i_24 (bpf P_24) b (B_24.getD b bk0)
  | 0 => ok_24_0
  | 1 => ok_24_1
  | 2 => ok_24_2
  | 3 => ok_24_3
  | 4 => ok_24_4
  | 5 => ok_24_5
  | 6 => ok_24_6
  | b + 7 => bk_none mi i_24 (bpf P_24) (b + 7)
theorem ok_25_0 : BkOK mi i_25 (bpf P_25) 0 (B_25.getD 0 bk0) := ⟨1, ⟨1, s_iload_n dX0_noteAtEnd_0 rfl, rfl⟩, t_ne0 dX0_noteAtEnd_1 (by decide) rfl⟩
theorem ok_25_1 : BkOK mi i_25 (bpf P_25) 1 (B_25.getD 1 bk0) := ⟨5, ⟨1, s_iconst dX0_noteAtEnd_4 rfl, rfl⟩, t_go dX0_noteAtEnd_5 (by decide)⟩
theorem ok_25_2 : BkOK mi i_25 (bpf P_25) 2 (B_25.getD 2 bk0) := ⟨9, ⟨1, s_iconst dX0_noteAtEnd_8 rfl, rfl⟩, t_fall rfl⟩
theorem ok_25_3 : BkOK mi i_25 (bpf P_25) 3 (B_25.getD 3 bk0) := ⟨13, ⟨1, s_aload_n dX0_noteAtEnd_9 rfl, ⟨3, s_get (C := RX0) (T := TX0) (N := 10) dX0_noteAtEnd_10 rfl (by decide) wt_69 uw_X0, rfl⟩⟩, t_nei dX0_noteAtEnd_13 (by decide) rfl⟩
theorem ok_25_4 : BkOK mi i_25 (bpf P_25) 4 (B_25.getD 4 bk0) := ⟨17, ⟨1, s_iconst dX0_noteAtEnd_16 rfl, rfl⟩, t_go dX0_noteAtEnd_17 (by decide)⟩
theorem ok_25_5 : BkOK mi i_25 (bpf P_25) 5 (B_25.getD 5 bk0) := ⟨25, ⟨1, s_aload_n dX0_noteAtEnd_20 rfl, ⟨3, s_get (C := RX0) (T := TX0) (N := 10) dX0_noteAtEnd_21 rfl (by decide) wt_76 uw_X0, ⟨1, s_iload_n dX0_noteAtEnd_24 rfl, rfl⟩⟩⟩, t_cv rfl mi_62 mok_62 rfl (fun _ => ⟨rfl, by decide +kernel⟩) (fun hs' e => by cases e; intro E n b h; cases h) (fun q fs As rest h hp hA hr => (call_V (i := i_25) (j := i_62) (C := RX2) (T := TX2) (N := 1) dX0_noteAtEnd_25 mok_62 rfl ⟨by decide, by decide⟩ np_62 rfl rfl wt_414 wt_277 wt_278 hp hA hr rfl).thr (fun _ => True.intro))⟩
theorem ok_25_6 : BkOK mi i_25 (bpf P_25) 6 (B_25.getD 6 bk0) := ⟨30, ⟨1, s_iconst dX0_noteAtEnd_28 rfl, ⟨1, s_isub dX0_noteAtEnd_29, rfl⟩⟩, t_fall rfl⟩
theorem ok_25_7 : BkOK mi i_25 (bpf P_25) 7 (B_25.getD 7 bk0) := ⟨30, rfl, t_ret dX0_noteAtEnd_30 rfl⟩
theorem ok_25 : ∀ b, BkOK mi i_25 (bpf P_25) b (B_25.getD b bk0)
  | 0 => ok_25_0
  | 1 => ok_25_1
  | 2 => ok_25_2
  | 3 => ok_25_3
  | 4 => ok_25_4
  | 5 => ok_25_5
  | 6 => ok_25_6
  | 7 => ok_25_7
  | b + 8 => bk_none mi i_25 (bpf P_25) (b + 8)
theorem ok_26_0 : BkOK mi i_26 (bpf P_26) 0 (B_26.getD 0 bk0) := ⟨15, ⟨2, s_iload dX0_costOfLink_0, ⟨1, s_iload_n dX0_costOfLink_2 rfl, ⟨1, s_isub dX0_costOfLink_3, ⟨3, s_mabs dX0_costOfLink_4 wt_556x wt_557 wt_4 wt_558 ⟨by decide, by decide⟩, ⟨2, s_istore dX0_costOfLink_7 (by decide), ⟨1, s_aload_n dX0_costOfLink_9 rfl, ⟨1, s_iload_n dX0_costOfLink_10 rfl, ⟨1, s_iload_n dX0_costOfLink_11 rfl, ⟨1, s_iload_n dX0_costOfLink_12 rfl, ⟨2, s_iload dX0_costOfLink_13, rfl⟩⟩⟩⟩⟩⟩⟩⟩⟩⟩, t_cv rfl mi_27 mok_27 rfl (fun _ => ⟨rfl, by decide +kernel⟩) (fun hs' e => by cases e; intro E n b h; cases h) (fun q fs As rest h hp hA hr => (call_V (i := i_26) (j := i_27) (C := RX0) (T := TX0) (N := 10) dX0_costOfLink_15 mok_27 rfl ⟨by decide, by decide⟩ np_27 rfl rfl wt_559 wt_560 wt_561 hp hA hr rfl).thr (fun _ => True.intro))⟩
theorem ok_26_1 : BkOK mi i_26 (bpf P_26) 1 (B_26.getD 1 bk0) := ⟨18, rfl, t_table dX0_costOfLink_18 (by decide) (by decide) ⟨by decide, by decide⟩ (by decide +kernel)⟩
theorem ok_26_2 : BkOK mi i_26 (bpf P_26) 2 (B_26.getD 2 bk0) := ⟨54, ⟨1, s_aload_n dX0_costOfLink_48 rfl, ⟨3, s_get (C := RX0) (T := TX0) (N := 10) dX0_costOfLink_49 rfl (by decide) wt_88 uw_X0, ⟨1, s_iload_n dX0_costOfLink_52 rfl, ⟨1, s_iload_n dX0_costOfLink_53 rfl, rfl⟩⟩⟩⟩, t_nei dX0_costOfLink_54 (by decide) rfl⟩
theorem ok_26_3 : BkOK mi i_26 (bpf P_26) 3 (B_26.getD 3 bk0) := ⟨58, ⟨1, s_iconst dX0_costOfLink_57 rfl, rfl⟩, t_go dX0_costOfLink_58 (by decide)⟩
theorem ok_26_4 : BkOK mi i_26 (bpf P_26) 4 (B_26.getD 4 bk0) := ⟨62, ⟨1, s_iconst dX0_costOfLink_61 rfl, rfl⟩, t_fall rfl⟩
theorem ok_26_5 : BkOK mi i_26 (bpf P_26) 5 (B_26.getD 5 bk0) := ⟨62, rfl, t_cv rfl mi_62 mok_62 rfl (fun _ => ⟨rfl, by decide +kernel⟩) (fun hs' e => by cases e; intro E n b h; cases h) (fun q fs As rest h hp hA hr => (call_V (i := i_26) (j := i_62) (C := RX2) (T := TX2) (N := 1) dX0_costOfLink_62 mok_62 rfl ⟨by decide, by decide⟩ np_62 rfl rfl wt_414 wt_277 wt_278 hp hA hr rfl).thr (fun _ => True.intro))⟩
theorem ok_26_6 : BkOK mi i_26 (bpf P_26) 6 (B_26.getD 6 bk0) := ⟨65, rfl, t_ret dX0_costOfLink_65 rfl⟩
theorem ok_26_7 : BkOK mi i_26 (bpf P_26) 7 (B_26.getD 7 bk0) := ⟨71, ⟨1, s_aload_n dX0_costOfLink_66 rfl, ⟨3, s_get (C := RX0) (T := TX0) (N := 10) dX0_costOfLink_67 rfl (by decide) wt_88 uw_X0, ⟨1, s_iconst dX0_costOfLink_70 rfl, rfl⟩⟩⟩, t_cv rfl mi_62 mok_62 rfl (fun _ => ⟨rfl, by decide +kernel⟩) (fun hs' e => by cases e; intro E n b h; cases h) (fun q fs As rest h hp hA hr => (call_V (i := i_26) (j := i_62) (C := RX2) (T := TX2) (N := 1) dX0_costOfLink_71 mok_62 rfl ⟨by decide, by decide⟩ np_62 rfl rfl wt_414 wt_277 wt_278 hp hA hr rfl).thr (fun _ => True.intro))⟩
theorem ok_26_8 : BkOK mi i_26 (bpf P_26) 8 (B_26.getD 8 bk0) := ⟨77, ⟨2, s_iload dX0_costOfLink_74, ⟨1, s_imul dX0_costOfLink_76, rfl⟩⟩, t_ret dX0_costOfLink_77 rfl⟩
theorem ok_26_9 : BkOK mi i_26 (bpf P_26) 9 (B_26.getD 9 bk0) := ⟨83, ⟨1, s_aload_n dX0_costOfLink_78 rfl, ⟨2, s_iload dX0_costOfLink_79, ⟨1, s_iload_n dX0_costOfLink_81 rfl, ⟨1, s_iload_n dX0_costOfLink_82 rfl, rfl⟩⟩⟩⟩, t_cv rfl mi_21 mok_21 rfl (fun _ => ⟨rfl, by decide +kernel⟩) (fun hs' e => by cases e; intro E n b h; cases h) (fun q fs As rest h hp hA hr => (call_V (i := i_26) (j := i_21) (C := RX0) (T := TX0) (N := 10) dX0_costOfLink_83 mok_21 rfl ⟨by decide, by decide⟩ np_21 rfl rfl wt_519 wt_520 wt_521 hp hA hr rfl).thr (fun _ => True.intro))⟩
theorem ok_26_10 : BkOK mi i_26 (bpf P_26) 10 (B_26.getD 10 bk0) := ⟨86, rfl, t_ret dX0_costOfLink_86 rfl⟩
theorem ok_26_11 : BkOK mi i_26 (bpf P_26) 11 (B_26.getD 11 bk0) := ⟨92, ⟨1, s_aload_n dX0_costOfLink_87 rfl, ⟨3, s_get (C := RX0) (T := TX0) (N := 10) dX0_costOfLink_88 rfl (by decide) wt_88 uw_X0, ⟨1, s_iconst dX0_costOfLink_91 rfl, rfl⟩⟩⟩, t_cv rfl mi_62 mok_62 rfl (fun _ => ⟨rfl, by decide +kernel⟩) (fun hs' e => by cases e; intro E n b h; cases h) (fun q fs As rest h hp hA hr => (call_V (i := i_26) (j := i_62) (C := RX2) (T := TX2) (N := 1) dX0_costOfLink_92 mok_62 rfl ⟨by decide, by decide⟩ np_62 rfl rfl wt_414 wt_277 wt_278 hp hA hr rfl).thr (fun _ => True.intro))⟩
theorem ok_26_12 : BkOK mi i_26 (bpf P_26) 12 (B_26.getD 12 bk0) := ⟨95, rfl, t_ret dX0_costOfLink_95 rfl⟩
theorem ok_26_13 : BkOK mi i_26 (bpf P_26) 13 (B_26.getD 13 bk0) := ⟨97, ⟨1, s_iconst dX0_costOfLink_96 rfl, rfl⟩, t_ret dX0_costOfLink_97 rfl⟩
theorem ok_26 : ∀ b, BkOK mi i_26 (bpf P_26) b (B_26.getD b bk0)
  | 0 => ok_26_0
  | 1 => ok_26_1
  | 2 => ok_26_2
  | 3 => ok_26_3
  | 4 => ok_26_4
  | 5 => ok_26_5
  | 6 => ok_26_6
  | 7 => ok_26_7
  | 8 => ok_26_8
  | 9 => ok_26_9
  | 10 => ok_26_10
  | 11 => ok_26_11
  | 12 => ok_26_12
  | 13 => ok_26_13
  | b + 14 => bk_none mi i_26 (bpf P_26) (b + 14)
theorem ok_27_0 : BkOK mi i_27 (bpf P_27) 0 (B_27.getD 0 bk0) := ⟨3, ⟨1, s_iload_n dX0_kindOfLink_0 rfl, ⟨2, s_iload dX0_kindOfLink_1, rfl⟩⟩, t_nei dX0_kindOfLink_3 (by decide) rfl⟩
theorem ok_27_1 : BkOK mi i_27 (bpf P_27) 1 (B_27.getD 1 bk0) := ⟨7, ⟨1, s_iconst dX0_kindOfLink_6 rfl, rfl⟩, t_ret dX0_kindOfLink_7 rfl⟩
theorem ok_27_2 : BkOK mi i_27 (bpf P_27) 2 (B_27.getD 2 bk0) := ⟨10, ⟨1, s_iload_n dX0_kindOfLink_8 rfl, ⟨1, s_iload_n dX0_kindOfLink_9 rfl, rfl⟩⟩, t_nei dX0_kindOfLink_10 (by decide) rfl⟩
theorem ok_27_3 : BkOK mi i_27 (bpf P_27) 3 (B_27.getD 3 bk0) := ⟨14, ⟨1, s_iconst dX0_kindOfLink_13 rfl, rfl⟩, t_ret dX0_kindOfLink_14 rfl⟩
theorem ok_27_4 : BkOK mi i_27 (bpf P_27) 4 (B_27.getD 4 bk0) := ⟨19, ⟨1, s_aload_n dX0_kindOfLink_15 rfl, ⟨3, s_get (C := RX0) (T := TX0) (N := 10) dX0_kindOfLink_16 rfl (by decide) wt_69 uw_X0, rfl⟩⟩, t_eq0 dX0_kindOfLink_19 (by decide) rfl⟩
theorem ok_27_5 : BkOK mi i_27 (bpf P_27) 5 (B_27.getD 5 bk0) := ⟨26, ⟨2, s_iload dX0_kindOfLink_22, ⟨1, s_iload_n dX0_kindOfLink_24 rfl, ⟨1, s_isub dX0_kindOfLink_25, rfl⟩⟩⟩, t_go dX0_kindOfLink_26 (by decide)⟩
theorem ok_27_6 : BkOK mi i_27 (bpf P_27) 6 (B_27.getD 6 bk0) := ⟨33, ⟨1, s_iload_n dX0_kindOfLink_29 rfl, ⟨2, s_iload dX0_kindOfLink_30, ⟨1, s_isub dX0_kindOfLink_32, rfl⟩⟩⟩, t_fall rfl⟩
theorem ok_27_7 : BkOK mi i_27 (bpf P_27) 7 (B_27.getD 7 bk0) := ⟨37, ⟨2, s_istore dX0_kindOfLink_33 (by decide), ⟨2, s_iload dX0_kindOfLink_35, rfl⟩⟩, t_le0 dX0_kindOfLink_37 (by decide) rfl⟩
theorem ok_27_8 : BkOK mi i_27 (bpf P_27) 8 (B_27.getD 8 bk0) := ⟨41, ⟨1, s_iconst dX0_kindOfLink_40 rfl, rfl⟩, t_go dX0_kindOfLink_41 (by decide)⟩
theorem ok_27_9 : BkOK mi i_27 (bpf P_27) 9 (B_27.getD 9 bk0) := ⟨45, ⟨1, s_iconst dX0_kindOfLink_44 rfl, rfl⟩, t_fall rfl⟩
theorem ok_27_10 : BkOK mi i_27 (bpf P_27) 10 (B_27.getD 10 bk0) := ⟨47, ⟨1, s_iload_n dX0_kindOfLink_45 rfl, ⟨1, s_iload_n dX0_kindOfLink_46 rfl, rfl⟩⟩, t_le dX0_kindOfLink_47 (by decide) rfl⟩
theorem ok_27_11 : BkOK mi i_27 (bpf P_27) 11 (B_27.getD 11 bk0) := ⟨51, ⟨1, s_iconst dX0_kindOfLink_50 rfl, rfl⟩, t_go dX0_kindOfLink_51 (by decide)⟩
theorem ok_27_12 : BkOK mi i_27 (bpf P_27) 12 (B_27.getD 12 bk0) := ⟨55, ⟨1, s_iconst dX0_kindOfLink_54 rfl, rfl⟩, t_fall rfl⟩
theorem ok_27_13 : BkOK mi i_27 (bpf P_27) 13 (B_27.getD 13 bk0) := ⟨55, rfl, t_nei dX0_kindOfLink_55 (by decide) rfl⟩
theorem ok_27_14 : BkOK mi i_27 (bpf P_27) 14 (B_27.getD 14 bk0) := ⟨59, ⟨1, s_iconst dX0_kindOfLink_58 rfl, rfl⟩, t_ret dX0_kindOfLink_59 rfl⟩
theorem ok_27_15 : BkOK mi i_27 (bpf P_27) 15 (B_27.getD 15 bk0) := ⟨66, ⟨1, s_iload_n dX0_kindOfLink_60 rfl, ⟨1, s_iload_n dX0_kindOfLink_61 rfl, ⟨3, s_mmin dX0_kindOfLink_62 wt_563x wt_293 wt_4 wt_294 ⟨by decide, by decide⟩, ⟨1, s_iconst dX0_kindOfLink_65 rfl, rfl⟩⟩⟩⟩, t_nei dX0_kindOfLink_66 (by decide) rfl⟩
theorem ok_27_16 : BkOK mi i_27 (bpf P_27) 16 (B_27.getD 16 bk0) := ⟨75, ⟨1, s_iload_n dX0_kindOfLink_69 rfl, ⟨1, s_iload_n dX0_kindOfLink_70 rfl, ⟨3, s_mmax dX0_kindOfLink_71 wt_523x wt_43 wt_4 wt_44 ⟨by decide, by decide⟩, ⟨1, s_iconst dX0_kindOfLink_74 rfl, rfl⟩⟩⟩⟩, t_ge dX0_kindOfLink_75 (by decide) rfl⟩
theorem ok_27_17 : BkOK mi i_27 (bpf P_27) 17 (B_27.getD 17 bk0) := ⟨79, ⟨1, s_iconst dX0_kindOfLink_78 rfl, rfl⟩, t_go dX0_kindOfLink_79 (by decide)⟩
theorem ok_27_18 : BkOK mi i_27 (bpf P_27) 18 (B_27.getD 18 bk0) := ⟨83, ⟨1, s_iconst dX0_kindOfLink_82 rfl, rfl⟩, t_fall rfl⟩
theorem ok_27_19 : BkOK mi i_27 (bpf P_27) 19 (B_27.getD 19 bk0) := ⟨87, ⟨2, s_istore dX0_kindOfLink_83 (by decide), ⟨2, s_iload dX0_kindOfLink_85, rfl⟩⟩, t_eq0 dX0_kindOfLink_87 (by decide) rfl⟩
theorem ok_27_20 : BkOK mi i_27 (bpf P_27) 20 (B_27.getD 20 bk0) := ⟨101, ⟨2, s_iload dX0_kindOfLink_90, ⟨3, s_mabs dX0_kindOfLink_92 wt_556x wt_557 wt_4 wt_558 ⟨by decide, by decide⟩, ⟨1, s_aload_n dX0_kindOfLink_95 rfl, ⟨3, s_get (C := RX0) (T := TX0) (N := 10) dX0_kindOfLink_96 rfl (by decide) wt_88 uw_X0, ⟨2, s_bipush dX0_kindOfLink_99 rfl, rfl⟩⟩⟩⟩⟩, t_cv rfl mi_62 mok_62 rfl (fun _ => ⟨rfl, by decide +kernel⟩) (fun hs' e => by cases e; intro E n b h; cases h) (fun q fs As rest h hp hA hr => (call_V (i := i_27) (j := i_62) (C := RX2) (T := TX2) (N := 1) dX0_kindOfLink_101 mok_62 rfl ⟨by decide, by decide⟩ np_62 rfl rfl wt_414 wt_277 wt_278 hp hA hr rfl).thr (fun _ => True.intro))⟩
theorem ok_27_21 : BkOK mi i_27 (bpf P_27) 21 (B_27.getD 21 bk0) := ⟨104, rfl, t_gt dX0_kindOfLink_104 (by decide) rfl⟩
theorem ok_27_22 : BkOK mi i_27 (bpf P_27) 22 (B_27.getD 22 bk0) := ⟨108, ⟨1, s_iconst dX0_kindOfLink_107 rfl, rfl⟩, t_go dX0_kindOfLink_108 (by decide)⟩
theorem ok_27_23 : BkOK mi i_27 (bpf P_27) 23 (B_27.getD 23 bk0) := ⟨112, ⟨1, s_iconst dX0_kindOfLink_111 rfl, rfl⟩, t_fall rfl⟩
theorem ok_27_24 : BkOK mi i_27 (bpf P_27) 24 (B_27.getD 24 bk0) := ⟨112, rfl, t_ret dX0_kindOfLink_112 rfl⟩
theorem ok_27 : ∀ b, BkOK mi i_27 (bpf P_27) b (B_27.getD b bk0)
  | 0 => ok_27_0
  | 1 => ok_27_1
  | 2 => ok_27_2
  | 3 => ok_27_3
  | 4 => ok_27_4
  | 5 => ok_27_5
  | 6 => ok_27_6
  | 7 => ok_27_7
  | 8 => ok_27_8
  | 9 => ok_27_9
  | 10 => ok_27_10
  | 11 => ok_27_11
  | 12 => ok_27_12
  | 13 => ok_27_13
  | 14 => ok_27_14
  | 15 => ok_27_15
  | 16 => ok_27_16
  | 17 => ok_27_17
  | 18 => ok_27_18
  | 19 => ok_27_19
  | 20 => ok_27_20
  | 21 => ok_27_21
  | 22 => ok_27_22
  | 23 => ok_27_23
  | 24 => ok_27_24
  | b + 25 => bk_none mi i_27 (bpf P_27) (b + 25)
theorem ok_28_0 : BkOK mi i_28 (bpf P_28) 0 (B_28.getD 0 bk0) := ⟨26, ⟨1, s_aload_n dX1_init_0 rfl, ⟨3, s_obj dX1_init_1 wt_123x wt_28 wt_29 ⟨by decide, by decide⟩, ⟨1, s_aload_n dX1_init_4 rfl, ⟨1, s_iconst dX1_init_5 rfl, ⟨3, s_put (C := RX1) (T := TX1) (N := 13) tyX1 tyX1_ok nmX1 dX1_init_6 rfl (by decide) rfl (tyX1_ok 0 (by decide)) wt_126 uw_X1, ⟨1, s_aload_n dX1_init_9 rfl, ⟨1, s_iconst dX1_init_10 rfl, ⟨3, s_put (C := RX1) (T := TX1) (N := 13) tyX1 tyX1_ok nmX1 dX1_init_11 rfl (by decide) rfl (tyX1_ok 1 (by decide)) wt_127 uw_X1, ⟨1, s_aload_n dX1_init_14 rfl, ⟨1, s_iconst dX1_init_15 rfl, ⟨3, s_put (C := RX1) (T := TX1) (N := 13) tyX1 tyX1_ok nmX1 dX1_init_16 rfl (by decide) rfl (tyX1_ok 2 (by decide)) wt_128 uw_X1, ⟨1, s_aload_n dX1_init_19 rfl, ⟨3, s_new (C := RX2) (T := TX2) (N := 1) tyX2 tyX2_ok dX1_init_20 rfl nfX2_ok rfl rfl wt_124 wt_37 wt_3 uw_X2, ⟨1, s_dup dX1_init_23, ⟨2, s_bipush dX1_init_24 rfl, rfl⟩⟩⟩⟩⟩⟩⟩⟩⟩⟩⟩⟩⟩⟩⟩, t_ci rfl mi_61 mok_61 rfl (fun q As rest h hA hr => call_I dX1_init_26 mok_61 rfl ⟨by decide, by decide⟩ np_61 rfl rfl wt_125 wt_39 hA hr)⟩
theorem ok_28_1 : BkOK mi i_28 (bpf P_28) 1 (B_28.getD 1 bk0) := ⟨40, ⟨3, s_putF (C := RX1) (T := TX1) (N := 13) tyX1 tyX1_ok nmX1 dX1_init_29 rfl (by decide) rfl rfl rfl (tyX1_ok 3 (by decide)) wt_130 uw_X1, ⟨1, s_aload_n dX1_init_32 rfl, ⟨3, s_new (C := RX2) (T := TX2) (N := 1) tyX2 tyX2_ok dX1_init_33 rfl nfX2_ok rfl rfl wt_124 wt_37 wt_3 uw_X2, ⟨1, s_dup dX1_init_36, ⟨3, s_sipush dX1_init_37 rfl, rfl⟩⟩⟩⟩⟩, t_ci rfl mi_61 mok_61 rfl (fun q As rest h hA hr => call_I dX1_init_40 mok_61 rfl ⟨by decide, by decide⟩ np_61 rfl rfl wt_125 wt_39 hA hr)⟩
theorem ok_28_2 : BkOK mi i_28 (bpf P_28) 2 (B_28.getD 2 bk0) := ⟨54, ⟨3, s_putF (C := RX1) (T := TX1) (N := 13) tyX1 tyX1_ok nmX1 dX1_init_43 rfl (by decide) rfl rfl rfl (tyX1_ok 4 (by decide)) wt_132 uw_X1, ⟨1, s_aload_n dX1_init_46 rfl, ⟨3, s_new (C := RX2) (T := TX2) (N := 1) tyX2 tyX2_ok dX1_init_47 rfl nfX2_ok rfl rfl wt_124 wt_37 wt_3 uw_X2, ⟨1, s_dup dX1_init_50, ⟨3, s_sipush dX1_init_51 rfl, rfl⟩⟩⟩⟩⟩, t_ci rfl mi_61 mok_61 rfl (fun q As rest h hA hr => call_I dX1_init_54 mok_61 rfl ⟨by decide, by decide⟩ np_61 rfl rfl wt_125 wt_39 hA hr)⟩
theorem ok_28_3 : BkOK mi i_28 (bpf P_28) 3 (B_28.getD 3 bk0) := ⟨68, ⟨3, s_putF (C := RX1) (T := TX1) (N := 13) tyX1 tyX1_ok nmX1 dX1_init_57 rfl (by decide) rfl rfl rfl (tyX1_ok 5 (by decide)) wt_133 uw_X1, ⟨1, s_aload_n dX1_init_60 rfl, ⟨3, s_new (C := RX2) (T := TX2) (N := 1) tyX2 tyX2_ok dX1_init_61 rfl nfX2_ok rfl rfl wt_124 wt_37 wt_3 uw_X2, ⟨1, s_dup dX1_init_64, ⟨3, s_sipush dX1_init_65 rfl, rfl⟩⟩⟩⟩⟩, t_ci rfl mi_61 mok_61 rfl (fun q As rest h hA hr => call_I dX1_init_68 mok_61 rfl ⟨by decide, by decide⟩ np_61 rfl rfl wt_125 wt_39 hA hr)⟩
theorem ok_28_4 : BkOK mi i_28 (bpf P_28) 4 (B_28.getD 4 bk0) := ⟨82, ⟨3, s_putF (C := RX1) (T := TX1) (N := 13) tyX1 tyX1_ok nmX1 dX1_init_71 rfl (by decide) rfl rfl rfl (tyX1_ok 6 (by decide)) wt_134 uw_X1, ⟨1, s_aload_n dX1_init_74 rfl, ⟨3, s_new (C := RX2) (T := TX2) (N := 1) tyX2 tyX2_ok dX1_init_75 rfl nfX2_ok rfl rfl wt_124 wt_37 wt_3 uw_X2, ⟨1, s_dup dX1_init_78, ⟨3, s_sipush dX1_init_79 rfl, rfl⟩⟩⟩⟩⟩, t_ci rfl mi_61 mok_61 rfl (fun q As rest h hA hr => call_I dX1_init_82 mok_61 rfl ⟨by decide, by decide⟩ np_61 rfl rfl wt_125 wt_39 hA hr)⟩
theorem ok_28_5 : BkOK mi i_28 (bpf P_28) 5 (B_28.getD 5 bk0) := ⟨96, ⟨3, s_putF (C := RX1) (T := TX1) (N := 13) tyX1 tyX1_ok nmX1 dX1_init_85 rfl (by decide) rfl rfl rfl (tyX1_ok 7 (by decide)) wt_135 uw_X1, ⟨1, s_aload_n dX1_init_88 rfl, ⟨3, s_new (C := RX2) (T := TX2) (N := 1) tyX2 tyX2_ok dX1_init_89 rfl nfX2_ok rfl rfl wt_124 wt_37 wt_3 uw_X2, ⟨1, s_dup dX1_init_92, ⟨3, s_sipush dX1_init_93 rfl, rfl⟩⟩⟩⟩⟩, t_ci rfl mi_61 mok_61 rfl (fun q As rest h hA hr => call_I dX1_init_96 mok_61 rfl ⟨by decide, by decide⟩ np_61 rfl rfl wt_125 wt_39 hA hr)⟩
theorem ok_28_6 : BkOK mi i_28 (bpf P_28) 6 (B_28.getD 6 bk0) := ⟨109, ⟨3, s_putF (C := RX1) (T := TX1) (N := 13) tyX1 tyX1_ok nmX1 dX1_init_99 rfl (by decide) rfl rfl rfl (tyX1_ok 8 (by decide)) wt_136 uw_X1, ⟨1, s_aload_n dX1_init_102 rfl, ⟨3, s_new (C := RX2) (T := TX2) (N := 1) tyX2 tyX2_ok dX1_init_103 rfl nfX2_ok rfl rfl wt_124 wt_37 wt_3 uw_X2, ⟨1, s_dup dX1_init_106, ⟨2, s_bipush dX1_init_107 rfl, rfl⟩⟩⟩⟩⟩, t_ci rfl mi_61 mok_61 rfl (fun q As rest h hA hr => call_I dX1_init_109 mok_61 rfl ⟨by decide, by decide⟩ np_61 rfl rfl wt_125 wt_39 hA hr)⟩
theorem ok_28_7 : BkOK mi i_28 (bpf P_28) 7 (B_28.getD 7 bk0) := ⟨123, ⟨3, s_putF (C := RX1) (T := TX1) (N := 13) tyX1 tyX1_ok nmX1 dX1_init_112 rfl (by decide) rfl rfl rfl (tyX1_ok 9 (by decide)) wt_137 uw_X1, ⟨1, s_aload_n dX1_init_115 rfl, ⟨3, s_new (C := RX2) (T := TX2) (N := 1) tyX2 tyX2_ok dX1_init_116 rfl nfX2_ok rfl rfl wt_124 wt_37 wt_3 uw_X2, ⟨1, s_dup dX1_init_119, ⟨3, s_sipush dX1_init_120 rfl, rfl⟩⟩⟩⟩⟩, t_ci rfl mi_61 mok_61 rfl (fun q As rest h hA hr => call_I dX1_init_123 mok_61 rfl ⟨by decide, by decide⟩ np_61 rfl rfl wt_125 wt_39 hA hr)⟩
theorem ok_28_8 : BkOK mi i_28 (bpf P_28) 8 (B_28.getD 8 bk0) := ⟨136, ⟨3, s_putF (C := RX1) (T := TX1) (N := 13) tyX1 tyX1_ok nmX1 dX1_init_126 rfl (by decide) rfl rfl rfl (tyX1_ok 10 (by decide)) wt_138 uw_X1, ⟨1, s_aload_n dX1_init_129 rfl, ⟨3, s_new (C := RX2) (T := TX2) (N := 1) tyX2 tyX2_ok dX1_init_130 rfl nfX2_ok rfl rfl wt_124 wt_37 wt_3 uw_X2, ⟨1, s_dup dX1_init_133, ⟨2, s_bipush dX1_init_134 rfl, rfl⟩⟩⟩⟩⟩, t_ci rfl mi_61 mok_61 rfl (fun q As rest h hA hr => call_I dX1_init_136 mok_61 rfl ⟨by decide, by decide⟩ np_61 rfl rfl wt_125 wt_39 hA hr)⟩
theorem ok_28_9 : BkOK mi i_28 (bpf P_28) 9 (B_28.getD 9 bk0) := ⟨151, ⟨3, s_putF (C := RX1) (T := TX1) (N := 13) tyX1 tyX1_ok nmX1 dX1_init_139 rfl (by decide) rfl rfl rfl (tyX1_ok 11 (by decide)) wt_139 uw_X1, ⟨1, s_aload_n dX1_init_142 rfl, ⟨3, s_sipush dX1_init_143 rfl, ⟨2, s_newa_l dX1_init_146 wt_168, ⟨3, s_putF (C := RX1) (T := TX1) (N := 13) tyX1 tyX1_ok nmX1 dX1_init_148 rfl (by decide) rfl rfl rfl (tyX1_ok 12 (by decide)) wt_140 uw_X1, rfl⟩⟩⟩⟩⟩, t_retV dX1_init_151 rfl⟩
theorem ok_28 : ∀ b, BkOK mi i_28 (bpf P_28) b (B_28.getD b bk0)
  | 0 => ok_28_0
  | 1 => ok_28_1
  | 2 => ok_28_2
  | 3 => ok_28_3
  | 4 => ok_28_4
  | 5 => ok_28_5
  | 6 => ok_28_6
  | 7 => ok_28_7
  | 8 => ok_28_8
  | 9 => ok_28_9
  | b + 10 => bk_none mi i_28 (bpf P_28) (b + 10)
theorem ok_29_0 : BkOK mi i_29 (bpf P_29) 0 (B_29.getD 0 bk0) := ⟨5, ⟨1, s_aload_n dX1_forget_0 rfl, ⟨1, s_iconst dX1_forget_1 rfl, ⟨3, s_put (C := RX1) (T := TX1) (N := 13) tyX1 tyX1_ok nmX1 dX1_forget_2 rfl (by decide) rfl (tyX1_ok 0 (by decide)) wt_126 uw_X1, rfl⟩⟩⟩, t_retV dX1_forget_5 rfl⟩
theorem ok_29 : ∀ b, BkOK mi i_29 (bpf P_29) b (B_29.getD b bk0)
  | 0 => ok_29_0
  | b + 1 => bk_none mi i_29 (bpf P_29) (b + 1)
theorem ok_30_0 : BkOK mi i_30 (bpf P_30) 0 (B_30.getD 0 bk0) := ⟨4, ⟨1, s_aload_n dX1_solve_0 rfl, ⟨3, s_get (C := RX1) (T := TX1) (N := 13) dX1_solve_1 rfl (by decide) wt_126 uw_X1, rfl⟩⟩, t_eq0 dX1_solve_4 (by decide) rfl⟩
theorem ok_30_1 : BkOK mi i_30 (bpf P_30) 1 (B_30.getD 1 bk0) := ⟨7, rfl, t_retV dX1_solve_7 rfl⟩
theorem ok_30_2 : BkOK mi i_30 (bpf P_30) 2 (B_30.getD 2 bk0) := ⟨23, ⟨1, s_aload_n dX1_solve_8 rfl, ⟨1, s_iconst dX1_solve_9 rfl, ⟨3, s_put (C := RX1) (T := TX1) (N := 13) tyX1 tyX1_ok nmX1 dX1_solve_10 rfl (by decide) rfl (tyX1_ok 0 (by decide)) wt_126 uw_X1, ⟨1, s_aload_n dX1_solve_13 rfl, ⟨1, s_aload_n dX1_solve_14 rfl, ⟨3, s_getN (C := RX0) (T := TX0) (N := 10) dX1_solve_15 rfl (by decide) wt_73 uw_X0, ⟨3, s_put (C := RX1) (T := TX1) (N := 13) tyX1 tyX1_ok nmX1 dX1_solve_18 rfl (by decide) rfl (tyX1_ok 1 (by decide)) wt_127 uw_X1, ⟨1, s_iconst dX1_solve_21 rfl, ⟨1, s_istore_n dX1_solve_22 rfl (by decide), rfl⟩⟩⟩⟩⟩⟩⟩⟩⟩, t_fall rfl⟩
theorem ok_30_3 : BkOK mi i_30 (bpf P_30) 3 (B_30.getD 3 bk0) := ⟨28, ⟨1, s_iload_n dX1_solve_23 rfl, ⟨1, s_aload_n dX1_solve_24 rfl, ⟨3, s_get (C := RX1) (T := TX1) (N := 13) dX1_solve_25 rfl (by decide) wt_127 uw_X1, rfl⟩⟩⟩, t_ge dX1_solve_28 (by decide) rfl⟩
theorem ok_30_4 : BkOK mi i_30 (bpf P_30) 4 (B_30.getD 4 bk0) := ⟨34, ⟨1, s_aload_n dX1_solve_31 rfl, ⟨1, s_aload_n dX1_solve_32 rfl, ⟨1, s_iload_n dX1_solve_33 rfl, rfl⟩⟩⟩, t_cv rfl mi_34 mok_34 rfl (fun _ => ⟨rfl, by decide +kernel⟩) (fun hs' e => by cases e; intro E n b h; cases h) (fun q fs As rest h hp hA hr => (call_V (i := i_30) (j := i_34) (C := RX1) (T := TX1) (N := 13) dX1_solve_34 mok_34 rfl ⟨by decide, by decide⟩ np_34 rfl rfl wt_483 wt_484 wt_485 hp hA hr rfl).thr (fun _ => True.intro))⟩
theorem ok_30_5 : BkOK mi i_30 (bpf P_30) 5 (B_30.getD 5 bk0) := ⟨40, ⟨3, s_iinc dX1_solve_37 rfl (by decide), rfl⟩, t_go dX1_solve_40 (by decide)⟩
theorem ok_30_6 : BkOK mi i_30 (bpf P_30) 6 (B_30.getD 6 bk0) := ⟨45, ⟨1, s_iconst dX1_solve_43 rfl, ⟨1, s_istore_n dX1_solve_44 rfl (by decide), rfl⟩⟩, t_fall rfl⟩
theorem ok_30_7 : BkOK mi i_30 (bpf P_30) 7 (B_30.getD 7 bk0) := ⟨52, ⟨1, s_iload_n dX1_solve_45 rfl, ⟨1, s_aload_n dX1_solve_46 rfl, ⟨3, s_get (C := RX1) (T := TX1) (N := 13) dX1_solve_47 rfl (by decide) wt_127 uw_X1, ⟨1, s_iconst dX1_solve_50 rfl, ⟨1, s_isub dX1_solve_51, rfl⟩⟩⟩⟩⟩, t_ge dX1_solve_52 (by decide) rfl⟩
theorem ok_30_8 : BkOK mi i_30 (bpf P_30) 8 (B_30.getD 8 bk0) := ⟨58, ⟨1, s_aload_n dX1_solve_55 rfl, ⟨1, s_aload_n dX1_solve_56 rfl, ⟨1, s_iload_n dX1_solve_57 rfl, rfl⟩⟩⟩, t_cv rfl mi_36 mok_36 rfl (fun _ => ⟨rfl, by decide +kernel⟩) (fun hs' e => by cases e; intro E n b h; cases h) (fun q fs As rest h hp hA hr => (call_V (i := i_30) (j := i_36) (C := RX1) (T := TX1) (N := 13) dX1_solve_58 mok_36 rfl ⟨by decide, by decide⟩ np_36 rfl rfl wt_529 wt_530 wt_531 hp hA hr rfl).thr (fun _ => True.intro))⟩
theorem ok_30_9 : BkOK mi i_30 (bpf P_30) 9 (B_30.getD 9 bk0) := ⟨64, ⟨3, s_iinc dX1_solve_61 rfl (by decide), rfl⟩, t_go dX1_solve_64 (by decide)⟩
theorem ok_30_10 : BkOK mi i_30 (bpf P_30) 10 (B_30.getD 10 bk0) := ⟨74, ⟨1, s_aload_n dX1_solve_67 rfl, ⟨1, s_aload_n dX1_solve_68 rfl, ⟨1, s_iconst dX1_solve_69 rfl, ⟨1, s_aload_n dX1_solve_70 rfl, ⟨3, s_get (C := RX1) (T := TX1) (N := 13) dX1_solve_71 rfl (by decide) wt_135 uw_X1, rfl⟩⟩⟩⟩⟩, t_cv rfl mi_37 mok_37 rfl (fun _ => ⟨rfl, by decide +kernel⟩) (fun hs' e => by cases e; intro E n b h; cases h) (fun q fs As rest h hp hA hr => (call_V (i := i_30) (j := i_37) (C := RX1) (T := TX1) (N := 13) dX1_solve_74 mok_37 rfl ⟨by decide, by decide⟩ np_37 rfl rfl wt_564 wt_565 wt_566 hp hA hr rfl).thr (fun _ => True.intro))⟩
theorem ok_30_11 : BkOK mi i_30 (bpf P_30) 11 (B_30.getD 11 bk0) := ⟨78, ⟨1, s_aload_n dX1_solve_77 rfl, rfl⟩, t_cv rfl mi_39 mok_39 rfl (fun _ => ⟨rfl, by decide +kernel⟩) (fun hs' e => by cases e; intro E n b h; cases h) (fun q fs As rest h hp hA hr => (call_V (i := i_30) (j := i_39) (C := RX1) (T := TX1) (N := 13) dX1_solve_78 mok_39 rfl ⟨by decide, by decide⟩ np_39 rfl rfl wt_579 wt_580 wt_581 hp hA hr rfl).thr (fun _ => True.intro))⟩
theorem ok_30_12 : BkOK mi i_30 (bpf P_30) 12 (B_30.getD 12 bk0) := ⟨87, ⟨1, s_aload_n dX1_solve_81 rfl, ⟨1, s_aload_n dX1_solve_82 rfl, ⟨1, s_aload_n dX1_solve_83 rfl, ⟨3, s_get (C := RX1) (T := TX1) (N := 13) dX1_solve_84 rfl (by decide) wt_135 uw_X1, rfl⟩⟩⟩⟩, t_cv rfl mi_44 mok_44 rfl (fun _ => ⟨rfl, by decide +kernel⟩) (fun hs' e => by cases e; intro E n b h; cases h) (fun q fs As rest h hp hA hr => (call_V (i := i_30) (j := i_44) (C := RX1) (T := TX1) (N := 13) dX1_solve_87 mok_44 rfl ⟨by decide, by decide⟩ np_44 rfl rfl wt_595 wt_596 wt_597 hp hA hr rfl).thr (fun _ => True.intro))⟩
theorem ok_30_13 : BkOK mi i_30 (bpf P_30) 13 (B_30.getD 13 bk0) := ⟨94, ⟨3, s_put (C := RX1) (T := TX1) (N := 13) tyX1 tyX1_ok nmX1 dX1_solve_90 rfl (by decide) rfl (tyX1_ok 2 (by decide)) wt_128 uw_X1, ⟨1, s_aload_n dX1_solve_93 rfl, rfl⟩⟩, t_cv rfl mi_45 mok_45 rfl (fun _ => ⟨rfl, by decide +kernel⟩) (fun hs' e => by cases e; intro E n b h; cases h) (fun q fs As rest h hp hA hr => (call_V (i := i_30) (j := i_45) (C := RX1) (T := TX1) (N := 13) dX1_solve_94 mok_45 rfl ⟨by decide, by decide⟩ np_45 rfl rfl wt_599 wt_600 wt_601 hp hA hr rfl).thr (fun _ => True.intro))⟩
theorem ok_30_14 : BkOK mi i_30 (bpf P_30) 14 (B_30.getD 14 bk0) := ⟨99, ⟨1, s_iconst dX1_solve_97 rfl, ⟨1, s_istore_n dX1_solve_98 rfl (by decide), rfl⟩⟩, t_fall rfl⟩
theorem ok_30_15 : BkOK mi i_30 (bpf P_30) 15 (B_30.getD 15 bk0) := ⟨102, ⟨1, s_iload_n dX1_solve_99 rfl, ⟨2, s_bipush dX1_solve_100 rfl, rfl⟩⟩, t_ge dX1_solve_102 (by decide) rfl⟩
theorem ok_30_16 : BkOK mi i_30 (bpf P_30) 16 (B_30.getD 16 bk0) := ⟨111, ⟨1, s_aload_n dX1_solve_105 rfl, ⟨3, s_get (C := RX1) (T := TX1) (N := 13) dX1_solve_106 rfl (by decide) wt_139 uw_X1, ⟨1, s_iload_n dX1_solve_109 rfl, ⟨1, s_iconst dX1_solve_110 rfl, rfl⟩⟩⟩⟩, t_cv rfl mi_63 mok_63 rfl (fun _ => ⟨rfl, by decide +kernel⟩) (fun hs' e => by cases e; intro E n b h; cases h) (fun q fs As rest h hp hA hr => (call_V (i := i_30) (j := i_63) (C := RX2) (T := TX2) (N := 1) dX1_solve_111 mok_63 rfl ⟨by decide, by decide⟩ np_63 rfl rfl wt_487 wt_57 wt_58 hp hA hr rfl).thr (fun _ => True.intro))⟩
theorem ok_30_17 : BkOK mi i_30 (bpf P_30) 17 (B_30.getD 17 bk0) := ⟨117, ⟨3, s_iinc dX1_solve_114 rfl (by decide), rfl⟩, t_go dX1_solve_117 (by decide)⟩
theorem ok_30_18 : BkOK mi i_30 (bpf P_30) 18 (B_30.getD 18 bk0) := ⟨129, ⟨1, s_aload_n dX1_solve_120 rfl, ⟨3, s_get (C := RX1) (T := TX1) (N := 13) dX1_solve_121 rfl (by decide) wt_139 uw_X1, ⟨1, s_iconst dX1_solve_124 rfl, ⟨1, s_aload_n dX1_solve_125 rfl, ⟨3, s_get (C := RX1) (T := TX1) (N := 13) dX1_solve_126 rfl (by decide) wt_128 uw_X1, rfl⟩⟩⟩⟩⟩, t_cv rfl mi_63 mok_63 rfl (fun _ => ⟨rfl, by decide +kernel⟩) (fun hs' e => by cases e; intro E n b h; cases h) (fun q fs As rest h hp hA hr => (call_V (i := i_30) (j := i_63) (C := RX2) (T := TX2) (N := 1) dX1_solve_129 mok_63 rfl ⟨by decide, by decide⟩ np_63 rfl rfl wt_487 wt_57 wt_58 hp hA hr rfl).thr (fun _ => True.intro))⟩
theorem ok_30_19 : BkOK mi i_30 (bpf P_30) 19 (B_30.getD 19 bk0) := ⟨132, rfl, t_retV dX1_solve_132 rfl⟩
theorem ok_30 : ∀ b, BkOK mi i_30 (bpf P_30) b (B_30.getD b bk0)
  | 0 => ok_30_0
  | 1 => ok_30_1
  | 2 => ok_30_2
  | 3 => ok_30_3
  | 4 => ok_30_4
  | 5 => ok_30_5
  | 6 => ok_30_6
  | 7 => ok_30_7
  | 8 => ok_30_8
  | 9 => ok_30_9
  | 10 => ok_30_10
  | 11 => ok_30_11
  | 12 => ok_30_12
  | 13 => ok_30_13
  | 14 => ok_30_14
  | 15 => ok_30_15
  | 16 => ok_30_16
  | 17 => ok_30_17
  | 18 => ok_30_18
  | 19 => ok_30_19
  | b + 20 => bk_none mi i_30 (bpf P_30) (b + 20)
theorem ok_31_0 : BkOK mi i_31 (bpf P_31) 0 (B_31.getD 0 bk0) := ⟨6, ⟨1, s_iload_n dX1_placeOfChoice_0 rfl, ⟨2, s_bipush dX1_placeOfChoice_1 rfl, ⟨1, s_imul dX1_placeOfChoice_3, ⟨1, s_iload_n dX1_placeOfChoice_4 rfl, ⟨1, s_iadd dX1_placeOfChoice_5, rfl⟩⟩⟩⟩⟩, t_ret dX1_placeOfChoice_6 rfl⟩
theorem ok_31 : ∀ b, BkOK mi i_31 (bpf P_31) b (B_31.getD b bk0)
  | 0 => ok_31_0
  | b + 1 => bk_none mi i_31 (bpf P_31) (b + 1)
theorem ok_32_0 : BkOK mi i_32 (bpf P_32) 0 (B_32.getD 0 bk0) := ⟨2, ⟨1, s_iload_n dX1_baseOf_0 rfl, ⟨1, s_iload_n dX1_baseOf_1 rfl, rfl⟩⟩, t_cs rfl mi_31 mok_31 rfl (fun As rest h hA hr => call_S dX1_baseOf_2 mok_31 rfl ⟨by decide, by decide⟩ np_31 wt_496 wt_497 hA hr)⟩
theorem ok_32_1 : BkOK mi i_32 (bpf P_32) 1 (B_32.getD 1 bk0) := ⟨7, ⟨1, s_iconst dX1_baseOf_5 rfl, ⟨1, s_imul dX1_baseOf_6, rfl⟩⟩, t_ret dX1_baseOf_7 rfl⟩
theorem ok_32 : ∀ b, BkOK mi i_32 (bpf P_32) b (B_32.getD b bk0)
  | 0 => ok_32_0
  | 1 => ok_32_1
  | b + 2 => bk_none mi i_32 (bpf P_32) (b + 2)
theorem ok_33_0 : BkOK mi i_33 (bpf P_33) 0 (B_33.getD 0 bk0) := ⟨2, ⟨1, s_iload_n dX1_placeOfStep_0 rfl, ⟨1, s_iload_n dX1_placeOfStep_1 rfl, rfl⟩⟩, t_cs rfl mi_31 mok_31 rfl (fun As rest h hA hr => call_S dX1_placeOfStep_2 mok_31 rfl ⟨by decide, by decide⟩ np_31 wt_496 wt_497 hA hr)⟩
theorem ok_33_1 : BkOK mi i_33 (bpf P_33) 1 (B_33.getD 1 bk0) := ⟨10, ⟨2, s_bipush dX1_placeOfStep_5 rfl, ⟨1, s_imul dX1_placeOfStep_7, ⟨1, s_iload_n dX1_placeOfStep_8 rfl, ⟨1, s_iadd dX1_placeOfStep_9, rfl⟩⟩⟩⟩, t_ret dX1_placeOfStep_10 rfl⟩
theorem ok_33 : ∀ b, BkOK mi i_33 (bpf P_33) b (B_33.getD b bk0)
  | 0 => ok_33_0
  | 1 => ok_33_1
  | b + 2 => bk_none mi i_33 (bpf P_33) (b + 2)
