theorem ok_246_0 : BkOK mi i_246 (bpf P_246) 0 (B_246.getD 0 bk0) := ⟨3, ⟨1, s_aload_n dX6_transposed_0 rfl, ⟨1, s_aload_n dX6_transposed_1 rfl, ⟨1, s_iload_n dX6_transposed_2 rfl, rfl⟩⟩⟩, t_cv rfl mi_243 mok_243 rfl (fun _ => ⟨rfl, by decide +kernel⟩) (fun hs' e => by cases e; intro E n b h; cases h) (fun q fs As rest h hp hA hr => (call_V (i := i_246) (j := i_243) (C := RX6) (T := TX6) (N := 30) dX6_transposed_3 mok_243 rfl ⟨by decide, by decide⟩ np_243 rfl rfl wt_1615 wt_1617 ws_68 hp hA hr rfl).thr (fun _ => True.intro))⟩
theorem ok_246_1 : BkOK mi i_246 (bpf P_246) 1 (B_246.getD 1 bk0) := ⟨6, rfl, t_eq0 dX6_transposed_6 (by decide) rfl⟩
theorem ok_246_2 : BkOK mi i_246 (bpf P_246) 2 (B_246.getD 2 bk0) := ⟨10, ⟨1, s_iconst dX6_transposed_9 rfl, rfl⟩, t_go dX6_transposed_10 (by decide)⟩
theorem ok_246_3 : BkOK mi i_246 (bpf P_246) 3 (B_246.getD 3 bk0) := ⟨14, ⟨1, s_iconst dX6_transposed_13 rfl, rfl⟩, t_fall rfl⟩
theorem ok_246_4 : BkOK mi i_246 (bpf P_246) 4 (B_246.getD 4 bk0) := ⟨21, ⟨3, s_put (C := RX6) (T := TX6) (N := 30) tyX6 tyX6_ok nmX6 dX6_transposed_14 rfl (by decide) rfl (tyX6_ok 7 (by decide)) wt_1164 uw_X6, ⟨1, s_aload_n dX6_transposed_17 rfl, ⟨3, s_get (C := RX6) (T := TX6) (N := 30) dX6_transposed_18 rfl (by decide) wt_1164 uw_X6, rfl⟩⟩⟩, t_le0 dX6_transposed_21 (by decide) rfl⟩
theorem ok_246_5 : BkOK mi i_246 (bpf P_246) 5 (B_246.getD 5 bk0) := ⟨25, ⟨1, s_iconst dX6_transposed_24 rfl, rfl⟩, t_go dX6_transposed_25 (by decide)⟩
theorem ok_246_6 : BkOK mi i_246 (bpf P_246) 6 (B_246.getD 6 bk0) := ⟨30, ⟨1, s_aload_n dX6_transposed_28 rfl, ⟨1, s_iload_n dX6_transposed_29 rfl, rfl⟩⟩, t_cv rfl mi_245 mok_245 rfl (fun _ => ⟨rfl, by decide +kernel⟩) (fun hs' e => by cases e; intro E n b h; cases h) (fun q fs As rest h hp hA hr => (call_V (i := i_246) (j := i_245) (C := RX6) (T := TX6) (N := 30) dX6_transposed_30 mok_245 rfl ⟨by decide, by decide⟩ np_245 rfl rfl wt_1619 wt_1621 ws_69 hp hA hr rfl).thr (fun _ => True.intro))⟩
theorem ok_246_7 : BkOK mi i_246 (bpf P_246) 7 (B_246.getD 7 bk0) := ⟨33, rfl, t_cs rfl mi_213 mok_213 rfl (fun As rest h hA hr => call_S dX6_transposed_33 mok_213 rfl ⟨by decide, by decide⟩ np_213 wt_1524 wt_1525 hA hr)⟩
theorem ok_246_8 : BkOK mi i_246 (bpf P_246) 8 (B_246.getD 8 bk0) := ⟨36, rfl, t_ret dX6_transposed_36 rfl⟩
theorem ok_246 : ∀ b, BkOK mi i_246 (bpf P_246) b (B_246.getD b bk0)
  | 0 => ok_246_0
  | 1 => ok_246_1
  | 2 => ok_246_2
  | 3 => ok_246_3
  | 4 => ok_246_4
  | 5 => ok_246_5
  | 6 => ok_246_6
  | 7 => ok_246_7
  | 8 => ok_246_8
  | b + 9 => bk_none mi i_246 (bpf P_246) (b + 9)
theorem ok_247_0 : BkOK mi i_247 (bpf P_247) 0 (B_247.getD 0 bk0) := ⟨5, ⟨1, s_aload_n dX6_easiest_0 rfl, ⟨1, s_iload_n dX6_easiest_1 rfl, ⟨1, s_iconst dX6_easiest_2 rfl, ⟨2, s_bipush dX6_easiest_3 rfl, rfl⟩⟩⟩⟩, t_cs rfl mi_157 mok_157 rfl (fun As rest h hA hr => call_S dX6_easiest_5 mok_157 rfl ⟨by decide, by decide⟩ np_157 wt_1264 wt_1265 hA hr)⟩
theorem ok_247_1 : BkOK mi i_247 (bpf P_247) 1 (B_247.getD 1 bk0) := ⟨8, rfl, t_eq0 dX6_easiest_8 (by decide) rfl⟩
theorem ok_247_2 : BkOK mi i_247 (bpf P_247) 2 (B_247.getD 2 bk0) := ⟨12, ⟨1, s_iconst dX6_easiest_11 rfl, rfl⟩, t_go dX6_easiest_12 (by decide)⟩
theorem ok_247_3 : BkOK mi i_247 (bpf P_247) 3 (B_247.getD 3 bk0) := ⟨16, ⟨1, s_iconst dX6_easiest_15 rfl, rfl⟩, t_fall rfl⟩
theorem ok_247_4 : BkOK mi i_247 (bpf P_247) 4 (B_247.getD 4 bk0) := ⟨23, ⟨3, s_put (C := RX6) (T := TX6) (N := 30) tyX6 tyX6_ok nmX6 dX6_easiest_16 rfl (by decide) rfl (tyX6_ok 7 (by decide)) wt_1164 uw_X6, ⟨1, s_aload_n dX6_easiest_19 rfl, ⟨3, s_get (C := RX6) (T := TX6) (N := 30) dX6_easiest_20 rfl (by decide) wt_1164 uw_X6, rfl⟩⟩⟩, t_le0 dX6_easiest_23 (by decide) rfl⟩
theorem ok_247_5 : BkOK mi i_247 (bpf P_247) 5 (B_247.getD 5 bk0) := ⟨27, ⟨1, s_iconst dX6_easiest_26 rfl, rfl⟩, t_ret dX6_easiest_27 rfl⟩
theorem ok_247_6 : BkOK mi i_247 (bpf P_247) 6 (B_247.getD 6 bk0) := ⟨37, ⟨1, s_iconst dX6_easiest_28 rfl, ⟨1, s_istore_n dX6_easiest_29 rfl (by decide), ⟨3, s_ldcw dX6_easiest_30 wt_1501, ⟨1, s_istore_n dX6_easiest_33 rfl (by decide), ⟨1, s_iconst dX6_easiest_34 rfl, ⟨2, s_istore dX6_easiest_35 (by decide), rfl⟩⟩⟩⟩⟩⟩, t_fall rfl⟩
theorem ok_247_7 : BkOK mi i_247 (bpf P_247) 7 (B_247.getD 7 bk0) := ⟨42, ⟨2, s_iload dX6_easiest_37, ⟨1, s_iconst dX6_easiest_39 rfl, ⟨1, s_iload_n dX6_easiest_40 rfl, ⟨1, s_imul dX6_easiest_41, rfl⟩⟩⟩⟩, t_gt dX6_easiest_42 (by decide) rfl⟩
theorem ok_247_8 : BkOK mi i_247 (bpf P_247) 8 (B_247.getD 8 bk0) := ⟨50, ⟨2, s_iload dX6_easiest_45, ⟨1, s_iconst dX6_easiest_47 rfl, ⟨1, s_irem dX6_easiest_48, ⟨1, s_iconst dX6_easiest_49 rfl, rfl⟩⟩⟩⟩, t_nei dX6_easiest_50 (by decide) rfl⟩
theorem ok_247_9 : BkOK mi i_247 (bpf P_247) 9 (B_247.getD 9 bk0) := ⟨60, ⟨2, s_iload dX6_easiest_53, ⟨1, s_iconst dX6_easiest_55 rfl, ⟨1, s_iadd dX6_easiest_56, ⟨1, s_ineg dX6_easiest_57, ⟨1, s_iconst dX6_easiest_58 rfl, ⟨1, s_idiv dX6_easiest_59, rfl⟩⟩⟩⟩⟩⟩, t_go dX6_easiest_60 (by decide)⟩
theorem ok_247_10 : BkOK mi i_247 (bpf P_247) 10 (B_247.getD 10 bk0) := ⟨67, ⟨2, s_iload dX6_easiest_63, ⟨1, s_iconst dX6_easiest_65 rfl, ⟨1, s_idiv dX6_easiest_66, rfl⟩⟩⟩, t_fall rfl⟩
theorem ok_247_11 : BkOK mi i_247 (bpf P_247) 11 (B_247.getD 11 bk0) := ⟨72, ⟨2, s_istore dX6_easiest_67 (by decide), ⟨1, s_aload_n dX6_easiest_69 rfl, ⟨2, s_iload dX6_easiest_70, rfl⟩⟩⟩, t_cv rfl mi_243 mok_243 rfl (fun _ => ⟨rfl, by decide +kernel⟩) (fun hs' e => by cases e; intro E n b h; cases h) (fun q fs As rest h hp hA hr => (call_V (i := i_247) (j := i_243) (C := RX6) (T := TX6) (N := 30) dX6_easiest_72 mok_243 rfl ⟨by decide, by decide⟩ np_243 rfl rfl wt_1615 wt_1617 ws_68 hp hA hr rfl).thr (fun _ => True.intro))⟩
theorem ok_247_12 : BkOK mi i_247 (bpf P_247) 12 (B_247.getD 12 bk0) := ⟨75, rfl, t_eq0 dX6_easiest_75 (by decide) rfl⟩
theorem ok_247_13 : BkOK mi i_247 (bpf P_247) 13 (B_247.getD 13 bk0) := ⟨81, ⟨1, s_aload_n dX6_easiest_78 rfl, ⟨2, s_iload dX6_easiest_79, rfl⟩⟩, t_cv rfl mi_245 mok_245 rfl (fun _ => ⟨rfl, by decide +kernel⟩) (fun hs' e => by cases e; intro E n b h; cases h) (fun q fs As rest h hp hA hr => (call_V (i := i_247) (j := i_245) (C := RX6) (T := TX6) (N := 30) dX6_easiest_81 mok_245 rfl ⟨by decide, by decide⟩ np_245 rfl rfl wt_1619 wt_1621 ws_69 hp hA hr rfl).thr (fun _ => True.intro))⟩
theorem ok_247_14 : BkOK mi i_247 (bpf P_247) 14 (B_247.getD 14 bk0) := ⟨84, rfl, t_go dX6_easiest_84 (by decide)⟩
theorem ok_247_15 : BkOK mi i_247 (bpf P_247) 15 (B_247.getD 15 bk0) := ⟨90, ⟨3, s_ldcw dX6_easiest_87 wt_1501, rfl⟩, t_fall rfl⟩
theorem ok_247_16 : BkOK mi i_247 (bpf P_247) 16 (B_247.getD 16 bk0) := ⟨95, ⟨2, s_istore dX6_easiest_90 (by decide), ⟨2, s_iload dX6_easiest_92, ⟨1, s_iload_n dX6_easiest_94 rfl, rfl⟩⟩⟩, t_lt dX6_easiest_95 (by decide) rfl⟩
theorem ok_247_17 : BkOK mi i_247 (bpf P_247) 17 (B_247.getD 17 bk0) := ⟨98, rfl, t_go dX6_easiest_98 (by decide)⟩
theorem ok_247_18 : BkOK mi i_247 (bpf P_247) 18 (B_247.getD 18 bk0) := ⟨107, ⟨2, s_iload dX6_easiest_101, ⟨1, s_istore_n dX6_easiest_103 rfl (by decide), ⟨2, s_iload dX6_easiest_104, ⟨1, s_istore_n dX6_easiest_106 rfl (by decide), rfl⟩⟩⟩⟩, t_fall rfl⟩
theorem ok_247_19 : BkOK mi i_247 (bpf P_247) 19 (B_247.getD 19 bk0) := ⟨110, ⟨3, s_iinc dX6_easiest_107 rfl (by decide), rfl⟩, t_go dX6_easiest_110 (by decide)⟩
theorem ok_247_20 : BkOK mi i_247 (bpf P_247) 20 (B_247.getD 20 bk0) := ⟨118, ⟨1, s_aload_n dX6_easiest_113 rfl, ⟨1, s_iload_n dX6_easiest_114 rfl, ⟨3, s_ldcw dX6_easiest_115 wt_1501, rfl⟩⟩⟩, t_ge dX6_easiest_118 (by decide) rfl⟩
theorem ok_247_21 : BkOK mi i_247 (bpf P_247) 21 (B_247.getD 21 bk0) := ⟨122, ⟨1, s_iconst dX6_easiest_121 rfl, rfl⟩, t_go dX6_easiest_122 (by decide)⟩
theorem ok_247_22 : BkOK mi i_247 (bpf P_247) 22 (B_247.getD 22 bk0) := ⟨126, ⟨1, s_iconst dX6_easiest_125 rfl, rfl⟩, t_fall rfl⟩
theorem ok_247_23 : BkOK mi i_247 (bpf P_247) 23 (B_247.getD 23 bk0) := ⟨133, ⟨3, s_put (C := RX6) (T := TX6) (N := 30) tyX6 tyX6_ok nmX6 dX6_easiest_126 rfl (by decide) rfl (tyX6_ok 7 (by decide)) wt_1164 uw_X6, ⟨1, s_aload_n dX6_easiest_129 rfl, ⟨3, s_get (C := RX6) (T := TX6) (N := 30) dX6_easiest_130 rfl (by decide) wt_1164 uw_X6, rfl⟩⟩⟩, t_le0 dX6_easiest_133 (by decide) rfl⟩
theorem ok_247_24 : BkOK mi i_247 (bpf P_247) 24 (B_247.getD 24 bk0) := ⟨137, ⟨1, s_iconst dX6_easiest_136 rfl, rfl⟩, t_go dX6_easiest_137 (by decide)⟩
theorem ok_247_25 : BkOK mi i_247 (bpf P_247) 25 (B_247.getD 25 bk0) := ⟨141, ⟨1, s_iload_n dX6_easiest_140 rfl, rfl⟩, t_fall rfl⟩
theorem ok_247_26 : BkOK mi i_247 (bpf P_247) 26 (B_247.getD 26 bk0) := ⟨141, rfl, t_ret dX6_easiest_141 rfl⟩
theorem ok_247 : ∀ b, BkOK mi i_247 (bpf P_247) b (B_247.getD b bk0)
  | 0 => ok_247_0
  | 1 => ok_247_1
  | 2 => ok_247_2
  | 3 => ok_247_3
  | 4 => ok_247_4
  | 5 => ok_247_5
  | 6 => ok_247_6
  | 7 => ok_247_7
  | 8 => ok_247_8
  | 9 => ok_247_9
  | 10 => ok_247_10
  | 11 => ok_247_11
  | 12 => ok_247_12
  | 13 => ok_247_13
  | 14 => ok_247_14
  | 15 => ok_247_15
  | 16 => ok_247_16
  | 17 => ok_247_17
  | 18 => ok_247_18
  | 19 => ok_247_19
  | 20 => ok_247_20
  | 21 => ok_247_21
  | 22 => ok_247_22
  | 23 => ok_247_23
  | 24 => ok_247_24
  | 25 => ok_247_25
  | 26 => ok_247_26
  | b + 27 => bk_none mi i_247 (bpf P_247) (b + 27)
theorem ok_248_0 : BkOK mi i_248 (bpf P_248) 0 (B_248.getD 0 bk0) := ⟨6, ⟨1, s_aload_n dX6_restBehind_0 rfl, ⟨1, s_iconst dX6_restBehind_1 rfl, ⟨3, s_put (C := RX6) (T := TX6) (N := 30) tyX6 tyX6_ok nmX6 dX6_restBehind_2 rfl (by decide) rfl (tyX6_ok 7 (by decide)) wt_1164 uw_X6, ⟨1, s_aload_n dX6_restBehind_5 rfl, rfl⟩⟩⟩⟩, t_cv rfl mi_212 mok_212 rfl (fun _ => ⟨rfl, by decide +kernel⟩) (fun hs' e => by cases e; intro E n b h; cases h) (fun q fs As rest h hp hA hr => (call_V (i := i_248) (j := i_212) (C := RX6) (T := TX6) (N := 30) dX6_restBehind_6 mok_212 rfl ⟨by decide, by decide⟩ np_212 rfl rfl wt_1489 wt_1491 ws_50 hp hA hr rfl).thr (fun _ => True.intro))⟩
theorem ok_248_1 : BkOK mi i_248 (bpf P_248) 1 (B_248.getD 1 bk0) := ⟨14, ⟨1, s_istore_n dX6_restBehind_9 rfl (by decide), ⟨1, s_iconst dX6_restBehind_10 rfl, ⟨1, s_istore_n dX6_restBehind_11 rfl (by decide), ⟨1, s_iconst dX6_restBehind_12 rfl, ⟨1, s_istore_n dX6_restBehind_13 rfl (by decide), rfl⟩⟩⟩⟩⟩, t_fall rfl⟩
theorem ok_248_2 : BkOK mi i_248 (bpf P_248) 2 (B_248.getD 2 bk0) := ⟨18, ⟨1, s_iload_n dX6_restBehind_14 rfl, ⟨1, s_iconst dX6_restBehind_15 rfl, ⟨1, s_iadd dX6_restBehind_16, ⟨1, s_aload_n dX6_restBehind_17 rfl, rfl⟩⟩⟩⟩, t_cv rfl mi_182 mok_182 rfl (fun _ => ⟨rfl, by decide +kernel⟩) (fun hs' e => by cases e; intro E n b h; cases h) (fun q fs As rest h hp hA hr => (call_V (i := i_248) (j := i_182) (C := RX6) (T := TX6) (N := 30) dX6_restBehind_18 mok_182 rfl ⟨by decide, by decide⟩ np_182 rfl rfl wt_1275 wt_1277 ws_16 hp hA hr rfl).thr (fun _ => True.intro))⟩
theorem ok_248_3 : BkOK mi i_248 (bpf P_248) 3 (B_248.getD 3 bk0) := ⟨21, rfl, t_ge dX6_restBehind_21 (by decide) rfl⟩
theorem ok_248_4 : BkOK mi i_248 (bpf P_248) 4 (B_248.getD 4 bk0) := ⟨26, ⟨1, s_aload_n dX6_restBehind_24 rfl, ⟨1, s_iload_n dX6_restBehind_25 rfl, rfl⟩⟩, t_cv rfl mi_184 mok_184 rfl (fun _ => ⟨rfl, by decide +kernel⟩) (fun hs' e => by cases e; intro E n b h; cases h) (fun q fs As rest h hp hA hr => (call_V (i := i_248) (j := i_184) (C := RX6) (T := TX6) (N := 30) dX6_restBehind_26 mok_184 rfl ⟨by decide, by decide⟩ np_184 rfl rfl wt_1408 wt_1410 ws_38 hp hA hr rfl).thr (fun _ => True.intro))⟩
theorem ok_248_5 : BkOK mi i_248 (bpf P_248) 5 (B_248.getD 5 bk0) := ⟨48, ⟨2, s_istore dX6_restBehind_29 (by decide), ⟨1, s_aload_n dX6_restBehind_31 rfl, ⟨3, s_get (C := RX6) (T := TX6) (N := 30) dX6_restBehind_32 rfl (by decide) wt_1157 uw_X6, ⟨2, s_bipush dX6_restBehind_35 rfl, ⟨2, s_bipush dX6_restBehind_37 rfl, ⟨1, s_iload_n dX6_restBehind_39 rfl, ⟨1, s_imul dX6_restBehind_40, ⟨1, s_iadd dX6_restBehind_41, ⟨1, s_iconst dX6_restBehind_42 rfl, ⟨1, s_iadd dX6_restBehind_43, ⟨2, s_bipush dX6_restBehind_44 rfl, ⟨1, s_iast dX6_restBehind_46, ⟨1, s_aload_n dX6_restBehind_47 rfl, rfl⟩⟩⟩⟩⟩⟩⟩⟩⟩⟩⟩⟩⟩, t_cv rfl mi_212 mok_212 rfl (fun _ => ⟨rfl, by decide +kernel⟩) (fun hs' e => by cases e; intro E n b h; cases h) (fun q fs As rest h hp hA hr => (call_V (i := i_248) (j := i_212) (C := RX6) (T := TX6) (N := 30) dX6_restBehind_48 mok_212 rfl ⟨by decide, by decide⟩ np_212 rfl rfl wt_1489 wt_1491 ws_50 hp hA hr rfl).thr (fun _ => True.intro))⟩
theorem ok_248_6 : BkOK mi i_248 (bpf P_248) 6 (B_248.getD 6 bk0) := ⟨72, ⟨2, s_istore dX6_restBehind_51 (by decide), ⟨1, s_aload_n dX6_restBehind_53 rfl, ⟨3, s_get (C := RX6) (T := TX6) (N := 30) dX6_restBehind_54 rfl (by decide) wt_1157 uw_X6, ⟨2, s_bipush dX6_restBehind_57 rfl, ⟨2, s_bipush dX6_restBehind_59 rfl, ⟨1, s_iload_n dX6_restBehind_61 rfl, ⟨1, s_imul dX6_restBehind_62, ⟨1, s_iadd dX6_restBehind_63, ⟨1, s_iconst dX6_restBehind_64 rfl, ⟨1, s_iadd dX6_restBehind_65, ⟨2, s_iload dX6_restBehind_66, ⟨1, s_iast dX6_restBehind_68, ⟨2, s_iload dX6_restBehind_69, ⟨1, s_iload_n dX6_restBehind_71 rfl, rfl⟩⟩⟩⟩⟩⟩⟩⟩⟩⟩⟩⟩⟩⟩, t_lt dX6_restBehind_72 (by decide) rfl⟩
theorem ok_248_7 : BkOK mi i_248 (bpf P_248) 7 (B_248.getD 7 bk0) := ⟨75, rfl, t_go dX6_restBehind_75 (by decide)⟩
theorem ok_248_8 : BkOK mi i_248 (bpf P_248) 8 (B_248.getD 8 bk0) := ⟨83, ⟨2, s_iload dX6_restBehind_78, ⟨1, s_istore_n dX6_restBehind_80 rfl (by decide), ⟨1, s_iload_n dX6_restBehind_81 rfl, ⟨1, s_istore_n dX6_restBehind_82 rfl (by decide), rfl⟩⟩⟩⟩, t_fall rfl⟩
theorem ok_248_9 : BkOK mi i_248 (bpf P_248) 9 (B_248.getD 9 bk0) := ⟨86, ⟨3, s_iinc dX6_restBehind_83 rfl (by decide), rfl⟩, t_go dX6_restBehind_86 (by decide)⟩
theorem ok_248_10 : BkOK mi i_248 (bpf P_248) 10 (B_248.getD 10 bk0) := ⟨90, ⟨1, s_iload_n dX6_restBehind_89 rfl, rfl⟩, t_ret dX6_restBehind_90 rfl⟩
theorem ok_248 : ∀ b, BkOK mi i_248 (bpf P_248) b (B_248.getD b bk0)
  | 0 => ok_248_0
  | 1 => ok_248_1
  | 2 => ok_248_2
  | 3 => ok_248_3
  | 4 => ok_248_4
  | 5 => ok_248_5
  | 6 => ok_248_6
  | 7 => ok_248_7
  | 8 => ok_248_8
  | 9 => ok_248_9
  | 10 => ok_248_10
  | b + 11 => bk_none mi i_248 (bpf P_248) (b + 11)
theorem ok_249_0 : BkOK mi i_249 (bpf P_249) 0 (B_249.getD 0 bk0) := ⟨1, ⟨1, s_iload_n dX6_areKeys_0 rfl, rfl⟩, t_cs rfl mi_224 mok_224 rfl (fun As rest h hA hr => call_S dX6_areKeys_1 mok_224 rfl ⟨by decide, by decide⟩ np_224 wt_1478 wt_1479 hA hr)⟩
theorem ok_249_1 : BkOK mi i_249 (bpf P_249) 1 (B_249.getD 1 bk0) := ⟨4, rfl, t_ne0 dX6_areKeys_4 (by decide) rfl⟩
theorem ok_249_2 : BkOK mi i_249 (bpf P_249) 2 (B_249.getD 2 bk0) := ⟨8, ⟨1, s_iconst dX6_areKeys_7 rfl, rfl⟩, t_retZ dX6_areKeys_8 rfl⟩
theorem ok_249_3 : BkOK mi i_249 (bpf P_249) 3 (B_249.getD 3 bk0) := ⟨10, ⟨1, s_iload_n dX6_areKeys_9 rfl, rfl⟩, t_ne0 dX6_areKeys_10 (by decide) rfl⟩
theorem ok_249_4 : BkOK mi i_249 (bpf P_249) 4 (B_249.getD 4 bk0) := ⟨14, ⟨1, s_iload_n dX6_areKeys_13 rfl, rfl⟩, t_ne0 dX6_areKeys_14 (by decide) rfl⟩
theorem ok_249_5 : BkOK mi i_249 (bpf P_249) 5 (B_249.getD 5 bk0) := ⟨18, ⟨1, s_iconst dX6_areKeys_17 rfl, rfl⟩, t_go dX6_areKeys_18 (by decide)⟩
theorem ok_249_6 : BkOK mi i_249 (bpf P_249) 6 (B_249.getD 6 bk0) := ⟨22, ⟨1, s_iconst dX6_areKeys_21 rfl, rfl⟩, t_fall rfl⟩
theorem ok_249_7 : BkOK mi i_249 (bpf P_249) 7 (B_249.getD 7 bk0) := ⟨22, rfl, t_retZ dX6_areKeys_22 rfl⟩
theorem ok_249_8 : BkOK mi i_249 (bpf P_249) 8 (B_249.getD 8 bk0) := ⟨25, ⟨1, s_iload_n dX6_areKeys_23 rfl, ⟨1, s_iload_n dX6_areKeys_24 rfl, rfl⟩⟩, t_le dX6_areKeys_25 (by decide) rfl⟩
theorem ok_249_9 : BkOK mi i_249 (bpf P_249) 9 (B_249.getD 9 bk0) := ⟨29, ⟨1, s_iload_n dX6_areKeys_28 rfl, rfl⟩, t_cs rfl mi_224 mok_224 rfl (fun As rest h hA hr => call_S dX6_areKeys_29 mok_224 rfl ⟨by decide, by decide⟩ np_224 wt_1478 wt_1479 hA hr)⟩
theorem ok_249_10 : BkOK mi i_249 (bpf P_249) 10 (B_249.getD 10 bk0) := ⟨32, rfl, t_eq0 dX6_areKeys_32 (by decide) rfl⟩
theorem ok_249_11 : BkOK mi i_249 (bpf P_249) 11 (B_249.getD 11 bk0) := ⟨36, ⟨1, s_iload_n dX6_areKeys_35 rfl, rfl⟩, t_eq0 dX6_areKeys_36 (by decide) rfl⟩
theorem ok_249_12 : BkOK mi i_249 (bpf P_249) 12 (B_249.getD 12 bk0) := ⟨41, ⟨1, s_iload_n dX6_areKeys_39 rfl, ⟨1, s_iload_n dX6_areKeys_40 rfl, rfl⟩⟩, t_le dX6_areKeys_41 (by decide) rfl⟩
theorem ok_249_13 : BkOK mi i_249 (bpf P_249) 13 (B_249.getD 13 bk0) := ⟨45, ⟨1, s_iload_n dX6_areKeys_44 rfl, rfl⟩, t_cs rfl mi_224 mok_224 rfl (fun As rest h hA hr => call_S dX6_areKeys_45 mok_224 rfl ⟨by decide, by decide⟩ np_224 wt_1478 wt_1479 hA hr)⟩
theorem ok_249_14 : BkOK mi i_249 (bpf P_249) 14 (B_249.getD 14 bk0) := ⟨48, rfl, t_eq0 dX6_areKeys_48 (by decide) rfl⟩
theorem ok_249_15 : BkOK mi i_249 (bpf P_249) 15 (B_249.getD 15 bk0) := ⟨52, ⟨1, s_iconst dX6_areKeys_51 rfl, rfl⟩, t_go dX6_areKeys_52 (by decide)⟩
theorem ok_249_16 : BkOK mi i_249 (bpf P_249) 16 (B_249.getD 16 bk0) := ⟨56, ⟨1, s_iconst dX6_areKeys_55 rfl, rfl⟩, t_fall rfl⟩
theorem ok_249_17 : BkOK mi i_249 (bpf P_249) 17 (B_249.getD 17 bk0) := ⟨56, rfl, t_retZ dX6_areKeys_56 rfl⟩
theorem ok_249 : ∀ b, BkOK mi i_249 (bpf P_249) b (B_249.getD b bk0)
  | 0 => ok_249_0
  | 1 => ok_249_1
  | 2 => ok_249_2
  | 3 => ok_249_3
  | 4 => ok_249_4
  | 5 => ok_249_5
  | 6 => ok_249_6
  | 7 => ok_249_7
  | 8 => ok_249_8
  | 9 => ok_249_9
  | 10 => ok_249_10
  | 11 => ok_249_11
  | 12 => ok_249_12
  | 13 => ok_249_13
  | 14 => ok_249_14
  | 15 => ok_249_15
  | 16 => ok_249_16
  | 17 => ok_249_17
  | b + 18 => bk_none mi i_249 (bpf P_249) (b + 18)
theorem ok_250_0 : BkOK mi i_250 (bpf P_250) 0 (B_250.getD 0 bk0) := ⟨4, ⟨1, s_aload_n dX6_play_0 rfl, ⟨1, s_iload_n dX6_play_1 rfl, ⟨1, s_iconst dX6_play_2 rfl, ⟨1, s_aload_n dX6_play_3 rfl, rfl⟩⟩⟩⟩, t_cv rfl mi_182 mok_182 rfl (fun _ => ⟨rfl, by decide +kernel⟩) (fun hs' e => by cases e; intro E n b h; cases h) (fun q fs As rest h hp hA hr => (call_V (i := i_250) (j := i_182) (C := RX6) (T := TX6) (N := 30) dX6_play_4 mok_182 rfl ⟨by decide, by decide⟩ np_182 rfl rfl wt_1275 wt_1277 ws_16 hp hA hr rfl).thr (fun _ => True.intro))⟩
theorem ok_250_1 : BkOK mi i_250 (bpf P_250) 1 (B_250.getD 1 bk0) := ⟨7, rfl, t_cs rfl mi_157 mok_157 rfl (fun As rest h hA hr => call_S dX6_play_7 mok_157 rfl ⟨by decide, by decide⟩ np_157 wt_1264 wt_1265 hA hr)⟩
theorem ok_250_2 : BkOK mi i_250 (bpf P_250) 2 (B_250.getD 2 bk0) := ⟨10, rfl, t_ne0 dX6_play_10 (by decide) rfl⟩
theorem ok_250_3 : BkOK mi i_250 (bpf P_250) 3 (B_250.getD 3 bk0) := ⟨14, ⟨1, s_iconst dX6_play_13 rfl, rfl⟩, t_go dX6_play_14 (by decide)⟩
theorem ok_250_4 : BkOK mi i_250 (bpf P_250) 4 (B_250.getD 4 bk0) := ⟨21, ⟨1, s_iload_n dX6_play_17 rfl, ⟨1, s_iload_n dX6_play_18 rfl, ⟨2, s_iload dX6_play_19, rfl⟩⟩⟩, t_cs rfl mi_249 mok_249 rfl (fun As rest h hA hr => call_S dX6_play_21 mok_249 rfl ⟨by decide, by decide⟩ np_249 wt_1639 wt_1640 hA hr)⟩
theorem ok_250_5 : BkOK mi i_250 (bpf P_250) 5 (B_250.getD 5 bk0) := ⟨24, rfl, t_eq0 dX6_play_24 (by decide) rfl⟩
theorem ok_250_6 : BkOK mi i_250 (bpf P_250) 6 (B_250.getD 6 bk0) := ⟨32, ⟨2, s_iload dX6_play_27, ⟨1, s_iconst dX6_play_29 rfl, ⟨2, s_bipush dX6_play_30 rfl, rfl⟩⟩⟩, t_cs rfl mi_157 mok_157 rfl (fun As rest h hA hr => call_S dX6_play_32 mok_157 rfl ⟨by decide, by decide⟩ np_157 wt_1264 wt_1265 hA hr)⟩
theorem ok_250_7 : BkOK mi i_250 (bpf P_250) 7 (B_250.getD 7 bk0) := ⟨35, rfl, t_eq0 dX6_play_35 (by decide) rfl⟩
theorem ok_250_8 : BkOK mi i_250 (bpf P_250) 8 (B_250.getD 8 bk0) := ⟨39, ⟨1, s_iconst dX6_play_38 rfl, rfl⟩, t_go dX6_play_39 (by decide)⟩
theorem ok_250_9 : BkOK mi i_250 (bpf P_250) 9 (B_250.getD 9 bk0) := ⟨43, ⟨1, s_iconst dX6_play_42 rfl, rfl⟩, t_fall rfl⟩
theorem ok_250_10 : BkOK mi i_250 (bpf P_250) 10 (B_250.getD 10 bk0) := ⟨50, ⟨3, s_put (C := RX6) (T := TX6) (N := 30) tyX6 tyX6_ok nmX6 dX6_play_43 rfl (by decide) rfl (tyX6_ok 7 (by decide)) wt_1164 uw_X6, ⟨1, s_aload_n dX6_play_46 rfl, ⟨3, s_get (C := RX6) (T := TX6) (N := 30) dX6_play_47 rfl (by decide) wt_1164 uw_X6, rfl⟩⟩⟩, t_le0 dX6_play_50 (by decide) rfl⟩
theorem ok_250_11 : BkOK mi i_250 (bpf P_250) 11 (B_250.getD 11 bk0) := ⟨54, ⟨1, s_iconst dX6_play_53 rfl, rfl⟩, t_ret dX6_play_54 rfl⟩
theorem ok_250_12 : BkOK mi i_250 (bpf P_250) 12 (B_250.getD 12 bk0) := ⟨56, ⟨1, s_aload_n dX6_play_55 rfl, rfl⟩, t_cv rfl mi_182 mok_182 rfl (fun _ => ⟨rfl, by decide +kernel⟩) (fun hs' e => by cases e; intro E n b h; cases h) (fun q fs As rest h hp hA hr => (call_V (i := i_250) (j := i_182) (C := RX6) (T := TX6) (N := 30) dX6_play_56 mok_182 rfl ⟨by decide, by decide⟩ np_182 rfl rfl wt_1275 wt_1277 ws_16 hp hA hr rfl).thr (fun _ => True.intro))⟩
theorem ok_250_13 : BkOK mi i_250 (bpf P_250) 13 (B_250.getD 13 bk0) := ⟨61, ⟨2, s_bipush dX6_play_59 rfl, rfl⟩, t_nei dX6_play_61 (by decide) rfl⟩
theorem ok_250_14 : BkOK mi i_250 (bpf P_250) 14 (B_250.getD 14 bk0) := ⟨66, ⟨2, s_bipush dX6_play_64 rfl, rfl⟩, t_ret dX6_play_66 rfl⟩
theorem ok_250_15 : BkOK mi i_250 (bpf P_250) 15 (B_250.getD 15 bk0) := ⟨72, ⟨1, s_aload_n dX6_play_67 rfl, ⟨1, s_aload_n dX6_play_68 rfl, ⟨3, s_get (C := RX6) (T := TX6) (N := 30) dX6_play_69 rfl (by decide) wt_1157 uw_X6, rfl⟩⟩⟩, t_cv rfl mi_159 mok_159 rfl (fun _ => ⟨rfl, by decide +kernel⟩) (fun hs' e => by cases e; intro E n b h; cases h) (fun q fs As rest h hp hA hr => (call_V (i := i_250) (j := i_159) (C := RX6) (T := TX6) (N := 30) dX6_play_72 mok_159 rfl ⟨by decide, by decide⟩ np_159 rfl rfl wt_1271 wt_1273 ws_15 hp hA hr rfl).thr (fun _ => True.intro))⟩
theorem ok_250_16 : BkOK mi i_250 (bpf P_250) 16 (B_250.getD 16 bk0) := ⟨89, ⟨2, s_bipush dX6_play_75 rfl, ⟨2, s_bipush dX6_play_77 rfl, ⟨1, s_iload_n dX6_play_79 rfl, ⟨1, s_imul dX6_play_80, ⟨1, s_iadd dX6_play_81, ⟨2, s_istore dX6_play_82 (by decide), ⟨3, s_sipush dX6_play_84 rfl, ⟨2, s_istore dX6_play_87 (by decide), rfl⟩⟩⟩⟩⟩⟩⟩⟩, t_fall rfl⟩
theorem ok_250_17 : BkOK mi i_250 (bpf P_250) 17 (B_250.getD 17 bk0) := ⟨96, ⟨2, s_iload dX6_play_89, ⟨2, s_iload dX6_play_91, ⟨2, s_bipush dX6_play_93 rfl, ⟨1, s_iadd dX6_play_95, rfl⟩⟩⟩⟩, t_lt dX6_play_96 (by decide) rfl⟩
theorem ok_250_18 : BkOK mi i_250 (bpf P_250) 18 (B_250.getD 18 bk0) := ⟨119, ⟨1, s_aload_n dX6_play_99 rfl, ⟨3, s_get (C := RX6) (T := TX6) (N := 30) dX6_play_100 rfl (by decide) wt_1157 uw_X6, ⟨2, s_iload dX6_play_103, ⟨1, s_aload_n dX6_play_105 rfl, ⟨3, s_get (C := RX6) (T := TX6) (N := 30) dX6_play_106 rfl (by decide) wt_1157 uw_X6, ⟨2, s_iload dX6_play_109, ⟨2, s_bipush dX6_play_111 rfl, ⟨1, s_isub dX6_play_113, ⟨1, s_iald dX6_play_114, ⟨1, s_iast dX6_play_115, ⟨3, s_iinc dX6_play_116 rfl (by decide), rfl⟩⟩⟩⟩⟩⟩⟩⟩⟩⟩⟩, t_go dX6_play_119 (by decide)⟩
theorem ok_250_19 : BkOK mi i_250 (bpf P_250) 19 (B_250.getD 19 bk0) := ⟨129, ⟨1, s_aload_n dX6_play_122 rfl, ⟨3, s_get (C := RX6) (T := TX6) (N := 30) dX6_play_123 rfl (by decide) wt_1157 uw_X6, ⟨2, s_iload dX6_play_126, ⟨1, s_iload_n dX6_play_128 rfl, rfl⟩⟩⟩⟩, t_ne0 dX6_play_129 (by decide) rfl⟩
theorem ok_250_20 : BkOK mi i_250 (bpf P_250) 20 (B_250.getD 20 bk0) := ⟨133, ⟨1, s_iconst dX6_play_132 rfl, rfl⟩, t_go dX6_play_133 (by decide)⟩
theorem ok_250_21 : BkOK mi i_250 (bpf P_250) 21 (B_250.getD 21 bk0) := ⟨138, ⟨2, s_iload dX6_play_136, rfl⟩, t_ne0 dX6_play_138 (by decide) rfl⟩
theorem ok_250_22 : BkOK mi i_250 (bpf P_250) 22 (B_250.getD 22 bk0) := ⟨142, ⟨1, s_iconst dX6_play_141 rfl, rfl⟩, t_go dX6_play_142 (by decide)⟩
theorem ok_250_23 : BkOK mi i_250 (bpf P_250) 23 (B_250.getD 23 bk0) := ⟨146, ⟨1, s_iconst dX6_play_145 rfl, rfl⟩, t_fall rfl⟩
theorem ok_250_24 : BkOK mi i_250 (bpf P_250) 24 (B_250.getD 24 bk0) := ⟨192, ⟨1, s_iast dX6_play_146, ⟨1, s_aload_n dX6_play_147 rfl, ⟨3, s_get (C := RX6) (T := TX6) (N := 30) dX6_play_148 rfl (by decide) wt_1157 uw_X6, ⟨2, s_iload dX6_play_151, ⟨1, s_iconst dX6_play_153 rfl, ⟨1, s_iadd dX6_play_154, ⟨2, s_iload dX6_play_155, ⟨1, s_iast dX6_play_157, ⟨1, s_aload_n dX6_play_158 rfl, ⟨3, s_get (C := RX6) (T := TX6) (N := 30) dX6_play_159 rfl (by decide) wt_1157 uw_X6, ⟨2, s_iload dX6_play_162, ⟨1, s_iconst dX6_play_164 rfl, ⟨1, s_iadd dX6_play_165, ⟨1, s_iload_n dX6_play_166 rfl, ⟨1, s_iast dX6_play_167, ⟨1, s_aload_n dX6_play_168 rfl, ⟨3, s_get (C := RX6) (T := TX6) (N := 30) dX6_play_169 rfl (by decide) wt_1157 uw_X6, ⟨2, s_iload dX6_play_172, ⟨1, s_iconst dX6_play_174 rfl, ⟨1, s_iadd dX6_play_175, ⟨1, s_iload_n dX6_play_176 rfl, ⟨1, s_iast dX6_play_177, ⟨1, s_aload_n dX6_play_178 rfl, ⟨3, s_get (C := RX6) (T := TX6) (N := 30) dX6_play_179 rfl (by decide) wt_1157 uw_X6, ⟨2, s_iload dX6_play_182, ⟨1, s_iconst dX6_play_184 rfl, ⟨1, s_iadd dX6_play_185, ⟨2, s_iload dX6_play_186, ⟨1, s_iast dX6_play_188, ⟨1, s_iconst dX6_play_189 rfl, ⟨2, s_istore dX6_play_190 (by decide), rfl⟩⟩⟩⟩⟩⟩⟩⟩⟩⟩⟩⟩⟩⟩⟩⟩⟩⟩⟩⟩⟩⟩⟩⟩⟩⟩⟩⟩⟩⟩⟩, t_fall rfl⟩
theorem ok_250_25 : BkOK mi i_250 (bpf P_250) 25 (B_250.getD 25 bk0) := ⟨195, ⟨2, s_iload dX6_play_192, ⟨1, s_iconst dX6_play_194 rfl, rfl⟩⟩, t_ge dX6_play_195 (by decide) rfl⟩
theorem ok_250_26 : BkOK mi i_250 (bpf P_250) 26 (B_250.getD 26 bk0) := ⟨215, ⟨1, s_aload_n dX6_play_198 rfl, ⟨3, s_get (C := RX6) (T := TX6) (N := 30) dX6_play_199 rfl (by decide) wt_1157 uw_X6, ⟨2, s_iload dX6_play_202, ⟨1, s_iconst dX6_play_204 rfl, ⟨1, s_iadd dX6_play_205, ⟨2, s_iload dX6_play_206, ⟨1, s_iadd dX6_play_208, ⟨2, s_bipush dX6_play_209 rfl, ⟨1, s_iast dX6_play_211, ⟨3, s_iinc dX6_play_212 rfl (by decide), rfl⟩⟩⟩⟩⟩⟩⟩⟩⟩⟩, t_go dX6_play_215 (by decide)⟩
theorem ok_250_27 : BkOK mi i_250 (bpf P_250) 27 (B_250.getD 27 bk0) := ⟨229, ⟨1, s_aload_n dX6_play_218 rfl, ⟨3, s_get (C := RX6) (T := TX6) (N := 30) dX6_play_219 rfl (by decide) wt_1157 uw_X6, ⟨1, s_iconst dX6_play_222 rfl, ⟨1, s_dup2 dX6_play_223, ⟨1, s_iald dX6_play_224, ⟨1, s_iconst dX6_play_225 rfl, ⟨1, s_iadd dX6_play_226, ⟨1, s_iast dX6_play_227, ⟨1, s_aload_n dX6_play_228 rfl, rfl⟩⟩⟩⟩⟩⟩⟩⟩⟩, t_cv rfl mi_182 mok_182 rfl (fun _ => ⟨rfl, by decide +kernel⟩) (fun hs' e => by cases e; intro E n b h; cases h) (fun q fs As rest h hp hA hr => (call_V (i := i_250) (j := i_182) (C := RX6) (T := TX6) (N := 30) dX6_play_229 mok_182 rfl ⟨by decide, by decide⟩ np_182 rfl rfl wt_1275 wt_1277 ws_16 hp hA hr rfl).thr (fun _ => True.intro))⟩
theorem ok_250_28 : BkOK mi i_250 (bpf P_250) 28 (B_250.getD 28 bk0) := ⟨232, rfl, t_ret dX6_play_232 rfl⟩
theorem ok_250 : ∀ b, BkOK mi i_250 (bpf P_250) b (B_250.getD b bk0)
  | 0 => ok_250_0
  | 1 => ok_250_1
  | 2 => ok_250_2
  | 3 => ok_250_3
  | 4 => ok_250_4
  | 5 => ok_250_5
  | 6 => ok_250_6
  | 7 => ok_250_7
  | 8 => ok_250_8
  | 9 => ok_250_9
  | 10 => ok_250_10
  | 11 => ok_250_11
  | 12 => ok_250_12
  | 13 => ok_250_13
  | 14 => ok_250_14
  | 15 => ok_250_15
  | 16 => ok_250_16
  | 17 => ok_250_17
  | 18 => ok_250_18
  | 19 => ok_250_19
  | 20 => ok_250_20
  | 21 => ok_250_21
  | 22 => ok_250_22
  | 23 => ok_250_23
  | 24 => ok_250_24
  | 25 => ok_250_25
  | 26 => ok_250_26
  | 27 => ok_250_27
  | 28 => ok_250_28
  | b + 29 => bk_none mi i_250 (bpf P_250) (b + 29)
theorem ok_251_0 : BkOK mi i_251 (bpf P_251) 0 (B_251.getD 0 bk0) := ⟨3, ⟨1, s_aload_n dX6_drop_0 rfl, ⟨1, s_aload_n dX6_drop_1 rfl, ⟨1, s_iload_n dX6_drop_2 rfl, rfl⟩⟩⟩, t_cv rfl mi_188 mok_188 rfl (fun _ => ⟨rfl, by decide +kernel⟩) (fun hs' e => by cases e; intro E n b h; cases h) (fun q fs As rest h hp hA hr => (call_V (i := i_251) (j := i_188) (C := RX6) (T := TX6) (N := 30) dX6_drop_3 mok_188 rfl ⟨by decide, by decide⟩ np_188 rfl rfl wt_1420 wt_1422 ws_40 hp hA hr rfl).thr (fun _ => True.intro))⟩
theorem ok_251_1 : BkOK mi i_251 (bpf P_251) 1 (B_251.getD 1 bk0) := ⟨6, rfl, t_eq0 dX6_drop_6 (by decide) rfl⟩
theorem ok_251_2 : BkOK mi i_251 (bpf P_251) 2 (B_251.getD 2 bk0) := ⟨10, ⟨1, s_iconst dX6_drop_9 rfl, rfl⟩, t_go dX6_drop_10 (by decide)⟩
theorem ok_251_3 : BkOK mi i_251 (bpf P_251) 3 (B_251.getD 3 bk0) := ⟨14, ⟨1, s_iconst dX6_drop_13 rfl, rfl⟩, t_fall rfl⟩
theorem ok_251_4 : BkOK mi i_251 (bpf P_251) 4 (B_251.getD 4 bk0) := ⟨21, ⟨3, s_put (C := RX6) (T := TX6) (N := 30) tyX6 tyX6_ok nmX6 dX6_drop_14 rfl (by decide) rfl (tyX6_ok 7 (by decide)) wt_1164 uw_X6, ⟨1, s_aload_n dX6_drop_17 rfl, ⟨3, s_get (C := RX6) (T := TX6) (N := 30) dX6_drop_18 rfl (by decide) wt_1164 uw_X6, rfl⟩⟩⟩, t_le0 dX6_drop_21 (by decide) rfl⟩
theorem ok_251_5 : BkOK mi i_251 (bpf P_251) 5 (B_251.getD 5 bk0) := ⟨25, ⟨1, s_iconst dX6_drop_24 rfl, rfl⟩, t_ret dX6_drop_25 rfl⟩
theorem ok_251_6 : BkOK mi i_251 (bpf P_251) 6 (B_251.getD 6 bk0) := ⟨31, ⟨1, s_aload_n dX6_drop_26 rfl, ⟨1, s_aload_n dX6_drop_27 rfl, ⟨3, s_get (C := RX6) (T := TX6) (N := 30) dX6_drop_28 rfl (by decide) wt_1157 uw_X6, rfl⟩⟩⟩, t_cv rfl mi_159 mok_159 rfl (fun _ => ⟨rfl, by decide +kernel⟩) (fun hs' e => by cases e; intro E n b h; cases h) (fun q fs As rest h hp hA hr => (call_V (i := i_251) (j := i_159) (C := RX6) (T := TX6) (N := 30) dX6_drop_31 mok_159 rfl ⟨by decide, by decide⟩ np_159 rfl rfl wt_1271 wt_1273 ws_15 hp hA hr rfl).thr (fun _ => True.intro))⟩
theorem ok_251_7 : BkOK mi i_251 (bpf P_251) 7 (B_251.getD 7 bk0) := ⟨42, ⟨2, s_bipush dX6_drop_34 rfl, ⟨2, s_bipush dX6_drop_36 rfl, ⟨1, s_iload_n dX6_drop_38 rfl, ⟨1, s_imul dX6_drop_39, ⟨1, s_iadd dX6_drop_40, ⟨1, s_istore_n dX6_drop_41 rfl (by decide), rfl⟩⟩⟩⟩⟩⟩, t_fall rfl⟩
theorem ok_251_8 : BkOK mi i_251 (bpf P_251) 8 (B_251.getD 8 bk0) := ⟨46, ⟨1, s_iload_n dX6_drop_42 rfl, ⟨3, s_sipush dX6_drop_43 rfl, rfl⟩⟩, t_ge dX6_drop_46 (by decide) rfl⟩
theorem ok_251_9 : BkOK mi i_251 (bpf P_251) 9 (B_251.getD 9 bk0) := ⟨67, ⟨1, s_aload_n dX6_drop_49 rfl, ⟨3, s_get (C := RX6) (T := TX6) (N := 30) dX6_drop_50 rfl (by decide) wt_1157 uw_X6, ⟨1, s_iload_n dX6_drop_53 rfl, ⟨1, s_aload_n dX6_drop_54 rfl, ⟨3, s_get (C := RX6) (T := TX6) (N := 30) dX6_drop_55 rfl (by decide) wt_1157 uw_X6, ⟨1, s_iload_n dX6_drop_58 rfl, ⟨2, s_bipush dX6_drop_59 rfl, ⟨1, s_iadd dX6_drop_61, ⟨1, s_iald dX6_drop_62, ⟨1, s_iast dX6_drop_63, ⟨3, s_iinc dX6_drop_64 rfl (by decide), rfl⟩⟩⟩⟩⟩⟩⟩⟩⟩⟩⟩, t_go dX6_drop_67 (by decide)⟩
theorem ok_251_10 : BkOK mi i_251 (bpf P_251) 10 (B_251.getD 10 bk0) := ⟨81, ⟨1, s_aload_n dX6_drop_70 rfl, ⟨3, s_get (C := RX6) (T := TX6) (N := 30) dX6_drop_71 rfl (by decide) wt_1157 uw_X6, ⟨1, s_iconst dX6_drop_74 rfl, ⟨1, s_dup2 dX6_drop_75, ⟨1, s_iald dX6_drop_76, ⟨1, s_iconst dX6_drop_77 rfl, ⟨1, s_isub dX6_drop_78, ⟨1, s_iast dX6_drop_79, ⟨1, s_aload_n dX6_drop_80 rfl, rfl⟩⟩⟩⟩⟩⟩⟩⟩⟩, t_cv rfl mi_182 mok_182 rfl (fun _ => ⟨rfl, by decide +kernel⟩) (fun hs' e => by cases e; intro E n b h; cases h) (fun q fs As rest h hp hA hr => (call_V (i := i_251) (j := i_182) (C := RX6) (T := TX6) (N := 30) dX6_drop_81 mok_182 rfl ⟨by decide, by decide⟩ np_182 rfl rfl wt_1275 wt_1277 ws_16 hp hA hr rfl).thr (fun _ => True.intro))⟩
theorem ok_251_11 : BkOK mi i_251 (bpf P_251) 11 (B_251.getD 11 bk0) := ⟨84, rfl, t_ret dX6_drop_84 rfl⟩
theorem ok_251 : ∀ b, BkOK mi i_251 (bpf P_251) b (B_251.getD b bk0)
  | 0 => ok_251_0
  | 1 => ok_251_1
  | 2 => ok_251_2
  | 3 => ok_251_3
  | 4 => ok_251_4
  | 5 => ok_251_5
  | 6 => ok_251_6
  | 7 => ok_251_7
  | 8 => ok_251_8
  | 9 => ok_251_9
  | 10 => ok_251_10
  | 11 => ok_251_11
  | b + 12 => bk_none mi i_251 (bpf P_251) (b + 12)
theorem ok_252_0 : BkOK mi i_252 (bpf P_252) 0 (B_252.getD 0 bk0) := ⟨5, ⟨1, s_aload_n dX6_sets_0 rfl, ⟨1, s_aload_n dX6_sets_1 rfl, ⟨3, s_get (C := RX6) (T := TX6) (N := 30) dX6_sets_2 rfl (by decide) wt_1157 uw_X6, rfl⟩⟩⟩, t_cv rfl mi_159 mok_159 rfl (fun _ => ⟨rfl, by decide +kernel⟩) (fun hs' e => by cases e; intro E n b h; cases h) (fun q fs As rest h hp hA hr => (call_V (i := i_252) (j := i_159) (C := RX6) (T := TX6) (N := 30) dX6_sets_5 mok_159 rfl ⟨by decide, by decide⟩ np_159 rfl rfl wt_1271 wt_1273 ws_15 hp hA hr rfl).thr (fun _ => True.intro))⟩
theorem ok_252_1 : BkOK mi i_252 (bpf P_252) 1 (B_252.getD 1 bk0) := ⟨23, ⟨1, s_aload_n dX6_sets_8 rfl, ⟨3, s_get (C := RX6) (T := TX6) (N := 30) dX6_sets_9 rfl (by decide) wt_1157 uw_X6, ⟨1, s_iload_n dX6_sets_12 rfl, ⟨1, s_iald dX6_sets_13, ⟨1, s_istore_n dX6_sets_14 rfl (by decide), ⟨1, s_aload_n dX6_sets_15 rfl, ⟨3, s_get (C := RX6) (T := TX6) (N := 30) dX6_sets_16 rfl (by decide) wt_1157 uw_X6, ⟨1, s_iload_n dX6_sets_19 rfl, ⟨1, s_iload_n dX6_sets_20 rfl, ⟨1, s_iast dX6_sets_21, ⟨1, s_iload_n dX6_sets_22 rfl, rfl⟩⟩⟩⟩⟩⟩⟩⟩⟩⟩⟩, t_ret dX6_sets_23 rfl⟩
theorem ok_252 : ∀ b, BkOK mi i_252 (bpf P_252) b (B_252.getD b bk0)
  | 0 => ok_252_0
  | 1 => ok_252_1
  | b + 2 => bk_none mi i_252 (bpf P_252) (b + 2)
theorem ok_253_0 : BkOK mi i_253 (bpf P_253) 0 (B_253.getD 0 bk0) := ⟨3, ⟨1, s_aload_n dX6_setRest_0 rfl, ⟨1, s_aload_n dX6_setRest_1 rfl, ⟨1, s_iload_n dX6_setRest_2 rfl, rfl⟩⟩⟩, t_cv rfl mi_188 mok_188 rfl (fun _ => ⟨rfl, by decide +kernel⟩) (fun hs' e => by cases e; intro E n b h; cases h) (fun q fs As rest h hp hA hr => (call_V (i := i_253) (j := i_188) (C := RX6) (T := TX6) (N := 30) dX6_setRest_3 mok_188 rfl ⟨by decide, by decide⟩ np_188 rfl rfl wt_1420 wt_1422 ws_40 hp hA hr rfl).thr (fun _ => True.intro))⟩
theorem ok_253_1 : BkOK mi i_253 (bpf P_253) 1 (B_253.getD 1 bk0) := ⟨6, rfl, t_ne0 dX6_setRest_6 (by decide) rfl⟩
theorem ok_253_2 : BkOK mi i_253 (bpf P_253) 2 (B_253.getD 2 bk0) := ⟨10, ⟨1, s_iconst dX6_setRest_9 rfl, rfl⟩, t_go dX6_setRest_10 (by decide)⟩
theorem ok_253_3 : BkOK mi i_253 (bpf P_253) 3 (B_253.getD 3 bk0) := ⟨17, ⟨1, s_iload_n dX6_setRest_13 rfl, ⟨1, s_iconst dX6_setRest_14 rfl, ⟨2, s_bipush dX6_setRest_15 rfl, rfl⟩⟩⟩, t_cs rfl mi_157 mok_157 rfl (fun As rest h hA hr => call_S dX6_setRest_17 mok_157 rfl ⟨by decide, by decide⟩ np_157 wt_1264 wt_1265 hA hr)⟩
theorem ok_253_4 : BkOK mi i_253 (bpf P_253) 4 (B_253.getD 4 bk0) := ⟨20, rfl, t_eq0 dX6_setRest_20 (by decide) rfl⟩
theorem ok_253_5 : BkOK mi i_253 (bpf P_253) 5 (B_253.getD 5 bk0) := ⟨24, ⟨1, s_iconst dX6_setRest_23 rfl, rfl⟩, t_go dX6_setRest_24 (by decide)⟩
theorem ok_253_6 : BkOK mi i_253 (bpf P_253) 6 (B_253.getD 6 bk0) := ⟨28, ⟨1, s_iconst dX6_setRest_27 rfl, rfl⟩, t_fall rfl⟩
theorem ok_253_7 : BkOK mi i_253 (bpf P_253) 7 (B_253.getD 7 bk0) := ⟨35, ⟨3, s_put (C := RX6) (T := TX6) (N := 30) tyX6 tyX6_ok nmX6 dX6_setRest_28 rfl (by decide) rfl (tyX6_ok 7 (by decide)) wt_1164 uw_X6, ⟨1, s_aload_n dX6_setRest_31 rfl, ⟨3, s_get (C := RX6) (T := TX6) (N := 30) dX6_setRest_32 rfl (by decide) wt_1164 uw_X6, rfl⟩⟩⟩, t_le0 dX6_setRest_35 (by decide) rfl⟩
theorem ok_253_8 : BkOK mi i_253 (bpf P_253) 8 (B_253.getD 8 bk0) := ⟨39, ⟨1, s_iconst dX6_setRest_38 rfl, rfl⟩, t_go dX6_setRest_39 (by decide)⟩
theorem ok_253_9 : BkOK mi i_253 (bpf P_253) 9 (B_253.getD 9 bk0) := ⟨53, ⟨1, s_aload_n dX6_setRest_42 rfl, ⟨2, s_bipush dX6_setRest_43 rfl, ⟨2, s_bipush dX6_setRest_45 rfl, ⟨1, s_iload_n dX6_setRest_47 rfl, ⟨1, s_imul dX6_setRest_48, ⟨1, s_iadd dX6_setRest_49, ⟨1, s_iconst dX6_setRest_50 rfl, ⟨1, s_iadd dX6_setRest_51, ⟨1, s_iload_n dX6_setRest_52 rfl, rfl⟩⟩⟩⟩⟩⟩⟩⟩⟩, t_cv rfl mi_252 mok_252 rfl (fun _ => ⟨rfl, by decide +kernel⟩) (fun hs' e => by cases e; intro E n b h; cases h) (fun q fs As rest h hp hA hr => (call_V (i := i_253) (j := i_252) (C := RX6) (T := TX6) (N := 30) dX6_setRest_53 mok_252 rfl ⟨by decide, by decide⟩ np_252 rfl rfl wt_1650 wt_1652 ws_71 hp hA hr rfl).thr (fun _ => True.intro))⟩
theorem ok_253_10 : BkOK mi i_253 (bpf P_253) 10 (B_253.getD 10 bk0) := ⟨56, rfl, t_ret dX6_setRest_56 rfl⟩
theorem ok_253 : ∀ b, BkOK mi i_253 (bpf P_253) b (B_253.getD b bk0)
  | 0 => ok_253_0
  | 1 => ok_253_1
  | 2 => ok_253_2
  | 3 => ok_253_3
  | 4 => ok_253_4
  | 5 => ok_253_5
  | 6 => ok_253_6
  | 7 => ok_253_7
  | 8 => ok_253_8
  | 9 => ok_253_9
  | 10 => ok_253_10
  | b + 11 => bk_none mi i_253 (bpf P_253) (b + 11)
theorem ok_254_0 : BkOK mi i_254 (bpf P_254) 0 (B_254.getD 0 bk0) := ⟨4, ⟨1, s_aload_n dX6_let_0 rfl, ⟨1, s_aload_n dX6_let_1 rfl, ⟨1, s_iload_n dX6_let_2 rfl, ⟨1, s_iload_n dX6_let_3 rfl, rfl⟩⟩⟩⟩, t_cv rfl mi_189 mok_189 rfl (fun _ => ⟨rfl, by decide +kernel⟩) (fun hs' e => by cases e; intro E n b h; cases h) (fun q fs As rest h hp hA hr => (call_V (i := i_254) (j := i_189) (C := RX6) (T := TX6) (N := 30) dX6_let_4 mok_189 rfl ⟨by decide, by decide⟩ np_189 rfl rfl wt_1459 wt_1461 ws_48 hp hA hr rfl).thr (fun _ => True.intro))⟩
theorem ok_254_1 : BkOK mi i_254 (bpf P_254) 1 (B_254.getD 1 bk0) := ⟨7, rfl, t_eq0 dX6_let_7 (by decide) rfl⟩
theorem ok_254_2 : BkOK mi i_254 (bpf P_254) 2 (B_254.getD 2 bk0) := ⟨11, ⟨1, s_iload_n dX6_let_10 rfl, rfl⟩, t_cs rfl mi_190 mok_190 rfl (fun As rest h hA hr => call_S dX6_let_11 mok_190 rfl ⟨by decide, by decide⟩ np_190 wt_1471 wt_1472 hA hr)⟩
theorem ok_254_3 : BkOK mi i_254 (bpf P_254) 3 (B_254.getD 3 bk0) := ⟨14, rfl, t_eq0 dX6_let_14 (by decide) rfl⟩
theorem ok_254_4 : BkOK mi i_254 (bpf P_254) 4 (B_254.getD 4 bk0) := ⟨18, ⟨1, s_iconst dX6_let_17 rfl, rfl⟩, t_go dX6_let_18 (by decide)⟩
theorem ok_254_5 : BkOK mi i_254 (bpf P_254) 5 (B_254.getD 5 bk0) := ⟨22, ⟨1, s_iconst dX6_let_21 rfl, rfl⟩, t_fall rfl⟩
theorem ok_254_6 : BkOK mi i_254 (bpf P_254) 6 (B_254.getD 6 bk0) := ⟨29, ⟨3, s_put (C := RX6) (T := TX6) (N := 30) tyX6 tyX6_ok nmX6 dX6_let_22 rfl (by decide) rfl (tyX6_ok 7 (by decide)) wt_1164 uw_X6, ⟨1, s_aload_n dX6_let_25 rfl, ⟨3, s_get (C := RX6) (T := TX6) (N := 30) dX6_let_26 rfl (by decide) wt_1164 uw_X6, rfl⟩⟩⟩, t_le0 dX6_let_29 (by decide) rfl⟩
theorem ok_254_7 : BkOK mi i_254 (bpf P_254) 7 (B_254.getD 7 bk0) := ⟨33, ⟨1, s_iconst dX6_let_32 rfl, rfl⟩, t_ret dX6_let_33 rfl⟩
theorem ok_254_8 : BkOK mi i_254 (bpf P_254) 8 (B_254.getD 8 bk0) := ⟨60, ⟨1, s_iconst dX6_let_34 rfl, ⟨1, s_iload_n dX6_let_35 rfl, ⟨1, s_iconst dX6_let_36 rfl, ⟨1, s_isub dX6_let_37, ⟨1, s_ishl dX6_let_38, ⟨2, s_istore dX6_let_39 (by decide), ⟨2, s_bipush dX6_let_41 rfl, ⟨2, s_bipush dX6_let_43 rfl, ⟨1, s_iload_n dX6_let_45 rfl, ⟨1, s_imul dX6_let_46, ⟨1, s_iadd dX6_let_47, ⟨1, s_iconst dX6_let_48 rfl, ⟨1, s_iadd dX6_let_49, ⟨1, s_iload_n dX6_let_50 rfl, ⟨1, s_iadd dX6_let_51, ⟨2, s_istore dX6_let_52 (by decide), ⟨1, s_aload_n dX6_let_54 rfl, ⟨1, s_aload_n dX6_let_55 rfl, ⟨2, s_iload dX6_let_56, ⟨2, s_iload dX6_let_58, rfl⟩⟩⟩⟩⟩⟩⟩⟩⟩⟩⟩⟩⟩⟩⟩⟩⟩⟩⟩⟩, t_eq0 dX6_let_60 (by decide) rfl⟩
theorem ok_254_9 : BkOK mi i_254 (bpf P_254) 9 (B_254.getD 9 bk0) := ⟨73, ⟨1, s_aload_n dX6_let_63 rfl, ⟨3, s_get (C := RX6) (T := TX6) (N := 30) dX6_let_64 rfl (by decide) wt_1157 uw_X6, ⟨2, s_iload dX6_let_67, ⟨1, s_iald dX6_let_69, ⟨2, s_iload dX6_let_70, ⟨1, s_ior dX6_let_72, rfl⟩⟩⟩⟩⟩⟩, t_go dX6_let_73 (by decide)⟩
theorem ok_254_10 : BkOK mi i_254 (bpf P_254) 10 (B_254.getD 10 bk0) := ⟨88, ⟨1, s_aload_n dX6_let_76 rfl, ⟨3, s_get (C := RX6) (T := TX6) (N := 30) dX6_let_77 rfl (by decide) wt_1157 uw_X6, ⟨2, s_iload dX6_let_80, ⟨1, s_iald dX6_let_82, ⟨2, s_iload dX6_let_83, ⟨1, s_iconst dX6_let_85 rfl, ⟨1, s_ixor dX6_let_86, ⟨1, s_iand dX6_let_87, rfl⟩⟩⟩⟩⟩⟩⟩⟩, t_fall rfl⟩
theorem ok_254_11 : BkOK mi i_254 (bpf P_254) 11 (B_254.getD 11 bk0) := ⟨88, rfl, t_cv rfl mi_252 mok_252 rfl (fun _ => ⟨rfl, by decide +kernel⟩) (fun hs' e => by cases e; intro E n b h; cases h) (fun q fs As rest h hp hA hr => (call_V (i := i_254) (j := i_252) (C := RX6) (T := TX6) (N := 30) dX6_let_88 mok_252 rfl ⟨by decide, by decide⟩ np_252 rfl rfl wt_1650 wt_1652 ws_71 hp hA hr rfl).thr (fun _ => True.intro))⟩
theorem ok_254_12 : BkOK mi i_254 (bpf P_254) 12 (B_254.getD 12 bk0) := ⟨101, ⟨3, s_put (C := RX6) (T := TX6) (N := 30) tyX6 tyX6_ok nmX6 dX6_let_91 rfl (by decide) rfl (tyX6_ok 27 (by decide)) wt_1184 uw_X6, ⟨1, s_aload_n dX6_let_94 rfl, ⟨3, s_get (C := RX6) (T := TX6) (N := 30) dX6_let_95 rfl (by decide) wt_1157 uw_X6, ⟨2, s_iload dX6_let_98, ⟨1, s_iald dX6_let_100, rfl⟩⟩⟩⟩⟩, t_ret dX6_let_101 rfl⟩
theorem ok_254 : ∀ b, BkOK mi i_254 (bpf P_254) b (B_254.getD b bk0)
  | 0 => ok_254_0
  | 1 => ok_254_1
  | 2 => ok_254_2
  | 3 => ok_254_3
  | 4 => ok_254_4
  | 5 => ok_254_5
  | 6 => ok_254_6
  | 7 => ok_254_7
  | 8 => ok_254_8
  | 9 => ok_254_9
  | 10 => ok_254_10
  | 11 => ok_254_11
  | 12 => ok_254_12
  | b + 13 => bk_none mi i_254 (bpf P_254) (b + 13)
theorem ok_255_0 : BkOK mi i_255 (bpf P_255) 0 (B_255.getD 0 bk0) := ⟨5, ⟨1, s_aload_n dX6_setWeight_0 rfl, ⟨1, s_iload_n dX6_setWeight_1 rfl, ⟨1, s_iconst dX6_setWeight_2 rfl, ⟨2, s_bipush dX6_setWeight_3 rfl, rfl⟩⟩⟩⟩, t_cs rfl mi_157 mok_157 rfl (fun As rest h hA hr => call_S dX6_setWeight_5 mok_157 rfl ⟨by decide, by decide⟩ np_157 wt_1264 wt_1265 hA hr)⟩
theorem ok_255_1 : BkOK mi i_255 (bpf P_255) 1 (B_255.getD 1 bk0) := ⟨8, rfl, t_ne0 dX6_setWeight_8 (by decide) rfl⟩
theorem ok_255_2 : BkOK mi i_255 (bpf P_255) 2 (B_255.getD 2 bk0) := ⟨12, ⟨1, s_iconst dX6_setWeight_11 rfl, rfl⟩, t_go dX6_setWeight_12 (by decide)⟩
theorem ok_255_3 : BkOK mi i_255 (bpf P_255) 3 (B_255.getD 3 bk0) := ⟨19, ⟨1, s_iload_n dX6_setWeight_15 rfl, ⟨1, s_iconst dX6_setWeight_16 rfl, ⟨2, s_bipush dX6_setWeight_17 rfl, rfl⟩⟩⟩, t_cs rfl mi_157 mok_157 rfl (fun As rest h hA hr => call_S dX6_setWeight_19 mok_157 rfl ⟨by decide, by decide⟩ np_157 wt_1264 wt_1265 hA hr)⟩
theorem ok_255_4 : BkOK mi i_255 (bpf P_255) 4 (B_255.getD 4 bk0) := ⟨22, rfl, t_eq0 dX6_setWeight_22 (by decide) rfl⟩
theorem ok_255_5 : BkOK mi i_255 (bpf P_255) 5 (B_255.getD 5 bk0) := ⟨26, ⟨1, s_iconst dX6_setWeight_25 rfl, rfl⟩, t_go dX6_setWeight_26 (by decide)⟩
theorem ok_255_6 : BkOK mi i_255 (bpf P_255) 6 (B_255.getD 6 bk0) := ⟨30, ⟨1, s_iconst dX6_setWeight_29 rfl, rfl⟩, t_fall rfl⟩
theorem ok_255_7 : BkOK mi i_255 (bpf P_255) 7 (B_255.getD 7 bk0) := ⟨37, ⟨3, s_put (C := RX6) (T := TX6) (N := 30) tyX6 tyX6_ok nmX6 dX6_setWeight_30 rfl (by decide) rfl (tyX6_ok 7 (by decide)) wt_1164 uw_X6, ⟨1, s_aload_n dX6_setWeight_33 rfl, ⟨3, s_get (C := RX6) (T := TX6) (N := 30) dX6_setWeight_34 rfl (by decide) wt_1164 uw_X6, rfl⟩⟩⟩, t_le0 dX6_setWeight_37 (by decide) rfl⟩
theorem ok_255_8 : BkOK mi i_255 (bpf P_255) 8 (B_255.getD 8 bk0) := ⟨41, ⟨1, s_iconst dX6_setWeight_40 rfl, rfl⟩, t_go dX6_setWeight_41 (by decide)⟩
theorem ok_255_9 : BkOK mi i_255 (bpf P_255) 9 (B_255.getD 9 bk0) := ⟨49, ⟨1, s_aload_n dX6_setWeight_44 rfl, ⟨1, s_iconst dX6_setWeight_45 rfl, ⟨1, s_iload_n dX6_setWeight_46 rfl, ⟨1, s_iadd dX6_setWeight_47, ⟨1, s_iload_n dX6_setWeight_48 rfl, rfl⟩⟩⟩⟩⟩, t_cv rfl mi_252 mok_252 rfl (fun _ => ⟨rfl, by decide +kernel⟩) (fun hs' e => by cases e; intro E n b h; cases h) (fun q fs As rest h hp hA hr => (call_V (i := i_255) (j := i_252) (C := RX6) (T := TX6) (N := 30) dX6_setWeight_49 mok_252 rfl ⟨by decide, by decide⟩ np_252 rfl rfl wt_1650 wt_1652 ws_71 hp hA hr rfl).thr (fun _ => True.intro))⟩
theorem ok_255_10 : BkOK mi i_255 (bpf P_255) 10 (B_255.getD 10 bk0) := ⟨52, rfl, t_ret dX6_setWeight_52 rfl⟩
theorem ok_255 : ∀ b, BkOK mi i_255 (bpf P_255) b (B_255.getD b bk0)
  | 0 => ok_255_0
  | 1 => ok_255_1
  | 2 => ok_255_2
  | 3 => ok_255_3
  | 4 => ok_255_4
  | 5 => ok_255_5
  | 6 => ok_255_6
  | 7 => ok_255_7
  | 8 => ok_255_8
  | 9 => ok_255_9
  | 10 => ok_255_10
  | b + 11 => bk_none mi i_255 (bpf P_255) (b + 11)
theorem ok_256_0 : BkOK mi i_256 (bpf P_256) 0 (B_256.getD 0 bk0) := ⟨2, ⟨1, s_iload_n dX6_setSpan_0 rfl, ⟨1, s_iload_n dX6_setSpan_1 rfl, rfl⟩⟩, t_eq dX6_setSpan_2 (by decide) rfl⟩
theorem ok_256_1 : BkOK mi i_256 (bpf P_256) 1 (B_256.getD 1 bk0) := ⟨9, ⟨1, s_iload_n dX6_setSpan_5 rfl, ⟨1, s_iconst dX6_setSpan_6 rfl, ⟨2, s_bipush dX6_setSpan_7 rfl, rfl⟩⟩⟩, t_cs rfl mi_157 mok_157 rfl (fun As rest h hA hr => call_S dX6_setSpan_9 mok_157 rfl ⟨by decide, by decide⟩ np_157 wt_1264 wt_1265 hA hr)⟩
theorem ok_256_2 : BkOK mi i_256 (bpf P_256) 2 (B_256.getD 2 bk0) := ⟨12, rfl, t_eq0 dX6_setSpan_12 (by decide) rfl⟩
theorem ok_256_3 : BkOK mi i_256 (bpf P_256) 3 (B_256.getD 3 bk0) := ⟨20, ⟨2, s_iload dX6_setSpan_15, ⟨1, s_iload_n dX6_setSpan_17 rfl, ⟨2, s_bipush dX6_setSpan_18 rfl, rfl⟩⟩⟩, t_cs rfl mi_157 mok_157 rfl (fun As rest h hA hr => call_S dX6_setSpan_20 mok_157 rfl ⟨by decide, by decide⟩ np_157 wt_1264 wt_1265 hA hr)⟩
theorem ok_256_4 : BkOK mi i_256 (bpf P_256) 4 (B_256.getD 4 bk0) := ⟨23, rfl, t_eq0 dX6_setSpan_23 (by decide) rfl⟩
theorem ok_256_5 : BkOK mi i_256 (bpf P_256) 5 (B_256.getD 5 bk0) := ⟨32, ⟨2, s_iload dX6_setSpan_26, ⟨2, s_iload dX6_setSpan_28, ⟨2, s_bipush dX6_setSpan_30 rfl, rfl⟩⟩⟩, t_cs rfl mi_157 mok_157 rfl (fun As rest h hA hr => call_S dX6_setSpan_32 mok_157 rfl ⟨by decide, by decide⟩ np_157 wt_1264 wt_1265 hA hr)⟩
theorem ok_256_6 : BkOK mi i_256 (bpf P_256) 6 (B_256.getD 6 bk0) := ⟨35, rfl, t_eq0 dX6_setSpan_35 (by decide) rfl⟩
theorem ok_256_7 : BkOK mi i_256 (bpf P_256) 7 (B_256.getD 7 bk0) := ⟨39, ⟨1, s_iconst dX6_setSpan_38 rfl, rfl⟩, t_go dX6_setSpan_39 (by decide)⟩
theorem ok_256_8 : BkOK mi i_256 (bpf P_256) 8 (B_256.getD 8 bk0) := ⟨43, ⟨1, s_iconst dX6_setSpan_42 rfl, rfl⟩, t_fall rfl⟩
theorem ok_256_9 : BkOK mi i_256 (bpf P_256) 9 (B_256.getD 9 bk0) := ⟨47, ⟨2, s_istore dX6_setSpan_43 (by decide), ⟨1, s_aload_n dX6_setSpan_45 rfl, ⟨1, s_iload_n dX6_setSpan_46 rfl, rfl⟩⟩⟩, t_cs rfl mi_190 mok_190 rfl (fun As rest h hA hr => call_S dX6_setSpan_47 mok_190 rfl ⟨by decide, by decide⟩ np_190 wt_1471 wt_1472 hA hr)⟩
theorem ok_256_10 : BkOK mi i_256 (bpf P_256) 10 (B_256.getD 10 bk0) := ⟨50, rfl, t_eq0 dX6_setSpan_50 (by decide) rfl⟩
theorem ok_256_11 : BkOK mi i_256 (bpf P_256) 11 (B_256.getD 11 bk0) := ⟨54, ⟨1, s_iload_n dX6_setSpan_53 rfl, rfl⟩, t_cs rfl mi_190 mok_190 rfl (fun As rest h hA hr => call_S dX6_setSpan_54 mok_190 rfl ⟨by decide, by decide⟩ np_190 wt_1471 wt_1472 hA hr)⟩
theorem ok_256_12 : BkOK mi i_256 (bpf P_256) 12 (B_256.getD 12 bk0) := ⟨57, rfl, t_ne0 dX6_setSpan_57 (by decide) rfl⟩
theorem ok_256_13 : BkOK mi i_256 (bpf P_256) 13 (B_256.getD 13 bk0) := ⟨61, ⟨1, s_iconst dX6_setSpan_60 rfl, rfl⟩, t_go dX6_setSpan_61 (by decide)⟩
theorem ok_256_14 : BkOK mi i_256 (bpf P_256) 14 (B_256.getD 14 bk0) := ⟨66, ⟨2, s_iload dX6_setSpan_64, rfl⟩, t_eq0 dX6_setSpan_66 (by decide) rfl⟩
theorem ok_256_15 : BkOK mi i_256 (bpf P_256) 15 (B_256.getD 15 bk0) := ⟨70, ⟨1, s_iconst dX6_setSpan_69 rfl, rfl⟩, t_go dX6_setSpan_70 (by decide)⟩
theorem ok_256_16 : BkOK mi i_256 (bpf P_256) 16 (B_256.getD 16 bk0) := ⟨74, ⟨1, s_iconst dX6_setSpan_73 rfl, rfl⟩, t_fall rfl⟩
theorem ok_256_17 : BkOK mi i_256 (bpf P_256) 17 (B_256.getD 17 bk0) := ⟨81, ⟨3, s_put (C := RX6) (T := TX6) (N := 30) tyX6 tyX6_ok nmX6 dX6_setSpan_74 rfl (by decide) rfl (tyX6_ok 7 (by decide)) wt_1164 uw_X6, ⟨1, s_aload_n dX6_setSpan_77 rfl, ⟨3, s_get (C := RX6) (T := TX6) (N := 30) dX6_setSpan_78 rfl (by decide) wt_1164 uw_X6, rfl⟩⟩⟩, t_le0 dX6_setSpan_81 (by decide) rfl⟩
theorem ok_256_18 : BkOK mi i_256 (bpf P_256) 18 (B_256.getD 18 bk0) := ⟨85, ⟨1, s_iconst dX6_setSpan_84 rfl, rfl⟩, t_ret dX6_setSpan_85 rfl⟩
theorem ok_256_19 : BkOK mi i_256 (bpf P_256) 19 (B_256.getD 19 bk0) := ⟨91, ⟨1, s_aload_n dX6_setSpan_86 rfl, ⟨1, s_aload_n dX6_setSpan_87 rfl, ⟨3, s_get (C := RX6) (T := TX6) (N := 30) dX6_setSpan_88 rfl (by decide) wt_1157 uw_X6, rfl⟩⟩⟩, t_cv rfl mi_159 mok_159 rfl (fun _ => ⟨rfl, by decide +kernel⟩) (fun hs' e => by cases e; intro E n b h; cases h) (fun q fs As rest h hp hA hr => (call_V (i := i_256) (j := i_159) (C := RX6) (T := TX6) (N := 30) dX6_setSpan_91 mok_159 rfl ⟨by decide, by decide⟩ np_159 rfl rfl wt_1271 wt_1273 ws_15 hp hA hr rfl).thr (fun _ => True.intro))⟩
theorem ok_256_20 : BkOK mi i_256 (bpf P_256) 20 (B_256.getD 20 bk0) := ⟨100, ⟨1, s_aload_n dX6_setSpan_94 rfl, ⟨3, s_get (C := RX6) (T := TX6) (N := 30) dX6_setSpan_95 rfl (by decide) wt_1157 uw_X6, ⟨1, s_iload_n dX6_setSpan_98 rfl, ⟨1, s_iload_n dX6_setSpan_99 rfl, rfl⟩⟩⟩⟩, t_cs rfl mi_155 mok_155 rfl (fun As rest h hA hr => call_S dX6_setSpan_100 mok_155 rfl ⟨by decide, by decide⟩ np_155 wt_1152 wt_1153 hA hr)⟩
theorem ok_256_21 : BkOK mi i_256 (bpf P_256) 21 (B_256.getD 21 bk0) := ⟨116, ⟨1, s_iconst dX6_setSpan_103 rfl, ⟨1, s_iadd dX6_setSpan_104, ⟨1, s_iald dX6_setSpan_105, ⟨2, s_istore dX6_setSpan_106 (by decide), ⟨1, s_aload_n dX6_setSpan_108 rfl, ⟨1, s_iload_n dX6_setSpan_109 rfl, ⟨1, s_iload_n dX6_setSpan_110 rfl, ⟨1, s_iload_n dX6_setSpan_111 rfl, ⟨2, s_iload dX6_setSpan_112, ⟨2, s_iload dX6_setSpan_114, rfl⟩⟩⟩⟩⟩⟩⟩⟩⟩⟩, t_cv rfl mi_153 mok_153 rfl (fun _ => ⟨rfl, by decide +kernel⟩) (fun hs' e => by cases e; intro E n b h; cases h) (fun q fs As rest h hp hA hr => (call_V (i := i_256) (j := i_153) (C := RX6) (T := TX6) (N := 30) dX6_setSpan_116 mok_153 rfl ⟨by decide, by decide⟩ np_153 rfl rfl wt_1148 wt_1150 ws_14 hp hA hr rfl).thr (fun _ => True.intro))⟩
theorem ok_256_22 : BkOK mi i_256 (bpf P_256) 22 (B_256.getD 22 bk0) := ⟨121, ⟨2, s_iload dX6_setSpan_119, rfl⟩, t_ret dX6_setSpan_121 rfl⟩
theorem ok_256 : ∀ b, BkOK mi i_256 (bpf P_256) b (B_256.getD b bk0)
  | 0 => ok_256_0
  | 1 => ok_256_1
  | 2 => ok_256_2
  | 3 => ok_256_3
  | 4 => ok_256_4
  | 5 => ok_256_5
  | 6 => ok_256_6
  | 7 => ok_256_7
  | 8 => ok_256_8
  | 9 => ok_256_9
  | 10 => ok_256_10
  | 11 => ok_256_11
  | 12 => ok_256_12
  | 13 => ok_256_13
  | 14 => ok_256_14
  | 15 => ok_256_15
  | 16 => ok_256_16
  | 17 => ok_256_17
  | 18 => ok_256_18
  | 19 => ok_256_19
  | 20 => ok_256_20
  | 21 => ok_256_21
  | 22 => ok_256_22
  | b + 23 => bk_none mi i_256 (bpf P_256) (b + 23)
theorem ok_257_0 : BkOK mi i_257 (bpf P_257) 0 (B_257.getD 0 bk0) := ⟨9, ⟨1, s_aload_n dX6_setHand_0 rfl, ⟨1, s_iconst dX6_setHand_1 rfl, ⟨3, s_put (C := RX6) (T := TX6) (N := 30) tyX6 tyX6_ok nmX6 dX6_setHand_2 rfl (by decide) rfl (tyX6_ok 7 (by decide)) wt_1164 uw_X6, ⟨1, s_aload_n dX6_setHand_5 rfl, ⟨1, s_aload_n dX6_setHand_6 rfl, ⟨1, s_iconst dX6_setHand_7 rfl, ⟨1, s_iload_n dX6_setHand_8 rfl, rfl⟩⟩⟩⟩⟩⟩⟩, t_eq0 dX6_setHand_9 (by decide) rfl⟩
theorem ok_257_1 : BkOK mi i_257 (bpf P_257) 1 (B_257.getD 1 bk0) := ⟨13, ⟨1, s_iconst dX6_setHand_12 rfl, rfl⟩, t_go dX6_setHand_13 (by decide)⟩
theorem ok_257_2 : BkOK mi i_257 (bpf P_257) 2 (B_257.getD 2 bk0) := ⟨17, ⟨1, s_iconst dX6_setHand_16 rfl, rfl⟩, t_fall rfl⟩
theorem ok_257_3 : BkOK mi i_257 (bpf P_257) 3 (B_257.getD 3 bk0) := ⟨17, rfl, t_cv rfl mi_252 mok_252 rfl (fun _ => ⟨rfl, by decide +kernel⟩) (fun hs' e => by cases e; intro E n b h; cases h) (fun q fs As rest h hp hA hr => (call_V (i := i_257) (j := i_252) (C := RX6) (T := TX6) (N := 30) dX6_setHand_17 mok_252 rfl ⟨by decide, by decide⟩ np_252 rfl rfl wt_1650 wt_1652 ws_71 hp hA hr rfl).thr (fun _ => True.intro))⟩
theorem ok_257_4 : BkOK mi i_257 (bpf P_257) 4 (B_257.getD 4 bk0) := ⟨24, ⟨3, s_put (C := RX6) (T := TX6) (N := 30) tyX6 tyX6_ok nmX6 dX6_setHand_20 rfl (by decide) rfl (tyX6_ok 27 (by decide)) wt_1184 uw_X6, ⟨1, s_aload_n dX6_setHand_23 rfl, rfl⟩⟩, t_cv rfl mi_212 mok_212 rfl (fun _ => ⟨rfl, by decide +kernel⟩) (fun hs' e => by cases e; intro E n b h; cases h) (fun q fs As rest h hp hA hr => (call_V (i := i_257) (j := i_212) (C := RX6) (T := TX6) (N := 30) dX6_setHand_24 mok_212 rfl ⟨by decide, by decide⟩ np_212 rfl rfl wt_1489 wt_1491 ws_50 hp hA hr rfl).thr (fun _ => True.intro))⟩
theorem ok_257_5 : BkOK mi i_257 (bpf P_257) 5 (B_257.getD 5 bk0) := ⟨27, rfl, t_cs rfl mi_213 mok_213 rfl (fun As rest h hA hr => call_S dX6_setHand_27 mok_213 rfl ⟨by decide, by decide⟩ np_213 wt_1524 wt_1525 hA hr)⟩
theorem ok_257_6 : BkOK mi i_257 (bpf P_257) 6 (B_257.getD 6 bk0) := ⟨30, rfl, t_ret dX6_setHand_30 rfl⟩
theorem ok_257 : ∀ b, BkOK mi i_257 (bpf P_257) b (B_257.getD b bk0)
  | 0 => ok_257_0
  | 1 => ok_257_1
  | 2 => ok_257_2
  | 3 => ok_257_3
  | 4 => ok_257_4
  | 5 => ok_257_5
  | 6 => ok_257_6
  | b + 7 => bk_none mi i_257 (bpf P_257) (b + 7)
theorem ok_258_0 : BkOK mi i_258 (bpf P_258) 0 (B_258.getD 0 bk0) := ⟨3, ⟨1, s_aload_n dX6_transpose_0 rfl, ⟨1, s_aload_n dX6_transpose_1 rfl, ⟨1, s_iload_n dX6_transpose_2 rfl, rfl⟩⟩⟩, t_cv rfl mi_243 mok_243 rfl (fun _ => ⟨rfl, by decide +kernel⟩) (fun hs' e => by cases e; intro E n b h; cases h) (fun q fs As rest h hp hA hr => (call_V (i := i_258) (j := i_243) (C := RX6) (T := TX6) (N := 30) dX6_transpose_3 mok_243 rfl ⟨by decide, by decide⟩ np_243 rfl rfl wt_1615 wt_1617 ws_68 hp hA hr rfl).thr (fun _ => True.intro))⟩
theorem ok_258_1 : BkOK mi i_258 (bpf P_258) 1 (B_258.getD 1 bk0) := ⟨6, rfl, t_eq0 dX6_transpose_6 (by decide) rfl⟩
theorem ok_258_2 : BkOK mi i_258 (bpf P_258) 2 (B_258.getD 2 bk0) := ⟨10, ⟨1, s_iconst dX6_transpose_9 rfl, rfl⟩, t_go dX6_transpose_10 (by decide)⟩
theorem ok_258_3 : BkOK mi i_258 (bpf P_258) 3 (B_258.getD 3 bk0) := ⟨14, ⟨1, s_iconst dX6_transpose_13 rfl, rfl⟩, t_fall rfl⟩
theorem ok_258_4 : BkOK mi i_258 (bpf P_258) 4 (B_258.getD 4 bk0) := ⟨21, ⟨3, s_put (C := RX6) (T := TX6) (N := 30) tyX6 tyX6_ok nmX6 dX6_transpose_14 rfl (by decide) rfl (tyX6_ok 7 (by decide)) wt_1164 uw_X6, ⟨1, s_aload_n dX6_transpose_17 rfl, ⟨3, s_get (C := RX6) (T := TX6) (N := 30) dX6_transpose_18 rfl (by decide) wt_1164 uw_X6, rfl⟩⟩⟩, t_le0 dX6_transpose_21 (by decide) rfl⟩
theorem ok_258_5 : BkOK mi i_258 (bpf P_258) 5 (B_258.getD 5 bk0) := ⟨25, ⟨1, s_iconst dX6_transpose_24 rfl, rfl⟩, t_ret dX6_transpose_25 rfl⟩
theorem ok_258_6 : BkOK mi i_258 (bpf P_258) 6 (B_258.getD 6 bk0) := ⟨31, ⟨1, s_aload_n dX6_transpose_26 rfl, ⟨1, s_aload_n dX6_transpose_27 rfl, ⟨3, s_get (C := RX6) (T := TX6) (N := 30) dX6_transpose_28 rfl (by decide) wt_1157 uw_X6, rfl⟩⟩⟩, t_cv rfl mi_159 mok_159 rfl (fun _ => ⟨rfl, by decide +kernel⟩) (fun hs' e => by cases e; intro E n b h; cases h) (fun q fs As rest h hp hA hr => (call_V (i := i_258) (j := i_159) (C := RX6) (T := TX6) (N := 30) dX6_transpose_31 mok_159 rfl ⟨by decide, by decide⟩ np_159 rfl rfl wt_1271 wt_1273 ws_15 hp hA hr rfl).thr (fun _ => True.intro))⟩
theorem ok_258_7 : BkOK mi i_258 (bpf P_258) 7 (B_258.getD 7 bk0) := ⟨36, ⟨1, s_aload_n dX6_transpose_34 rfl, ⟨1, s_iload_n dX6_transpose_35 rfl, rfl⟩⟩, t_cv rfl mi_244 mok_244 rfl (fun _ => ⟨rfl, by decide +kernel⟩) (fun hs' e => by cases e; intro E n b h; cases h) (fun q fs As rest h hp hA hr => (call_V (i := i_258) (j := i_244) (C := RX6) (T := TX6) (N := 30) dX6_transpose_36 mok_244 rfl ⟨by decide, by decide⟩ np_244 rfl rfl wt_1623 wt_1625 ws_70 hp hA hr rfl).thr (fun _ => True.intro))⟩
theorem ok_258_8 : BkOK mi i_258 (bpf P_258) 8 (B_258.getD 8 bk0) := ⟨40, ⟨1, s_aload_n dX6_transpose_39 rfl, rfl⟩, t_cv rfl mi_212 mok_212 rfl (fun _ => ⟨rfl, by decide +kernel⟩) (fun hs' e => by cases e; intro E n b h; cases h) (fun q fs As rest h hp hA hr => (call_V (i := i_258) (j := i_212) (C := RX6) (T := TX6) (N := 30) dX6_transpose_40 mok_212 rfl ⟨by decide, by decide⟩ np_212 rfl rfl wt_1489 wt_1491 ws_50 hp hA hr rfl).thr (fun _ => True.intro))⟩
theorem ok_258_9 : BkOK mi i_258 (bpf P_258) 9 (B_258.getD 9 bk0) := ⟨43, rfl, t_cs rfl mi_213 mok_213 rfl (fun As rest h hA hr => call_S dX6_transpose_43 mok_213 rfl ⟨by decide, by decide⟩ np_213 wt_1524 wt_1525 hA hr)⟩
theorem ok_258_10 : BkOK mi i_258 (bpf P_258) 10 (B_258.getD 10 bk0) := ⟨46, rfl, t_ret dX6_transpose_46 rfl⟩
theorem ok_258 : ∀ b, BkOK mi i_258 (bpf P_258) b (B_258.getD b bk0)
  | 0 => ok_258_0
  | 1 => ok_258_1
  | 2 => ok_258_2
  | 3 => ok_258_3
  | 4 => ok_258_4
  | 5 => ok_258_5
  | 6 => ok_258_6
  | 7 => ok_258_7
  | 8 => ok_258_8
  | 9 => ok_258_9
  | 10 => ok_258_10
  | b + 11 => bk_none mi i_258 (bpf P_258) (b + 11)
theorem ok_259_0 : BkOK mi i_259 (bpf P_259) 0 (B_259.getD 0 bk0) := ⟨2, ⟨1, s_aload_n dX6_fix_0 rfl, ⟨1, s_aload_n dX6_fix_1 rfl, rfl⟩⟩, t_cv rfl mi_214 mok_214 rfl (fun _ => ⟨rfl, by decide +kernel⟩) (fun hs' e => by cases e; intro E n b h; cases h) (fun q fs As rest h hp hA hr => (call_V (i := i_259) (j := i_214) (C := RX6) (T := TX6) (N := 30) dX6_fix_2 mok_214 rfl ⟨by decide, by decide⟩ np_214 rfl rfl wt_1531 wt_1533 ws_58 hp hA hr rfl).thr (fun _ => True.intro))⟩
theorem ok_259_1 : BkOK mi i_259 (bpf P_259) 1 (B_259.getD 1 bk0) := ⟨5, rfl, t_eq0 dX6_fix_5 (by decide) rfl⟩
theorem ok_259_2 : BkOK mi i_259 (bpf P_259) 2 (B_259.getD 2 bk0) := ⟨9, ⟨1, s_iconst dX6_fix_8 rfl, rfl⟩, t_go dX6_fix_9 (by decide)⟩
theorem ok_259_3 : BkOK mi i_259 (bpf P_259) 3 (B_259.getD 3 bk0) := ⟨13, ⟨1, s_iconst dX6_fix_12 rfl, rfl⟩, t_fall rfl⟩
theorem ok_259_4 : BkOK mi i_259 (bpf P_259) 4 (B_259.getD 4 bk0) := ⟨20, ⟨3, s_put (C := RX6) (T := TX6) (N := 30) tyX6 tyX6_ok nmX6 dX6_fix_13 rfl (by decide) rfl (tyX6_ok 7 (by decide)) wt_1164 uw_X6, ⟨1, s_aload_n dX6_fix_16 rfl, ⟨3, s_get (C := RX6) (T := TX6) (N := 30) dX6_fix_17 rfl (by decide) wt_1164 uw_X6, rfl⟩⟩⟩, t_le0 dX6_fix_20 (by decide) rfl⟩
theorem ok_259_5 : BkOK mi i_259 (bpf P_259) 5 (B_259.getD 5 bk0) := ⟨24, ⟨1, s_iconst dX6_fix_23 rfl, rfl⟩, t_ret dX6_fix_24 rfl⟩
theorem ok_259_6 : BkOK mi i_259 (bpf P_259) 6 (B_259.getD 6 bk0) := ⟨30, ⟨1, s_aload_n dX6_fix_25 rfl, ⟨1, s_aload_n dX6_fix_26 rfl, ⟨3, s_get (C := RX6) (T := TX6) (N := 30) dX6_fix_27 rfl (by decide) wt_1157 uw_X6, rfl⟩⟩⟩, t_cv rfl mi_159 mok_159 rfl (fun _ => ⟨rfl, by decide +kernel⟩) (fun hs' e => by cases e; intro E n b h; cases h) (fun q fs As rest h hp hA hr => (call_V (i := i_259) (j := i_159) (C := RX6) (T := TX6) (N := 30) dX6_fix_30 mok_159 rfl ⟨by decide, by decide⟩ np_159 rfl rfl wt_1271 wt_1273 ws_15 hp hA hr rfl).thr (fun _ => True.intro))⟩
theorem ok_259_7 : BkOK mi i_259 (bpf P_259) 7 (B_259.getD 7 bk0) := ⟨37, ⟨1, s_iconst dX6_fix_33 rfl, ⟨1, s_istore_n dX6_fix_34 rfl (by decide), ⟨1, s_iconst dX6_fix_35 rfl, ⟨1, s_istore_n dX6_fix_36 rfl (by decide), rfl⟩⟩⟩⟩, t_fall rfl⟩
theorem ok_259_8 : BkOK mi i_259 (bpf P_259) 8 (B_259.getD 8 bk0) := ⟨39, ⟨1, s_iload_n dX6_fix_37 rfl, ⟨1, s_aload_n dX6_fix_38 rfl, rfl⟩⟩, t_cv rfl mi_182 mok_182 rfl (fun _ => ⟨rfl, by decide +kernel⟩) (fun hs' e => by cases e; intro E n b h; cases h) (fun q fs As rest h hp hA hr => (call_V (i := i_259) (j := i_182) (C := RX6) (T := TX6) (N := 30) dX6_fix_39 mok_182 rfl ⟨by decide, by decide⟩ np_182 rfl rfl wt_1275 wt_1277 ws_16 hp hA hr rfl).thr (fun _ => True.intro))⟩
theorem ok_259_9 : BkOK mi i_259 (bpf P_259) 9 (B_259.getD 9 bk0) := ⟨42, rfl, t_ge dX6_fix_42 (by decide) rfl⟩
theorem ok_259_10 : BkOK mi i_259 (bpf P_259) 10 (B_259.getD 10 bk0) := ⟨47, ⟨1, s_iconst dX6_fix_45 rfl, ⟨1, s_istore_n dX6_fix_46 rfl (by decide), rfl⟩⟩, t_fall rfl⟩
theorem ok_259_11 : BkOK mi i_259 (bpf P_259) 11 (B_259.getD 11 bk0) := ⟨50, ⟨1, s_iload_n dX6_fix_47 rfl, ⟨1, s_aload_n dX6_fix_48 rfl, ⟨1, s_iload_n dX6_fix_49 rfl, rfl⟩⟩⟩, t_cv rfl mi_183 mok_183 rfl (fun _ => ⟨rfl, by decide +kernel⟩) (fun hs' e => by cases e; intro E n b h; cases h) (fun q fs As rest h hp hA hr => (call_V (i := i_259) (j := i_183) (C := RX6) (T := TX6) (N := 30) dX6_fix_50 mok_183 rfl ⟨by decide, by decide⟩ np_183 rfl rfl wt_1381 wt_1383 ws_32 hp hA hr rfl).thr (fun _ => True.intro))⟩
theorem ok_259_12 : BkOK mi i_259 (bpf P_259) 12 (B_259.getD 12 bk0) := ⟨53, rfl, t_ge dX6_fix_53 (by decide) rfl⟩
theorem ok_259_13 : BkOK mi i_259 (bpf P_259) 13 (B_259.getD 13 bk0) := ⟨59, ⟨1, s_aload_n dX6_fix_56 rfl, ⟨1, s_iload_n dX6_fix_57 rfl, ⟨1, s_iload_n dX6_fix_58 rfl, rfl⟩⟩⟩, t_cv rfl mi_186 mok_186 rfl (fun _ => ⟨rfl, by decide +kernel⟩) (fun hs' e => by cases e; intro E n b h; cases h) (fun q fs As rest h hp hA hr => (call_V (i := i_259) (j := i_186) (C := RX6) (T := TX6) (N := 30) dX6_fix_59 mok_186 rfl ⟨by decide, by decide⟩ np_186 rfl rfl wt_1447 wt_1449 ws_46 hp hA hr rfl).thr (fun _ => True.intro))⟩
theorem ok_259_14 : BkOK mi i_259 (bpf P_259) 14 (B_259.getD 14 bk0) := ⟨72, ⟨2, s_istore dX6_fix_62 (by decide), ⟨1, s_iload_n dX6_fix_64 rfl, ⟨2, s_iload dX6_fix_65, ⟨2, s_iload dX6_fix_67, ⟨1, s_iconst dX6_fix_69 rfl, ⟨1, s_isub dX6_fix_70, ⟨1, s_iand dX6_fix_71, rfl⟩⟩⟩⟩⟩⟩⟩, t_ne0 dX6_fix_72 (by decide) rfl⟩
theorem ok_259_15 : BkOK mi i_259 (bpf P_259) 15 (B_259.getD 15 bk0) := ⟨76, ⟨1, s_iconst dX6_fix_75 rfl, rfl⟩, t_go dX6_fix_76 (by decide)⟩
theorem ok_259_16 : BkOK mi i_259 (bpf P_259) 16 (B_259.getD 16 bk0) := ⟨80, ⟨1, s_iconst dX6_fix_79 rfl, rfl⟩, t_fall rfl⟩
theorem ok_259_17 : BkOK mi i_259 (bpf P_259) 17 (B_259.getD 17 bk0) := ⟨110, ⟨1, s_iadd dX6_fix_80, ⟨1, s_istore_n dX6_fix_81 rfl (by decide), ⟨1, s_aload_n dX6_fix_82 rfl, ⟨3, s_get (C := RX6) (T := TX6) (N := 30) dX6_fix_83 rfl (by decide) wt_1157 uw_X6, ⟨2, s_bipush dX6_fix_86 rfl, ⟨2, s_bipush dX6_fix_88 rfl, ⟨1, s_iload_n dX6_fix_90 rfl, ⟨1, s_imul dX6_fix_91, ⟨1, s_iadd dX6_fix_92, ⟨1, s_iconst dX6_fix_93 rfl, ⟨1, s_iadd dX6_fix_94, ⟨1, s_iload_n dX6_fix_95 rfl, ⟨1, s_iadd dX6_fix_96, ⟨1, s_iconst dX6_fix_97 rfl, ⟨1, s_aload_n dX6_fix_98 rfl, ⟨3, s_get (C := RX6) (T := TX6) (N := 30) dX6_fix_99 rfl (by decide) wt_1175 uw_X6, ⟨1, s_aload_n dX6_fix_102 rfl, ⟨3, s_get (C := RX6) (T := TX6) (N := 30) dX6_fix_103 rfl (by decide) wt_1178 uw_X6, ⟨1, s_iload_n dX6_fix_106 rfl, ⟨1, s_iald dX6_fix_107, ⟨1, s_iald dX6_fix_108, ⟨1, s_iload_n dX6_fix_109 rfl, rfl⟩⟩⟩⟩⟩⟩⟩⟩⟩⟩⟩⟩⟩⟩⟩⟩⟩⟩⟩⟩⟩⟩, t_cs rfl mi_199 mok_199 rfl (fun As rest h hA hr => call_S dX6_fix_110 mok_199 rfl ⟨by decide, by decide⟩ np_199 wt_1432 wt_1433 hA hr)⟩
theorem ok_259_18 : BkOK mi i_259 (bpf P_259) 18 (B_259.getD 18 bk0) := ⟨120, ⟨1, s_iconst dX6_fix_113 rfl, ⟨1, s_isub dX6_fix_114, ⟨1, s_ishl dX6_fix_115, ⟨1, s_iast dX6_fix_116, ⟨3, s_iinc dX6_fix_117 rfl (by decide), rfl⟩⟩⟩⟩⟩, t_go dX6_fix_120 (by decide)⟩
theorem ok_259_19 : BkOK mi i_259 (bpf P_259) 19 (B_259.getD 19 bk0) := ⟨126, ⟨3, s_iinc dX6_fix_123 rfl (by decide), rfl⟩, t_go dX6_fix_126 (by decide)⟩
theorem ok_259_20 : BkOK mi i_259 (bpf P_259) 20 (B_259.getD 20 bk0) := ⟨130, ⟨1, s_iload_n dX6_fix_129 rfl, rfl⟩, t_ret dX6_fix_130 rfl⟩
theorem ok_259 : ∀ b, BkOK mi i_259 (bpf P_259) b (B_259.getD b bk0)
  | 0 => ok_259_0
  | 1 => ok_259_1
  | 2 => ok_259_2
  | 3 => ok_259_3
  | 4 => ok_259_4
  | 5 => ok_259_5
  | 6 => ok_259_6
  | 7 => ok_259_7
  | 8 => ok_259_8
  | 9 => ok_259_9
  | 10 => ok_259_10
  | 11 => ok_259_11
  | 12 => ok_259_12
  | 13 => ok_259_13
  | 14 => ok_259_14
  | 15 => ok_259_15
  | 16 => ok_259_16
  | 17 => ok_259_17
  | 18 => ok_259_18
  | 19 => ok_259_19
  | 20 => ok_259_20
  | b + 21 => bk_none mi i_259 (bpf P_259) (b + 21)
theorem ok_260_0 : BkOK mi i_260 (bpf P_260) 0 (B_260.getD 0 bk0) := ⟨20, ⟨1, s_aload_n dX6_says_0 rfl, ⟨3, s_get (C := RX6) (T := TX6) (N := 30) dX6_says_1 rfl (by decide) wt_1185 uw_X6, ⟨1, s_aload_n dX6_says_4 rfl, ⟨3, s_get (C := RX6) (T := TX6) (N := 30) dX6_says_5 rfl (by decide) wt_1186 uw_X6, ⟨1, s_iload_n dX6_says_8 rfl, ⟨1, s_iast dX6_says_9, ⟨1, s_aload_n dX6_says_10 rfl, ⟨1, s_dup dX6_says_11, ⟨3, s_get (C := RX6) (T := TX6) (N := 30) dX6_says_12 rfl (by decide) wt_1186 uw_X6, ⟨1, s_iconst dX6_says_15 rfl, ⟨1, s_iadd dX6_says_16, ⟨3, s_put (C := RX6) (T := TX6) (N := 30) tyX6 tyX6_ok nmX6 dX6_says_17 rfl (by decide) rfl (tyX6_ok 29 (by decide)) wt_1186 uw_X6, rfl⟩⟩⟩⟩⟩⟩⟩⟩⟩⟩⟩⟩, t_retV dX6_says_20 rfl⟩
theorem ok_260 : ∀ b, BkOK mi i_260 (bpf P_260) b (B_260.getD b bk0)
  | 0 => ok_260_0
  | b + 1 => bk_none mi i_260 (bpf P_260) (b + 1)
theorem ok_261_0 : BkOK mi i_261 (bpf P_261) 0 (B_261.getD 0 bk0) := ⟨2, ⟨1, s_aload_n dX6_writeFingers_0 rfl, ⟨1, s_aload_n dX6_writeFingers_1 rfl, rfl⟩⟩, t_cv rfl mi_214 mok_214 rfl (fun _ => ⟨rfl, by decide +kernel⟩) (fun hs' e => by cases e; intro E n b h; cases h) (fun q fs As rest h hp hA hr => (call_V (i := i_261) (j := i_214) (C := RX6) (T := TX6) (N := 30) dX6_writeFingers_2 mok_214 rfl ⟨by decide, by decide⟩ np_214 rfl rfl wt_1531 wt_1533 ws_58 hp hA hr rfl).thr (fun _ => True.intro))⟩
theorem ok_261_1 : BkOK mi i_261 (bpf P_261) 1 (B_261.getD 1 bk0) := ⟨5, rfl, t_eq0 dX6_writeFingers_5 (by decide) rfl⟩
theorem ok_261_2 : BkOK mi i_261 (bpf P_261) 2 (B_261.getD 2 bk0) := ⟨9, ⟨1, s_iconst dX6_writeFingers_8 rfl, rfl⟩, t_go dX6_writeFingers_9 (by decide)⟩
theorem ok_261_3 : BkOK mi i_261 (bpf P_261) 3 (B_261.getD 3 bk0) := ⟨13, ⟨1, s_iconst dX6_writeFingers_12 rfl, rfl⟩, t_fall rfl⟩
theorem ok_261_4 : BkOK mi i_261 (bpf P_261) 4 (B_261.getD 4 bk0) := ⟨20, ⟨3, s_put (C := RX6) (T := TX6) (N := 30) tyX6 tyX6_ok nmX6 dX6_writeFingers_13 rfl (by decide) rfl (tyX6_ok 7 (by decide)) wt_1164 uw_X6, ⟨1, s_aload_n dX6_writeFingers_16 rfl, ⟨3, s_get (C := RX6) (T := TX6) (N := 30) dX6_writeFingers_17 rfl (by decide) wt_1164 uw_X6, rfl⟩⟩⟩, t_le0 dX6_writeFingers_20 (by decide) rfl⟩
theorem ok_261_5 : BkOK mi i_261 (bpf P_261) 5 (B_261.getD 5 bk0) := ⟨24, ⟨1, s_iconst dX6_writeFingers_23 rfl, rfl⟩, t_ret dX6_writeFingers_24 rfl⟩
theorem ok_261_6 : BkOK mi i_261 (bpf P_261) 6 (B_261.getD 6 bk0) := ⟨32, ⟨1, s_aload_n dX6_writeFingers_25 rfl, ⟨1, s_iconst dX6_writeFingers_26 rfl, ⟨3, s_put (C := RX6) (T := TX6) (N := 30) tyX6 tyX6_ok nmX6 dX6_writeFingers_27 rfl (by decide) rfl (tyX6_ok 29 (by decide)) wt_1186 uw_X6, ⟨1, s_iconst dX6_writeFingers_30 rfl, ⟨1, s_istore_n dX6_writeFingers_31 rfl (by decide), rfl⟩⟩⟩⟩⟩, t_fall rfl⟩
theorem ok_261_7 : BkOK mi i_261 (bpf P_261) 7 (B_261.getD 7 bk0) := ⟨34, ⟨1, s_iload_n dX6_writeFingers_32 rfl, ⟨1, s_aload_n dX6_writeFingers_33 rfl, rfl⟩⟩, t_cv rfl mi_182 mok_182 rfl (fun _ => ⟨rfl, by decide +kernel⟩) (fun hs' e => by cases e; intro E n b h; cases h) (fun q fs As rest h hp hA hr => (call_V (i := i_261) (j := i_182) (C := RX6) (T := TX6) (N := 30) dX6_writeFingers_34 mok_182 rfl ⟨by decide, by decide⟩ np_182 rfl rfl wt_1275 wt_1277 ws_16 hp hA hr rfl).thr (fun _ => True.intro))⟩
theorem ok_261_8 : BkOK mi i_261 (bpf P_261) 8 (B_261.getD 8 bk0) := ⟨37, rfl, t_ge dX6_writeFingers_37 (by decide) rfl⟩
theorem ok_261_9 : BkOK mi i_261 (bpf P_261) 9 (B_261.getD 9 bk0) := ⟨41, ⟨1, s_iload_n dX6_writeFingers_40 rfl, rfl⟩, t_le0 dX6_writeFingers_41 (by decide) rfl⟩
theorem ok_261_10 : BkOK mi i_261 (bpf P_261) 10 (B_261.getD 10 bk0) := ⟨47, ⟨1, s_aload_n dX6_writeFingers_44 rfl, ⟨2, s_bipush dX6_writeFingers_45 rfl, rfl⟩⟩, t_cv rfl mi_260 mok_260 rfl (fun _ => ⟨rfl, by decide +kernel⟩) (fun hs' e => by cases e; intro E n b h; cases h) (fun q fs As rest h hp hA hr => (call_V (i := i_261) (j := i_260) (C := RX6) (T := TX6) (N := 30) dX6_writeFingers_47 mok_260 rfl ⟨by decide, by decide⟩ np_260 rfl rfl wt_1682 wt_1684 ws_72 hp hA hr rfl).thr (fun _ => True.intro))⟩
theorem ok_261_11 : BkOK mi i_261 (bpf P_261) 11 (B_261.getD 11 bk0) := ⟨52, ⟨1, s_iconst dX6_writeFingers_50 rfl, ⟨1, s_istore_n dX6_writeFingers_51 rfl (by decide), rfl⟩⟩, t_fall rfl⟩
theorem ok_261_12 : BkOK mi i_261 (bpf P_261) 12 (B_261.getD 12 bk0) := ⟨55, ⟨1, s_iload_n dX6_writeFingers_52 rfl, ⟨1, s_aload_n dX6_writeFingers_53 rfl, ⟨1, s_iload_n dX6_writeFingers_54 rfl, rfl⟩⟩⟩, t_cv rfl mi_183 mok_183 rfl (fun _ => ⟨rfl, by decide +kernel⟩) (fun hs' e => by cases e; intro E n b h; cases h) (fun q fs As rest h hp hA hr => (call_V (i := i_261) (j := i_183) (C := RX6) (T := TX6) (N := 30) dX6_writeFingers_55 mok_183 rfl ⟨by decide, by decide⟩ np_183 rfl rfl wt_1381 wt_1383 ws_32 hp hA hr rfl).thr (fun _ => True.intro))⟩
theorem ok_261_13 : BkOK mi i_261 (bpf P_261) 13 (B_261.getD 13 bk0) := ⟨58, rfl, t_ge dX6_writeFingers_58 (by decide) rfl⟩
theorem ok_261_14 : BkOK mi i_261 (bpf P_261) 14 (B_261.getD 14 bk0) := ⟨76, ⟨1, s_aload_n dX6_writeFingers_61 rfl, ⟨2, s_bipush dX6_writeFingers_62 rfl, ⟨1, s_aload_n dX6_writeFingers_64 rfl, ⟨3, s_get (C := RX6) (T := TX6) (N := 30) dX6_writeFingers_65 rfl (by decide) wt_1175 uw_X6, ⟨1, s_aload_n dX6_writeFingers_68 rfl, ⟨3, s_get (C := RX6) (T := TX6) (N := 30) dX6_writeFingers_69 rfl (by decide) wt_1178 uw_X6, ⟨1, s_iload_n dX6_writeFingers_72 rfl, ⟨1, s_iald dX6_writeFingers_73, ⟨1, s_iald dX6_writeFingers_74, ⟨1, s_iload_n dX6_writeFingers_75 rfl, rfl⟩⟩⟩⟩⟩⟩⟩⟩⟩⟩, t_cs rfl mi_199 mok_199 rfl (fun As rest h hA hr => call_S dX6_writeFingers_76 mok_199 rfl ⟨by decide, by decide⟩ np_199 wt_1432 wt_1433 hA hr)⟩
theorem ok_261_15 : BkOK mi i_261 (bpf P_261) 15 (B_261.getD 15 bk0) := ⟨80, ⟨1, s_iadd dX6_writeFingers_79, rfl⟩, t_cv rfl mi_260 mok_260 rfl (fun _ => ⟨rfl, by decide +kernel⟩) (fun hs' e => by cases e; intro E n b h; cases h) (fun q fs As rest h hp hA hr => (call_V (i := i_261) (j := i_260) (C := RX6) (T := TX6) (N := 30) dX6_writeFingers_80 mok_260 rfl ⟨by decide, by decide⟩ np_260 rfl rfl wt_1682 wt_1684 ws_72 hp hA hr rfl).thr (fun _ => True.intro))⟩
theorem ok_261_16 : BkOK mi i_261 (bpf P_261) 16 (B_261.getD 16 bk0) := ⟨86, ⟨3, s_iinc dX6_writeFingers_83 rfl (by decide), rfl⟩, t_go dX6_writeFingers_86 (by decide)⟩
theorem ok_261_17 : BkOK mi i_261 (bpf P_261) 17 (B_261.getD 17 bk0) := ⟨93, ⟨1, s_iload_n dX6_writeFingers_89 rfl, ⟨1, s_iconst dX6_writeFingers_90 rfl, ⟨1, s_iadd dX6_writeFingers_91, ⟨1, s_aload_n dX6_writeFingers_92 rfl, rfl⟩⟩⟩⟩, t_cv rfl mi_182 mok_182 rfl (fun _ => ⟨rfl, by decide +kernel⟩) (fun hs' e => by cases e; intro E n b h; cases h) (fun q fs As rest h hp hA hr => (call_V (i := i_261) (j := i_182) (C := RX6) (T := TX6) (N := 30) dX6_writeFingers_93 mok_182 rfl ⟨by decide, by decide⟩ np_182 rfl rfl wt_1275 wt_1277 ws_16 hp hA hr rfl).thr (fun _ => True.intro))⟩
theorem ok_261_18 : BkOK mi i_261 (bpf P_261) 18 (B_261.getD 18 bk0) := ⟨96, rfl, t_ge dX6_writeFingers_96 (by decide) rfl⟩
theorem ok_261_19 : BkOK mi i_261 (bpf P_261) 19 (B_261.getD 19 bk0) := ⟨101, ⟨1, s_aload_n dX6_writeFingers_99 rfl, ⟨1, s_iload_n dX6_writeFingers_100 rfl, rfl⟩⟩, t_cv rfl mi_193 mok_193 rfl (fun _ => ⟨rfl, by decide +kernel⟩) (fun hs' e => by cases e; intro E n b h; cases h) (fun q fs As rest h hp hA hr => (call_V (i := i_261) (j := i_193) (C := RX6) (T := TX6) (N := 30) dX6_writeFingers_101 mok_193 rfl ⟨by decide, by decide⟩ np_193 rfl rfl wt_1404 wt_1406 ws_37 hp hA hr rfl).thr (fun _ => True.intro))⟩
theorem ok_261_20 : BkOK mi i_261 (bpf P_261) 20 (B_261.getD 20 bk0) := ⟨104, rfl, t_eq0 dX6_writeFingers_104 (by decide) rfl⟩
theorem ok_261_21 : BkOK mi i_261 (bpf P_261) 21 (B_261.getD 21 bk0) := ⟨110, ⟨1, s_aload_n dX6_writeFingers_107 rfl, ⟨2, s_bipush dX6_writeFingers_108 rfl, rfl⟩⟩, t_cv rfl mi_260 mok_260 rfl (fun _ => ⟨rfl, by decide +kernel⟩) (fun hs' e => by cases e; intro E n b h; cases h) (fun q fs As rest h hp hA hr => (call_V (i := i_261) (j := i_260) (C := RX6) (T := TX6) (N := 30) dX6_writeFingers_110 mok_260 rfl ⟨by decide, by decide⟩ np_260 rfl rfl wt_1682 wt_1684 ws_72 hp hA hr rfl).thr (fun _ => True.intro))⟩
theorem ok_261_22 : BkOK mi i_261 (bpf P_261) 22 (B_261.getD 22 bk0) := ⟨116, ⟨3, s_iinc dX6_writeFingers_113 rfl (by decide), rfl⟩, t_go dX6_writeFingers_116 (by decide)⟩
theorem ok_261_23 : BkOK mi i_261 (bpf P_261) 23 (B_261.getD 23 bk0) := ⟨123, ⟨1, s_aload_n dX6_writeFingers_119 rfl, ⟨3, s_get (C := RX6) (T := TX6) (N := 30) dX6_writeFingers_120 rfl (by decide) wt_1186 uw_X6, rfl⟩⟩, t_ret dX6_writeFingers_123 rfl⟩
theorem ok_261 : ∀ b, BkOK mi i_261 (bpf P_261) b (B_261.getD b bk0)
  | 0 => ok_261_0
  | 1 => ok_261_1
  | 2 => ok_261_2
  | 3 => ok_261_3
  | 4 => ok_261_4
  | 5 => ok_261_5
  | 6 => ok_261_6
  | 7 => ok_261_7
  | 8 => ok_261_8
  | 9 => ok_261_9
  | 10 => ok_261_10
  | 11 => ok_261_11
  | 12 => ok_261_12
  | 13 => ok_261_13
  | 14 => ok_261_14
  | 15 => ok_261_15
  | 16 => ok_261_16
  | 17 => ok_261_17
  | 18 => ok_261_18
  | 19 => ok_261_19
  | 20 => ok_261_20
  | 21 => ok_261_21
  | 22 => ok_261_22
  | 23 => ok_261_23
  | b + 24 => bk_none mi i_261 (bpf P_261) (b + 24)
theorem ok_262_0 : BkOK mi i_262 (bpf P_262) 0 (B_262.getD 0 bk0) := ⟨9, ⟨1, s_aload_n dX6_writtenByte_0 rfl, ⟨1, s_iload_n dX6_writtenByte_1 rfl, ⟨1, s_iconst dX6_writtenByte_2 rfl, ⟨1, s_aload_n dX6_writtenByte_3 rfl, ⟨3, s_get (C := RX6) (T := TX6) (N := 30) dX6_writtenByte_4 rfl (by decide) wt_1186 uw_X6, ⟨1, s_iconst dX6_writtenByte_7 rfl, ⟨1, s_isub dX6_writtenByte_8, rfl⟩⟩⟩⟩⟩⟩⟩, t_cs rfl mi_157 mok_157 rfl (fun As rest h hA hr => call_S dX6_writtenByte_9 mok_157 rfl ⟨by decide, by decide⟩ np_157 wt_1264 wt_1265 hA hr)⟩
theorem ok_262_1 : BkOK mi i_262 (bpf P_262) 1 (B_262.getD 1 bk0) := ⟨12, rfl, t_eq0 dX6_writtenByte_12 (by decide) rfl⟩
theorem ok_262_2 : BkOK mi i_262 (bpf P_262) 2 (B_262.getD 2 bk0) := ⟨16, ⟨1, s_iconst dX6_writtenByte_15 rfl, rfl⟩, t_go dX6_writtenByte_16 (by decide)⟩
theorem ok_262_3 : BkOK mi i_262 (bpf P_262) 3 (B_262.getD 3 bk0) := ⟨20, ⟨1, s_iconst dX6_writtenByte_19 rfl, rfl⟩, t_fall rfl⟩
theorem ok_262_4 : BkOK mi i_262 (bpf P_262) 4 (B_262.getD 4 bk0) := ⟨27, ⟨3, s_put (C := RX6) (T := TX6) (N := 30) tyX6 tyX6_ok nmX6 dX6_writtenByte_20 rfl (by decide) rfl (tyX6_ok 7 (by decide)) wt_1164 uw_X6, ⟨1, s_aload_n dX6_writtenByte_23 rfl, ⟨3, s_get (C := RX6) (T := TX6) (N := 30) dX6_writtenByte_24 rfl (by decide) wt_1164 uw_X6, rfl⟩⟩⟩, t_le0 dX6_writtenByte_27 (by decide) rfl⟩
theorem ok_262_5 : BkOK mi i_262 (bpf P_262) 5 (B_262.getD 5 bk0) := ⟨31, ⟨1, s_iconst dX6_writtenByte_30 rfl, rfl⟩, t_go dX6_writtenByte_31 (by decide)⟩
theorem ok_262_6 : BkOK mi i_262 (bpf P_262) 6 (B_262.getD 6 bk0) := ⟨40, ⟨1, s_aload_n dX6_writtenByte_34 rfl, ⟨3, s_get (C := RX6) (T := TX6) (N := 30) dX6_writtenByte_35 rfl (by decide) wt_1185 uw_X6, ⟨1, s_iload_n dX6_writtenByte_38 rfl, ⟨1, s_iald dX6_writtenByte_39, rfl⟩⟩⟩⟩, t_fall rfl⟩
theorem ok_262_7 : BkOK mi i_262 (bpf P_262) 7 (B_262.getD 7 bk0) := ⟨40, rfl, t_ret dX6_writtenByte_40 rfl⟩
theorem ok_262 : ∀ b, BkOK mi i_262 (bpf P_262) b (B_262.getD b bk0)
  | 0 => ok_262_0
  | 1 => ok_262_1
  | 2 => ok_262_2
  | 3 => ok_262_3
  | 4 => ok_262_4
  | 5 => ok_262_5
  | 6 => ok_262_6
  | 7 => ok_262_7
  | b + 8 => bk_none mi i_262 (bpf P_262) (b + 8)
theorem ok_263_0 : BkOK mi i_263 (bpf P_263) 0 (B_263.getD 0 bk0) := ⟨11, ⟨2, s_aload dL_append_0, ⟨1, s_iconst dL_append_2 rfl, ⟨1, s_aload_n dL_append_3 rfl, ⟨1, s_iload_n dL_append_4 rfl, ⟨1, s_iload_n dL_append_5 rfl, ⟨1, s_iload_n dL_append_6 rfl, ⟨2, s_iload dL_append_7, ⟨2, s_iload dL_append_9, rfl⟩⟩⟩⟩⟩⟩⟩⟩, t_cv rfl mi_93 mok_93 rfl (fun _ => ⟨rfl, by decide +kernel⟩) (fun hs' e => by cases e; exact han_263) (fun q fs As rest h hp hA hr => (call_V (i := i_263) (j := i_93) (C := RX5) (T := TX5) (N := 12) dL_append_11 mok_93 rfl ⟨by decide, by decide⟩ np_93 rfl rfl wt_688 wt_689 wt_690 hp hA hr rfl).thr (fun _ => True.intro))⟩
theorem ok_263_1 : BkOK mi i_263 (bpf P_263) 1 (B_263.getD 1 bk0) := ⟨16, ⟨1, s_i2l dL_append_14, ⟨1, s_last dL_append_15, rfl⟩⟩, t_go dL_append_16 (by decide)⟩
theorem ok_263_2 : BkOK mi i_263 (bpf P_263) 2 (B_263.getD 2 bk0) := ⟨22, ⟨1, s_iconst dL_append_21 rfl, rfl⟩, t_ret dL_append_22 rfl⟩
theorem ok_263_3 : BkOK mi i_263 (bpf P_263) 3 (B_263.getD 3 bk0) := ⟨24, ⟨1, s_iconst dL_append_23 rfl, rfl⟩, t_ret dL_append_24 rfl⟩
theorem ok_263 : ∀ b, BkOK mi i_263 (bpf P_263) b (B_263.getD b bk0)
  | 0 => ok_263_0
  | 1 => ok_263_1
  | 2 => ok_263_2
  | 3 => ok_263_3
  | b + 4 => bk_none mi i_263 (bpf P_263) (b + 4)
theorem ok_264_0 : BkOK mi i_264 (bpf P_264) 0 (B_264.getD 0 bk0) := ⟨4, ⟨1, s_aload_n dL_count_0 rfl, ⟨1, s_iconst dL_count_1 rfl, ⟨1, s_aload_n dL_count_2 rfl, ⟨1, s_iload_n dL_count_3 rfl, rfl⟩⟩⟩⟩, t_cv rfl mi_96 mok_96 rfl (fun _ => ⟨rfl, by decide +kernel⟩) (fun hs' e => by cases e; exact han_264) (fun q fs As rest h hp hA hr => (call_V (i := i_264) (j := i_96) (C := RX5) (T := TX5) (N := 12) dL_count_4 mok_96 rfl ⟨by decide, by decide⟩ np_96 rfl rfl wt_767 wt_768 wt_769 hp hA hr rfl).thr (fun _ => True.intro))⟩
theorem ok_264_1 : BkOK mi i_264 (bpf P_264) 1 (B_264.getD 1 bk0) := ⟨9, ⟨1, s_i2l dL_count_7, ⟨1, s_last dL_count_8, rfl⟩⟩, t_go dL_count_9 (by decide)⟩
theorem ok_264_2 : BkOK mi i_264 (bpf P_264) 2 (B_264.getD 2 bk0) := ⟨14, ⟨1, s_iconst dL_count_13 rfl, rfl⟩, t_ret dL_count_14 rfl⟩
theorem ok_264_3 : BkOK mi i_264 (bpf P_264) 3 (B_264.getD 3 bk0) := ⟨16, ⟨1, s_iconst dL_count_15 rfl, rfl⟩, t_ret dL_count_16 rfl⟩
theorem ok_264 : ∀ b, BkOK mi i_264 (bpf P_264) b (B_264.getD b bk0)
  | 0 => ok_264_0
  | 1 => ok_264_1
  | 2 => ok_264_2
  | 3 => ok_264_3
  | b + 4 => bk_none mi i_264 (bpf P_264) (b + 4)
theorem ok_265_0 : BkOK mi i_265 (bpf P_265) 0 (B_265.getD 0 bk0) := ⟨5, ⟨1, s_aload_n dL_event_0 rfl, ⟨1, s_iconst dL_event_1 rfl, ⟨1, s_aload_n dL_event_2 rfl, ⟨1, s_iload_n dL_event_3 rfl, ⟨1, s_iload_n dL_event_4 rfl, rfl⟩⟩⟩⟩⟩, t_cv rfl mi_97 mok_97 rfl (fun _ => ⟨rfl, by decide +kernel⟩) (fun hs' e => by cases e; exact han_265) (fun q fs As rest h hp hA hr => (call_V (i := i_265) (j := i_97) (C := RX5) (T := TX5) (N := 12) dL_event_5 mok_97 rfl ⟨by decide, by decide⟩ np_97 rfl rfl wt_811 wt_812 wt_813 hp hA hr rfl).thr (fun _ => True.intro))⟩
theorem ok_265_1 : BkOK mi i_265 (bpf P_265) 1 (B_265.getD 1 bk0) := ⟨10, ⟨1, s_i2l dL_event_8, ⟨1, s_last dL_event_9, rfl⟩⟩, t_go dL_event_10 (by decide)⟩
theorem ok_265_2 : BkOK mi i_265 (bpf P_265) 2 (B_265.getD 2 bk0) := ⟨16, ⟨1, s_iconst dL_event_15 rfl, rfl⟩, t_ret dL_event_16 rfl⟩
theorem ok_265_3 : BkOK mi i_265 (bpf P_265) 3 (B_265.getD 3 bk0) := ⟨20, ⟨1, s_iconst dL_event_19 rfl, rfl⟩, t_ret dL_event_20 rfl⟩
theorem ok_265_4 : BkOK mi i_265 (bpf P_265) 4 (B_265.getD 4 bk0) := ⟨22, ⟨1, s_iconst dL_event_21 rfl, rfl⟩, t_ret dL_event_22 rfl⟩
theorem ok_265 : ∀ b, BkOK mi i_265 (bpf P_265) b (B_265.getD b bk0)
  | 0 => ok_265_0
  | 1 => ok_265_1
  | 2 => ok_265_2
  | 3 => ok_265_3
  | 4 => ok_265_4
  | b + 5 => bk_none mi i_265 (bpf P_265) (b + 5)
theorem ok_266_0 : BkOK mi i_266 (bpf P_266) 0 (B_266.getD 0 bk0) := ⟨7, ⟨2, s_aload dL_note_0, ⟨1, s_iconst dL_note_2 rfl, ⟨1, s_aload_n dL_note_3 rfl, ⟨1, s_iload_n dL_note_4 rfl, ⟨1, s_iload_n dL_note_5 rfl, ⟨1, s_iload_n dL_note_6 rfl, rfl⟩⟩⟩⟩⟩⟩, t_cv rfl mi_98 mok_98 rfl (fun _ => ⟨rfl, by decide +kernel⟩) (fun hs' e => by cases e; exact han_266) (fun q fs As rest h hp hA hr => (call_V (i := i_266) (j := i_98) (C := RX5) (T := TX5) (N := 12) dL_note_7 mok_98 rfl ⟨by decide, by decide⟩ np_98 rfl rfl wt_838 wt_839 wt_840 hp hA hr rfl).thr (fun _ => True.intro))⟩
theorem ok_266_1 : BkOK mi i_266 (bpf P_266) 1 (B_266.getD 1 bk0) := ⟨12, ⟨1, s_i2l dL_note_10, ⟨1, s_last dL_note_11, rfl⟩⟩, t_go dL_note_12 (by decide)⟩
theorem ok_266_2 : BkOK mi i_266 (bpf P_266) 2 (B_266.getD 2 bk0) := ⟨18, ⟨1, s_iconst dL_note_17 rfl, rfl⟩, t_ret dL_note_18 rfl⟩
theorem ok_266_3 : BkOK mi i_266 (bpf P_266) 3 (B_266.getD 3 bk0) := ⟨22, ⟨1, s_iconst dL_note_21 rfl, rfl⟩, t_ret dL_note_22 rfl⟩
theorem ok_266_4 : BkOK mi i_266 (bpf P_266) 4 (B_266.getD 4 bk0) := ⟨24, ⟨1, s_iconst dL_note_23 rfl, rfl⟩, t_ret dL_note_24 rfl⟩
theorem ok_266 : ∀ b, BkOK mi i_266 (bpf P_266) b (B_266.getD b bk0)
  | 0 => ok_266_0
  | 1 => ok_266_1
  | 2 => ok_266_2
  | 3 => ok_266_3
  | 4 => ok_266_4
  | b + 5 => bk_none mi i_266 (bpf P_266) (b + 5)
theorem ok_267_0 : BkOK mi i_267 (bpf P_267) 0 (B_267.getD 0 bk0) := ⟨4, ⟨1, s_aload_n dL_weight_0 rfl, ⟨1, s_iconst dL_weight_1 rfl, ⟨1, s_aload_n dL_weight_2 rfl, ⟨1, s_iload_n dL_weight_3 rfl, rfl⟩⟩⟩⟩, t_cv rfl mi_99 mok_99 rfl (fun _ => ⟨rfl, by decide +kernel⟩) (fun hs' e => by cases e; exact han_267) (fun q fs As rest h hp hA hr => (call_V (i := i_267) (j := i_99) (C := RX5) (T := TX5) (N := 12) dL_weight_4 mok_99 rfl ⟨by decide, by decide⟩ np_99 rfl rfl wt_850 wt_851 wt_852 hp hA hr rfl).thr (fun _ => True.intro))⟩
theorem ok_267_1 : BkOK mi i_267 (bpf P_267) 1 (B_267.getD 1 bk0) := ⟨9, ⟨1, s_i2l dL_weight_7, ⟨1, s_last dL_weight_8, rfl⟩⟩, t_go dL_weight_9 (by decide)⟩
theorem ok_267_2 : BkOK mi i_267 (bpf P_267) 2 (B_267.getD 2 bk0) := ⟨14, ⟨1, s_iconst dL_weight_13 rfl, rfl⟩, t_ret dL_weight_14 rfl⟩
theorem ok_267_3 : BkOK mi i_267 (bpf P_267) 3 (B_267.getD 3 bk0) := ⟨16, ⟨1, s_iconst dL_weight_15 rfl, rfl⟩, t_ret dL_weight_16 rfl⟩
theorem ok_267 : ∀ b, BkOK mi i_267 (bpf P_267) b (B_267.getD b bk0)
  | 0 => ok_267_0
  | 1 => ok_267_1
  | 2 => ok_267_2
  | 3 => ok_267_3
  | b + 4 => bk_none mi i_267 (bpf P_267) (b + 4)
theorem ok_268_0 : BkOK mi i_268 (bpf P_268) 0 (B_268.getD 0 bk0) := ⟨7, ⟨2, s_aload dL_span_0, ⟨1, s_iconst dL_span_2 rfl, ⟨1, s_aload_n dL_span_3 rfl, ⟨1, s_iload_n dL_span_4 rfl, ⟨1, s_iload_n dL_span_5 rfl, ⟨1, s_iload_n dL_span_6 rfl, rfl⟩⟩⟩⟩⟩⟩, t_cv rfl mi_100 mok_100 rfl (fun _ => ⟨rfl, by decide +kernel⟩) (fun hs' e => by cases e; exact han_268) (fun q fs As rest h hp hA hr => (call_V (i := i_268) (j := i_100) (C := RX5) (T := TX5) (N := 12) dL_span_7 mok_100 rfl ⟨by decide, by decide⟩ np_100 rfl rfl wt_861 wt_862 wt_863 hp hA hr rfl).thr (fun _ => True.intro))⟩
theorem ok_268_1 : BkOK mi i_268 (bpf P_268) 1 (B_268.getD 1 bk0) := ⟨12, ⟨1, s_i2l dL_span_10, ⟨1, s_last dL_span_11, rfl⟩⟩, t_go dL_span_12 (by decide)⟩
theorem ok_268_2 : BkOK mi i_268 (bpf P_268) 2 (B_268.getD 2 bk0) := ⟨18, ⟨1, s_iconst dL_span_17 rfl, rfl⟩, t_ret dL_span_18 rfl⟩
theorem ok_268_3 : BkOK mi i_268 (bpf P_268) 3 (B_268.getD 3 bk0) := ⟨22, ⟨1, s_iconst dL_span_21 rfl, rfl⟩, t_ret dL_span_22 rfl⟩
theorem ok_268_4 : BkOK mi i_268 (bpf P_268) 4 (B_268.getD 4 bk0) := ⟨24, ⟨1, s_iconst dL_span_23 rfl, rfl⟩, t_ret dL_span_24 rfl⟩
theorem ok_268 : ∀ b, BkOK mi i_268 (bpf P_268) b (B_268.getD b bk0)
  | 0 => ok_268_0
  | 1 => ok_268_1
  | 2 => ok_268_2
  | 3 => ok_268_3
  | 4 => ok_268_4
  | b + 5 => bk_none mi i_268 (bpf P_268) (b + 5)
theorem ok_269_0 : BkOK mi i_269 (bpf P_269) 0 (B_269.getD 0 bk0) := ⟨9, ⟨2, s_aload dL_link_0, ⟨1, s_iconst dL_link_2 rfl, ⟨1, s_aload_n dL_link_3 rfl, ⟨1, s_iload_n dL_link_4 rfl, ⟨1, s_iload_n dL_link_5 rfl, ⟨1, s_iload_n dL_link_6 rfl, ⟨2, s_iload dL_link_7, rfl⟩⟩⟩⟩⟩⟩⟩, t_cv rfl mi_101 mok_101 rfl (fun _ => ⟨rfl, by decide +kernel⟩) (fun hs' e => by cases e; exact han_269) (fun q fs As rest h hp hA hr => (call_V (i := i_269) (j := i_101) (C := RX5) (T := TX5) (N := 12) dL_link_9 mok_101 rfl ⟨by decide, by decide⟩ np_101 rfl rfl wt_873 wt_874 wt_875 hp hA hr rfl).thr (fun _ => True.intro))⟩
theorem ok_269_1 : BkOK mi i_269 (bpf P_269) 1 (B_269.getD 1 bk0) := ⟨14, ⟨1, s_i2l dL_link_12, ⟨1, s_last dL_link_13, rfl⟩⟩, t_go dL_link_14 (by decide)⟩
theorem ok_269_2 : BkOK mi i_269 (bpf P_269) 2 (B_269.getD 2 bk0) := ⟨20, ⟨1, s_iconst dL_link_19 rfl, rfl⟩, t_ret dL_link_20 rfl⟩
theorem ok_269_3 : BkOK mi i_269 (bpf P_269) 3 (B_269.getD 3 bk0) := ⟨24, ⟨1, s_iconst dL_link_23 rfl, rfl⟩, t_ret dL_link_24 rfl⟩
theorem ok_269_4 : BkOK mi i_269 (bpf P_269) 4 (B_269.getD 4 bk0) := ⟨26, ⟨1, s_iconst dL_link_25 rfl, rfl⟩, t_ret dL_link_26 rfl⟩
theorem ok_269 : ∀ b, BkOK mi i_269 (bpf P_269) b (B_269.getD b bk0)
  | 0 => ok_269_0
  | 1 => ok_269_1
  | 2 => ok_269_2
  | 3 => ok_269_3
  | 4 => ok_269_4
  | b + 5 => bk_none mi i_269 (bpf P_269) (b + 5)
theorem ok_270_0 : BkOK mi i_270 (bpf P_270) 0 (B_270.getD 0 bk0) := ⟨5, ⟨1, s_aload_n dL_finger_0 rfl, ⟨1, s_iconst dL_finger_1 rfl, ⟨1, s_aload_n dL_finger_2 rfl, ⟨1, s_iload_n dL_finger_3 rfl, ⟨1, s_iload_n dL_finger_4 rfl, rfl⟩⟩⟩⟩⟩, t_cv rfl mi_103 mok_103 rfl (fun _ => ⟨rfl, by decide +kernel⟩) (fun hs' e => by cases e; exact han_270) (fun q fs As rest h hp hA hr => (call_V (i := i_270) (j := i_103) (C := RX5) (T := TX5) (N := 12) dL_finger_5 mok_103 rfl ⟨by decide, by decide⟩ np_103 rfl rfl wt_882 wt_883 wt_884 hp hA hr rfl).thr (fun _ => True.intro))⟩
theorem ok_270_1 : BkOK mi i_270 (bpf P_270) 1 (B_270.getD 1 bk0) := ⟨10, ⟨1, s_i2l dL_finger_8, ⟨1, s_last dL_finger_9, rfl⟩⟩, t_go dL_finger_10 (by decide)⟩
theorem ok_270_2 : BkOK mi i_270 (bpf P_270) 2 (B_270.getD 2 bk0) := ⟨16, ⟨1, s_iconst dL_finger_15 rfl, rfl⟩, t_ret dL_finger_16 rfl⟩
theorem ok_270_3 : BkOK mi i_270 (bpf P_270) 3 (B_270.getD 3 bk0) := ⟨20, ⟨1, s_iconst dL_finger_19 rfl, rfl⟩, t_ret dL_finger_20 rfl⟩
theorem ok_270_4 : BkOK mi i_270 (bpf P_270) 4 (B_270.getD 4 bk0) := ⟨22, ⟨1, s_iconst dL_finger_21 rfl, rfl⟩, t_ret dL_finger_22 rfl⟩
theorem ok_270 : ∀ b, BkOK mi i_270 (bpf P_270) b (B_270.getD b bk0)
  | 0 => ok_270_0
  | 1 => ok_270_1
  | 2 => ok_270_2
  | 3 => ok_270_3
  | 4 => ok_270_4
  | b + 5 => bk_none mi i_270 (bpf P_270) (b + 5)
theorem ok_271_0 : BkOK mi i_271 (bpf P_271) 0 (B_271.getD 0 bk0) := ⟨5, ⟨1, s_aload_n dL_part_0 rfl, ⟨1, s_iconst dL_part_1 rfl, ⟨1, s_aload_n dL_part_2 rfl, ⟨1, s_iload_n dL_part_3 rfl, ⟨1, s_iload_n dL_part_4 rfl, rfl⟩⟩⟩⟩⟩, t_cv rfl mi_104 mok_104 rfl (fun _ => ⟨rfl, by decide +kernel⟩) (fun hs' e => by cases e; exact han_271) (fun q fs As rest h hp hA hr => (call_V (i := i_271) (j := i_104) (C := RX5) (T := TX5) (N := 12) dL_part_5 mok_104 rfl ⟨by decide, by decide⟩ np_104 rfl rfl wt_912 wt_913 wt_914 hp hA hr rfl).thr (fun _ => True.intro))⟩
theorem ok_271_1 : BkOK mi i_271 (bpf P_271) 1 (B_271.getD 1 bk0) := ⟨10, ⟨1, s_i2l dL_part_8, ⟨1, s_last dL_part_9, rfl⟩⟩, t_go dL_part_10 (by decide)⟩
theorem ok_271_2 : BkOK mi i_271 (bpf P_271) 2 (B_271.getD 2 bk0) := ⟨16, ⟨1, s_iconst dL_part_15 rfl, rfl⟩, t_ret dL_part_16 rfl⟩
theorem ok_271_3 : BkOK mi i_271 (bpf P_271) 3 (B_271.getD 3 bk0) := ⟨20, ⟨1, s_iconst dL_part_19 rfl, rfl⟩, t_ret dL_part_20 rfl⟩
theorem ok_271_4 : BkOK mi i_271 (bpf P_271) 4 (B_271.getD 4 bk0) := ⟨24, ⟨1, s_iconst dL_part_23 rfl, rfl⟩, t_ret dL_part_24 rfl⟩
theorem ok_271_5 : BkOK mi i_271 (bpf P_271) 5 (B_271.getD 5 bk0) := ⟨26, ⟨1, s_iconst dL_part_25 rfl, rfl⟩, t_ret dL_part_26 rfl⟩
theorem ok_271 : ∀ b, BkOK mi i_271 (bpf P_271) b (B_271.getD b bk0)
  | 0 => ok_271_0
  | 1 => ok_271_1
  | 2 => ok_271_2
  | 3 => ok_271_3
  | 4 => ok_271_4
  | 5 => ok_271_5
  | b + 6 => bk_none mi i_271 (bpf P_271) (b + 6)
theorem ok_272_0 : BkOK mi i_272 (bpf P_272) 0 (B_272.getD 0 bk0) := ⟨7, ⟨2, s_aload dL_costWith_0, ⟨1, s_iconst dL_costWith_2 rfl, ⟨1, s_aload_n dL_costWith_3 rfl, ⟨1, s_iload_n dL_costWith_4 rfl, ⟨1, s_iload_n dL_costWith_5 rfl, ⟨1, s_iload_n dL_costWith_6 rfl, rfl⟩⟩⟩⟩⟩⟩, t_cv rfl mi_106 mok_106 rfl (fun _ => ⟨rfl, by decide +kernel⟩) (fun hs' e => by cases e; exact han_272) (fun q fs As rest h hp hA hr => (call_V (i := i_272) (j := i_106) (C := RX5) (T := TX5) (N := 12) dL_costWith_7 mok_106 rfl ⟨by decide, by decide⟩ np_106 rfl rfl wt_935 wt_936 wt_937 hp hA hr rfl).thr (fun _ => True.intro))⟩
theorem ok_272_1 : BkOK mi i_272 (bpf P_272) 1 (B_272.getD 1 bk0) := ⟨12, ⟨1, s_i2l dL_costWith_10, ⟨1, s_last dL_costWith_11, rfl⟩⟩, t_go dL_costWith_12 (by decide)⟩
theorem ok_272_2 : BkOK mi i_272 (bpf P_272) 2 (B_272.getD 2 bk0) := ⟨18, ⟨1, s_iconst dL_costWith_17 rfl, rfl⟩, t_ret dL_costWith_18 rfl⟩
theorem ok_272_3 : BkOK mi i_272 (bpf P_272) 3 (B_272.getD 3 bk0) := ⟨20, ⟨1, s_iconst dL_costWith_19 rfl, rfl⟩, t_ret dL_costWith_20 rfl⟩
theorem ok_272 : ∀ b, BkOK mi i_272 (bpf P_272) b (B_272.getD b bk0)
  | 0 => ok_272_0
  | 1 => ok_272_1
  | 2 => ok_272_2
  | 3 => ok_272_3
  | b + 4 => bk_none mi i_272 (bpf P_272) (b + 4)
theorem ok_273_0 : BkOK mi i_273 (bpf P_273) 0 (B_273.getD 0 bk0) := ⟨4, ⟨1, s_aload_n dL_uses_0 rfl, ⟨1, s_iconst dL_uses_1 rfl, ⟨1, s_aload_n dL_uses_2 rfl, ⟨1, s_iload_n dL_uses_3 rfl, rfl⟩⟩⟩⟩, t_cv rfl mi_108 mok_108 rfl (fun _ => ⟨rfl, by decide +kernel⟩) (fun hs' e => by cases e; exact han_273) (fun q fs As rest h hp hA hr => (call_V (i := i_273) (j := i_108) (C := RX5) (T := TX5) (N := 12) dL_uses_4 mok_108 rfl ⟨by decide, by decide⟩ np_108 rfl rfl wt_950 wt_951 wt_952 hp hA hr rfl).thr (fun _ => True.intro))⟩
theorem ok_273_1 : BkOK mi i_273 (bpf P_273) 1 (B_273.getD 1 bk0) := ⟨9, ⟨1, s_i2l dL_uses_7, ⟨1, s_last dL_uses_8, rfl⟩⟩, t_go dL_uses_9 (by decide)⟩
theorem ok_273_2 : BkOK mi i_273 (bpf P_273) 2 (B_273.getD 2 bk0) := ⟨14, ⟨1, s_iconst dL_uses_13 rfl, rfl⟩, t_ret dL_uses_14 rfl⟩
theorem ok_273_3 : BkOK mi i_273 (bpf P_273) 3 (B_273.getD 3 bk0) := ⟨17, ⟨1, s_iconst dL_uses_16 rfl, rfl⟩, t_ret dL_uses_17 rfl⟩
theorem ok_273_4 : BkOK mi i_273 (bpf P_273) 4 (B_273.getD 4 bk0) := ⟨19, ⟨1, s_iconst dL_uses_18 rfl, rfl⟩, t_ret dL_uses_19 rfl⟩
theorem ok_273 : ∀ b, BkOK mi i_273 (bpf P_273) b (B_273.getD b bk0)
  | 0 => ok_273_0
  | 1 => ok_273_1
  | 2 => ok_273_2
  | 3 => ok_273_3
  | 4 => ok_273_4
  | b + 5 => bk_none mi i_273 (bpf P_273) (b + 5)
theorem ok_274_0 : BkOK mi i_274 (bpf P_274) 0 (B_274.getD 0 bk0) := ⟨3, ⟨1, s_aload_n dL_sure_0 rfl, ⟨1, s_iconst dL_sure_1 rfl, ⟨1, s_aload_n dL_sure_2 rfl, rfl⟩⟩⟩, t_cv rfl mi_109 mok_109 rfl (fun _ => ⟨rfl, by decide +kernel⟩) (fun hs' e => by cases e; exact han_274) (fun q fs As rest h hp hA hr => (call_V (i := i_274) (j := i_109) (C := RX5) (T := TX5) (N := 12) dL_sure_3 mok_109 rfl ⟨by decide, by decide⟩ np_109 rfl rfl wt_957 wt_958 wt_959 hp hA hr rfl).thr (fun _ => True.intro))⟩
theorem ok_274_1 : BkOK mi i_274 (bpf P_274) 1 (B_274.getD 1 bk0) := ⟨8, ⟨1, s_i2l dL_sure_6, ⟨1, s_last dL_sure_7, rfl⟩⟩, t_go dL_sure_8 (by decide)⟩
theorem ok_274_2 : BkOK mi i_274 (bpf P_274) 2 (B_274.getD 2 bk0) := ⟨13, ⟨1, s_iconst dL_sure_12 rfl, rfl⟩, t_ret dL_sure_13 rfl⟩
theorem ok_274_3 : BkOK mi i_274 (bpf P_274) 3 (B_274.getD 3 bk0) := ⟨15, ⟨1, s_iconst dL_sure_14 rfl, rfl⟩, t_ret dL_sure_15 rfl⟩
theorem ok_274 : ∀ b, BkOK mi i_274 (bpf P_274) b (B_274.getD b bk0)
  | 0 => ok_274_0
  | 1 => ok_274_1
  | 2 => ok_274_2
  | 3 => ok_274_3
  | b + 4 => bk_none mi i_274 (bpf P_274) (b + 4)
theorem ok_275_0 : BkOK mi i_275 (bpf P_275) 0 (B_275.getD 0 bk0) := ⟨3, ⟨1, s_aload_n dL_mean_0 rfl, ⟨1, s_iconst dL_mean_1 rfl, ⟨1, s_aload_n dL_mean_2 rfl, rfl⟩⟩⟩, t_cv rfl mi_110 mok_110 rfl (fun _ => ⟨rfl, by decide +kernel⟩) (fun hs' e => by cases e; exact han_275) (fun q fs As rest h hp hA hr => (call_V (i := i_275) (j := i_110) (C := RX5) (T := TX5) (N := 12) dL_mean_3 mok_110 rfl ⟨by decide, by decide⟩ np_110 rfl rfl wt_975 wt_976 wt_977 hp hA hr rfl).thr (fun _ => True.intro))⟩
theorem ok_275_1 : BkOK mi i_275 (bpf P_275) 1 (B_275.getD 1 bk0) := ⟨7, ⟨1, s_dast dL_mean_6, rfl⟩, t_go dL_mean_7 (by decide)⟩
theorem ok_275_2 : BkOK mi i_275 (bpf P_275) 2 (B_275.getD 2 bk0) := ⟨12, ⟨1, s_iconst dL_mean_11 rfl, rfl⟩, t_ret dL_mean_12 rfl⟩
theorem ok_275_3 : BkOK mi i_275 (bpf P_275) 3 (B_275.getD 3 bk0) := ⟨14, ⟨1, s_iconst dL_mean_13 rfl, rfl⟩, t_ret dL_mean_14 rfl⟩
theorem ok_275 : ∀ b, BkOK mi i_275 (bpf P_275) b (B_275.getD b bk0)
  | 0 => ok_275_0
  | 1 => ok_275_1
  | 2 => ok_275_2
  | 3 => ok_275_3
  | b + 4 => bk_none mi i_275 (bpf P_275) (b + 4)
theorem ok_276_0 : BkOK mi i_276 (bpf P_276) 0 (B_276.getD 0 bk0) := ⟨4, ⟨1, s_aload_n dL_transposed_0 rfl, ⟨1, s_iconst dL_transposed_1 rfl, ⟨1, s_aload_n dL_transposed_2 rfl, ⟨1, s_iload_n dL_transposed_3 rfl, rfl⟩⟩⟩⟩, t_cv rfl mi_114 mok_114 rfl (fun _ => ⟨rfl, by decide +kernel⟩) (fun hs' e => by cases e; exact han_276) (fun q fs As rest h hp hA hr => (call_V (i := i_276) (j := i_114) (C := RX5) (T := TX5) (N := 12) dL_transposed_4 mok_114 rfl ⟨by decide, by decide⟩ np_114 rfl rfl wt_982 wt_983 wt_984 hp hA hr rfl).thr (fun _ => True.intro))⟩
theorem ok_276_1 : BkOK mi i_276 (bpf P_276) 1 (B_276.getD 1 bk0) := ⟨9, ⟨1, s_i2l dL_transposed_7, ⟨1, s_last dL_transposed_8, rfl⟩⟩, t_go dL_transposed_9 (by decide)⟩
theorem ok_276_2 : BkOK mi i_276 (bpf P_276) 2 (B_276.getD 2 bk0) := ⟨14, ⟨1, s_iconst dL_transposed_13 rfl, rfl⟩, t_ret dL_transposed_14 rfl⟩
theorem ok_276_3 : BkOK mi i_276 (bpf P_276) 3 (B_276.getD 3 bk0) := ⟨16, ⟨1, s_iconst dL_transposed_15 rfl, rfl⟩, t_ret dL_transposed_16 rfl⟩
theorem ok_276 : ∀ b, BkOK mi i_276 (bpf P_276) b (B_276.getD b bk0)
  | 0 => ok_276_0
  | 1 => ok_276_1
  | 2 => ok_276_2
  | 3 => ok_276_3
  | b + 4 => bk_none mi i_276 (bpf P_276) (b + 4)
theorem ok_277_0 : BkOK mi i_277 (bpf P_277) 0 (B_277.getD 0 bk0) := ⟨4, ⟨1, s_aload_n dL_easiest_0 rfl, ⟨1, s_iconst dL_easiest_1 rfl, ⟨1, s_aload_n dL_easiest_2 rfl, ⟨1, s_iload_n dL_easiest_3 rfl, rfl⟩⟩⟩⟩, t_cv rfl mi_115 mok_115 rfl (fun _ => ⟨rfl, by decide +kernel⟩) (fun hs' e => by cases e; exact han_277) (fun q fs As rest h hp hA hr => (call_V (i := i_277) (j := i_115) (C := RX5) (T := TX5) (N := 12) dL_easiest_4 mok_115 rfl ⟨by decide, by decide⟩ np_115 rfl rfl wt_1006 wt_1007 wt_1008 hp hA hr rfl).thr (fun _ => True.intro))⟩
theorem ok_277_1 : BkOK mi i_277 (bpf P_277) 1 (B_277.getD 1 bk0) := ⟨9, ⟨1, s_i2l dL_easiest_7, ⟨1, s_last dL_easiest_8, rfl⟩⟩, t_go dL_easiest_9 (by decide)⟩
theorem ok_277_2 : BkOK mi i_277 (bpf P_277) 2 (B_277.getD 2 bk0) := ⟨14, ⟨1, s_iconst dL_easiest_13 rfl, rfl⟩, t_ret dL_easiest_14 rfl⟩
theorem ok_277_3 : BkOK mi i_277 (bpf P_277) 3 (B_277.getD 3 bk0) := ⟨17, ⟨1, s_iconst dL_easiest_16 rfl, rfl⟩, t_ret dL_easiest_17 rfl⟩
theorem ok_277_4 : BkOK mi i_277 (bpf P_277) 4 (B_277.getD 4 bk0) := ⟨19, ⟨1, s_iconst dL_easiest_18 rfl, rfl⟩, t_ret dL_easiest_19 rfl⟩
theorem ok_277 : ∀ b, BkOK mi i_277 (bpf P_277) b (B_277.getD b bk0)
  | 0 => ok_277_0
  | 1 => ok_277_1
  | 2 => ok_277_2
  | 3 => ok_277_3
  | 4 => ok_277_4
  | b + 5 => bk_none mi i_277 (bpf P_277) (b + 5)
theorem ok_278_0 : BkOK mi i_278 (bpf P_278) 0 (B_278.getD 0 bk0) := ⟨11, ⟨2, s_aload dL_play_0, ⟨1, s_iconst dL_play_2 rfl, ⟨1, s_aload_n dL_play_3 rfl, ⟨1, s_iload_n dL_play_4 rfl, ⟨1, s_iload_n dL_play_5 rfl, ⟨1, s_iload_n dL_play_6 rfl, ⟨2, s_iload dL_play_7, ⟨2, s_iload dL_play_9, rfl⟩⟩⟩⟩⟩⟩⟩⟩, t_cv rfl mi_117 mok_117 rfl (fun _ => ⟨rfl, by decide +kernel⟩) (fun hs' e => by cases e; exact han_278) (fun q fs As rest h hp hA hr => (call_V (i := i_278) (j := i_117) (C := RX5) (T := TX5) (N := 12) dL_play_11 mok_117 rfl ⟨by decide, by decide⟩ np_117 rfl rfl wt_1013 wt_1014 wt_1015 hp hA hr rfl).thr (fun _ => True.intro))⟩
theorem ok_278_1 : BkOK mi i_278 (bpf P_278) 1 (B_278.getD 1 bk0) := ⟨16, ⟨1, s_i2l dL_play_14, ⟨1, s_last dL_play_15, rfl⟩⟩, t_go dL_play_16 (by decide)⟩
theorem ok_278_2 : BkOK mi i_278 (bpf P_278) 2 (B_278.getD 2 bk0) := ⟨22, ⟨1, s_iconst dL_play_21 rfl, rfl⟩, t_ret dL_play_22 rfl⟩
theorem ok_278_3 : BkOK mi i_278 (bpf P_278) 3 (B_278.getD 3 bk0) := ⟨26, ⟨1, s_iconst dL_play_25 rfl, rfl⟩, t_ret dL_play_26 rfl⟩
theorem ok_278_4 : BkOK mi i_278 (bpf P_278) 4 (B_278.getD 4 bk0) := ⟨28, ⟨1, s_iconst dL_play_27 rfl, rfl⟩, t_ret dL_play_28 rfl⟩
theorem ok_278 : ∀ b, BkOK mi i_278 (bpf P_278) b (B_278.getD b bk0)
  | 0 => ok_278_0
  | 1 => ok_278_1
  | 2 => ok_278_2
  | 3 => ok_278_3
  | 4 => ok_278_4
  | b + 5 => bk_none mi i_278 (bpf P_278) (b + 5)
theorem ok_279_0 : BkOK mi i_279 (bpf P_279) 0 (B_279.getD 0 bk0) := ⟨4, ⟨1, s_aload_n dL_drop_0 rfl, ⟨1, s_iconst dL_drop_1 rfl, ⟨1, s_aload_n dL_drop_2 rfl, ⟨1, s_iload_n dL_drop_3 rfl, rfl⟩⟩⟩⟩, t_cv rfl mi_118 mok_118 rfl (fun _ => ⟨rfl, by decide +kernel⟩) (fun hs' e => by cases e; exact han_279) (fun q fs As rest h hp hA hr => (call_V (i := i_279) (j := i_118) (C := RX5) (T := TX5) (N := 12) dL_drop_4 mok_118 rfl ⟨by decide, by decide⟩ np_118 rfl rfl wt_1026 wt_1027 wt_1028 hp hA hr rfl).thr (fun _ => True.intro))⟩
theorem ok_279_1 : BkOK mi i_279 (bpf P_279) 1 (B_279.getD 1 bk0) := ⟨9, ⟨1, s_i2l dL_drop_7, ⟨1, s_last dL_drop_8, rfl⟩⟩, t_go dL_drop_9 (by decide)⟩
theorem ok_279_2 : BkOK mi i_279 (bpf P_279) 2 (B_279.getD 2 bk0) := ⟨14, ⟨1, s_iconst dL_drop_13 rfl, rfl⟩, t_ret dL_drop_14 rfl⟩
theorem ok_279_3 : BkOK mi i_279 (bpf P_279) 3 (B_279.getD 3 bk0) := ⟨16, ⟨1, s_iconst dL_drop_15 rfl, rfl⟩, t_ret dL_drop_16 rfl⟩
theorem ok_279 : ∀ b, BkOK mi i_279 (bpf P_279) b (B_279.getD b bk0)
  | 0 => ok_279_0
  | 1 => ok_279_1
  | 2 => ok_279_2
  | 3 => ok_279_3
  | b + 4 => bk_none mi i_279 (bpf P_279) (b + 4)
theorem ok_280_0 : BkOK mi i_280 (bpf P_280) 0 (B_280.getD 0 bk0) := ⟨5, ⟨1, s_aload_n dL_setRest_0 rfl, ⟨1, s_iconst dL_setRest_1 rfl, ⟨1, s_aload_n dL_setRest_2 rfl, ⟨1, s_iload_n dL_setRest_3 rfl, ⟨1, s_iload_n dL_setRest_4 rfl, rfl⟩⟩⟩⟩⟩, t_cv rfl mi_119 mok_119 rfl (fun _ => ⟨rfl, by decide +kernel⟩) (fun hs' e => by cases e; exact han_280) (fun q fs As rest h hp hA hr => (call_V (i := i_280) (j := i_119) (C := RX5) (T := TX5) (N := 12) dL_setRest_5 mok_119 rfl ⟨by decide, by decide⟩ np_119 rfl rfl wt_1037 wt_1038 wt_1039 hp hA hr rfl).thr (fun _ => True.intro))⟩
theorem ok_280_1 : BkOK mi i_280 (bpf P_280) 1 (B_280.getD 1 bk0) := ⟨10, ⟨1, s_i2l dL_setRest_8, ⟨1, s_last dL_setRest_9, rfl⟩⟩, t_go dL_setRest_10 (by decide)⟩
theorem ok_280_2 : BkOK mi i_280 (bpf P_280) 2 (B_280.getD 2 bk0) := ⟨16, ⟨1, s_iconst dL_setRest_15 rfl, rfl⟩, t_ret dL_setRest_16 rfl⟩
theorem ok_280_3 : BkOK mi i_280 (bpf P_280) 3 (B_280.getD 3 bk0) := ⟨20, ⟨1, s_iconst dL_setRest_19 rfl, rfl⟩, t_ret dL_setRest_20 rfl⟩
theorem ok_280_4 : BkOK mi i_280 (bpf P_280) 4 (B_280.getD 4 bk0) := ⟨22, ⟨1, s_iconst dL_setRest_21 rfl, rfl⟩, t_ret dL_setRest_22 rfl⟩
theorem ok_280 : ∀ b, BkOK mi i_280 (bpf P_280) b (B_280.getD b bk0)
  | 0 => ok_280_0
  | 1 => ok_280_1
  | 2 => ok_280_2
  | 3 => ok_280_3
  | 4 => ok_280_4
  | b + 5 => bk_none mi i_280 (bpf P_280) (b + 5)
theorem ok_281_0 : BkOK mi i_281 (bpf P_281) 0 (B_281.getD 0 bk0) := ⟨9, ⟨2, s_aload dL_let_0, ⟨1, s_iconst dL_let_2 rfl, ⟨1, s_aload_n dL_let_3 rfl, ⟨1, s_iload_n dL_let_4 rfl, ⟨1, s_iload_n dL_let_5 rfl, ⟨1, s_iload_n dL_let_6 rfl, ⟨2, s_iload dL_let_7, rfl⟩⟩⟩⟩⟩⟩⟩, t_cv rfl mi_120 mok_120 rfl (fun _ => ⟨rfl, by decide +kernel⟩) (fun hs' e => by cases e; exact han_281) (fun q fs As rest h hp hA hr => (call_V (i := i_281) (j := i_120) (C := RX5) (T := TX5) (N := 12) dL_let_9 mok_120 rfl ⟨by decide, by decide⟩ np_120 rfl rfl wt_1044 wt_1045 wt_1046 hp hA hr rfl).thr (fun _ => True.intro))⟩
theorem ok_281_1 : BkOK mi i_281 (bpf P_281) 1 (B_281.getD 1 bk0) := ⟨14, ⟨1, s_i2l dL_let_12, ⟨1, s_last dL_let_13, rfl⟩⟩, t_go dL_let_14 (by decide)⟩
theorem ok_281_2 : BkOK mi i_281 (bpf P_281) 2 (B_281.getD 2 bk0) := ⟨20, ⟨1, s_iconst dL_let_19 rfl, rfl⟩, t_ret dL_let_20 rfl⟩
theorem ok_281_3 : BkOK mi i_281 (bpf P_281) 3 (B_281.getD 3 bk0) := ⟨22, ⟨1, s_iconst dL_let_21 rfl, rfl⟩, t_ret dL_let_22 rfl⟩
theorem ok_281 : ∀ b, BkOK mi i_281 (bpf P_281) b (B_281.getD b bk0)
  | 0 => ok_281_0
  | 1 => ok_281_1
  | 2 => ok_281_2
  | 3 => ok_281_3
  | b + 4 => bk_none mi i_281 (bpf P_281) (b + 4)
theorem ok_282_0 : BkOK mi i_282 (bpf P_282) 0 (B_282.getD 0 bk0) := ⟨5, ⟨1, s_aload_n dL_setWeight_0 rfl, ⟨1, s_iconst dL_setWeight_1 rfl, ⟨1, s_aload_n dL_setWeight_2 rfl, ⟨1, s_iload_n dL_setWeight_3 rfl, ⟨1, s_iload_n dL_setWeight_4 rfl, rfl⟩⟩⟩⟩⟩, t_cv rfl mi_121 mok_121 rfl (fun _ => ⟨rfl, by decide +kernel⟩) (fun hs' e => by cases e; exact han_282) (fun q fs As rest h hp hA hr => (call_V (i := i_282) (j := i_121) (C := RX5) (T := TX5) (N := 12) dL_setWeight_5 mok_121 rfl ⟨by decide, by decide⟩ np_121 rfl rfl wt_1052 wt_1053 wt_1054 hp hA hr rfl).thr (fun _ => True.intro))⟩
theorem ok_282_1 : BkOK mi i_282 (bpf P_282) 1 (B_282.getD 1 bk0) := ⟨10, ⟨1, s_i2l dL_setWeight_8, ⟨1, s_last dL_setWeight_9, rfl⟩⟩, t_go dL_setWeight_10 (by decide)⟩
theorem ok_282_2 : BkOK mi i_282 (bpf P_282) 2 (B_282.getD 2 bk0) := ⟨16, ⟨1, s_iconst dL_setWeight_15 rfl, rfl⟩, t_ret dL_setWeight_16 rfl⟩
theorem ok_282_3 : BkOK mi i_282 (bpf P_282) 3 (B_282.getD 3 bk0) := ⟨20, ⟨1, s_iconst dL_setWeight_19 rfl, rfl⟩, t_ret dL_setWeight_20 rfl⟩
theorem ok_282_4 : BkOK mi i_282 (bpf P_282) 4 (B_282.getD 4 bk0) := ⟨22, ⟨1, s_iconst dL_setWeight_21 rfl, rfl⟩, t_ret dL_setWeight_22 rfl⟩
theorem ok_282 : ∀ b, BkOK mi i_282 (bpf P_282) b (B_282.getD b bk0)
  | 0 => ok_282_0
  | 1 => ok_282_1
  | 2 => ok_282_2
  | 3 => ok_282_3
  | 4 => ok_282_4
  | b + 5 => bk_none mi i_282 (bpf P_282) (b + 5)
theorem ok_283_0 : BkOK mi i_283 (bpf P_283) 0 (B_283.getD 0 bk0) := ⟨11, ⟨2, s_aload dL_setSpan_0, ⟨1, s_iconst dL_setSpan_2 rfl, ⟨1, s_aload_n dL_setSpan_3 rfl, ⟨1, s_iload_n dL_setSpan_4 rfl, ⟨1, s_iload_n dL_setSpan_5 rfl, ⟨1, s_iload_n dL_setSpan_6 rfl, ⟨2, s_iload dL_setSpan_7, ⟨2, s_iload dL_setSpan_9, rfl⟩⟩⟩⟩⟩⟩⟩⟩, t_cv rfl mi_122 mok_122 rfl (fun _ => ⟨rfl, by decide +kernel⟩) (fun hs' e => by cases e; exact han_283) (fun q fs As rest h hp hA hr => (call_V (i := i_283) (j := i_122) (C := RX5) (T := TX5) (N := 12) dL_setSpan_11 mok_122 rfl ⟨by decide, by decide⟩ np_122 rfl rfl wt_1059 wt_1060 wt_1061 hp hA hr rfl).thr (fun _ => True.intro))⟩
theorem ok_283_1 : BkOK mi i_283 (bpf P_283) 1 (B_283.getD 1 bk0) := ⟨16, ⟨1, s_i2l dL_setSpan_14, ⟨1, s_last dL_setSpan_15, rfl⟩⟩, t_go dL_setSpan_16 (by decide)⟩
theorem ok_283_2 : BkOK mi i_283 (bpf P_283) 2 (B_283.getD 2 bk0) := ⟨22, ⟨1, s_iconst dL_setSpan_21 rfl, rfl⟩, t_ret dL_setSpan_22 rfl⟩
theorem ok_283_3 : BkOK mi i_283 (bpf P_283) 3 (B_283.getD 3 bk0) := ⟨26, ⟨1, s_iconst dL_setSpan_25 rfl, rfl⟩, t_ret dL_setSpan_26 rfl⟩
theorem ok_283_4 : BkOK mi i_283 (bpf P_283) 4 (B_283.getD 4 bk0) := ⟨28, ⟨1, s_iconst dL_setSpan_27 rfl, rfl⟩, t_ret dL_setSpan_28 rfl⟩
theorem ok_283 : ∀ b, BkOK mi i_283 (bpf P_283) b (B_283.getD b bk0)
  | 0 => ok_283_0
  | 1 => ok_283_1
  | 2 => ok_283_2
  | 3 => ok_283_3
  | 4 => ok_283_4
  | b + 5 => bk_none mi i_283 (bpf P_283) (b + 5)
theorem ok_284_0 : BkOK mi i_284 (bpf P_284) 0 (B_284.getD 0 bk0) := ⟨4, ⟨1, s_aload_n dL_transpose_0 rfl, ⟨1, s_iconst dL_transpose_1 rfl, ⟨1, s_aload_n dL_transpose_2 rfl, ⟨1, s_iload_n dL_transpose_3 rfl, rfl⟩⟩⟩⟩, t_cv rfl mi_124 mok_124 rfl (fun _ => ⟨rfl, by decide +kernel⟩) (fun hs' e => by cases e; exact han_284) (fun q fs As rest h hp hA hr => (call_V (i := i_284) (j := i_124) (C := RX5) (T := TX5) (N := 12) dL_transpose_4 mok_124 rfl ⟨by decide, by decide⟩ np_124 rfl rfl wt_1067 wt_1068 wt_1069 hp hA hr rfl).thr (fun _ => True.intro))⟩
theorem ok_284_1 : BkOK mi i_284 (bpf P_284) 1 (B_284.getD 1 bk0) := ⟨9, ⟨1, s_i2l dL_transpose_7, ⟨1, s_last dL_transpose_8, rfl⟩⟩, t_go dL_transpose_9 (by decide)⟩
theorem ok_284_2 : BkOK mi i_284 (bpf P_284) 2 (B_284.getD 2 bk0) := ⟨14, ⟨1, s_iconst dL_transpose_13 rfl, rfl⟩, t_ret dL_transpose_14 rfl⟩
theorem ok_284_3 : BkOK mi i_284 (bpf P_284) 3 (B_284.getD 3 bk0) := ⟨16, ⟨1, s_iconst dL_transpose_15 rfl, rfl⟩, t_ret dL_transpose_16 rfl⟩
theorem ok_284 : ∀ b, BkOK mi i_284 (bpf P_284) b (B_284.getD b bk0)
  | 0 => ok_284_0
  | 1 => ok_284_1
  | 2 => ok_284_2
  | 3 => ok_284_3
  | b + 4 => bk_none mi i_284 (bpf P_284) (b + 4)
theorem ok_285_0 : BkOK mi i_285 (bpf P_285) 0 (B_285.getD 0 bk0) := ⟨3, ⟨1, s_aload_n dL_fix_0 rfl, ⟨1, s_iconst dL_fix_1 rfl, ⟨1, s_aload_n dL_fix_2 rfl, rfl⟩⟩⟩, t_cv rfl mi_125 mok_125 rfl (fun _ => ⟨rfl, by decide +kernel⟩) (fun hs' e => by cases e; exact han_285) (fun q fs As rest h hp hA hr => (call_V (i := i_285) (j := i_125) (C := RX5) (T := TX5) (N := 12) dL_fix_3 mok_125 rfl ⟨by decide, by decide⟩ np_125 rfl rfl wt_1078 wt_1079 wt_1080 hp hA hr rfl).thr (fun _ => True.intro))⟩
theorem ok_285_1 : BkOK mi i_285 (bpf P_285) 1 (B_285.getD 1 bk0) := ⟨8, ⟨1, s_i2l dL_fix_6, ⟨1, s_last dL_fix_7, rfl⟩⟩, t_go dL_fix_8 (by decide)⟩
theorem ok_285_2 : BkOK mi i_285 (bpf P_285) 2 (B_285.getD 2 bk0) := ⟨13, ⟨1, s_iconst dL_fix_12 rfl, rfl⟩, t_ret dL_fix_13 rfl⟩
theorem ok_285_3 : BkOK mi i_285 (bpf P_285) 3 (B_285.getD 3 bk0) := ⟨15, ⟨1, s_iconst dL_fix_14 rfl, rfl⟩, t_ret dL_fix_15 rfl⟩
theorem ok_285 : ∀ b, BkOK mi i_285 (bpf P_285) b (B_285.getD b bk0)
  | 0 => ok_285_0
  | 1 => ok_285_1
  | 2 => ok_285_2
  | 3 => ok_285_3
  | b + 4 => bk_none mi i_285 (bpf P_285) (b + 4)
theorem ok_286_0 : BkOK mi i_286 (bpf P_286) 0 (B_286.getD 0 bk0) := ⟨3, ⟨1, s_aload_n dL_undo_0 rfl, ⟨1, s_iconst dL_undo_1 rfl, ⟨1, s_aload_n dL_undo_2 rfl, rfl⟩⟩⟩, t_cv rfl mi_126 mok_126 rfl (fun _ => ⟨rfl, by decide +kernel⟩) (fun hs' e => by cases e; exact han_286) (fun q fs As rest h hp hA hr => (call_V (i := i_286) (j := i_126) (C := RX5) (T := TX5) (N := 12) dL_undo_3 mok_126 rfl ⟨by decide, by decide⟩ np_126 rfl rfl wt_1085 wt_1086 wt_1087 hp hA hr rfl).thr (fun _ => True.intro))⟩
theorem ok_286_1 : BkOK mi i_286 (bpf P_286) 1 (B_286.getD 1 bk0) := ⟨8, ⟨1, s_i2l dL_undo_6, ⟨1, s_last dL_undo_7, rfl⟩⟩, t_go dL_undo_8 (by decide)⟩
theorem ok_286_2 : BkOK mi i_286 (bpf P_286) 2 (B_286.getD 2 bk0) := ⟨13, ⟨1, s_iconst dL_undo_12 rfl, rfl⟩, t_ret dL_undo_13 rfl⟩
theorem ok_286_3 : BkOK mi i_286 (bpf P_286) 3 (B_286.getD 3 bk0) := ⟨15, ⟨1, s_iconst dL_undo_14 rfl, rfl⟩, t_ret dL_undo_15 rfl⟩
theorem ok_286 : ∀ b, BkOK mi i_286 (bpf P_286) b (B_286.getD b bk0)
  | 0 => ok_286_0
  | 1 => ok_286_1
  | 2 => ok_286_2
  | 3 => ok_286_3
  | b + 4 => bk_none mi i_286 (bpf P_286) (b + 4)
theorem ok_287_0 : BkOK mi i_287 (bpf P_287) 0 (B_287.getD 0 bk0) := ⟨2, ⟨1, s_aload_n dL_save_0 rfl, ⟨1, s_iload_n dL_save_1 rfl, rfl⟩⟩, t_cv rfl mi_127 mok_127 rfl (fun _ => ⟨rfl, by decide +kernel⟩) (fun hs' e => by cases e; exact han_287) (fun q fs As rest h hp hA hr => (call_V (i := i_287) (j := i_127) (C := RX5) (T := TX5) (N := 12) dL_save_2 mok_127 rfl ⟨by decide, by decide⟩ np_127 rfl rfl wt_1096 wt_1097 wt_1098 hp hA hr rfl).thr (fun _ => True.intro))⟩
theorem ok_287_1 : BkOK mi i_287 (bpf P_287) 1 (B_287.getD 1 bk0) := ⟨5, rfl, t_go dL_save_5 (by decide)⟩
theorem ok_287_2 : BkOK mi i_287 (bpf P_287) 2 (B_287.getD 2 bk0) := ⟨10, ⟨1, s_iconst dL_save_9 rfl, rfl⟩, t_ret dL_save_10 rfl⟩
theorem ok_287_3 : BkOK mi i_287 (bpf P_287) 3 (B_287.getD 3 bk0) := ⟨12, ⟨1, s_iconst dL_save_11 rfl, rfl⟩, t_ret dL_save_12 rfl⟩
theorem ok_287 : ∀ b, BkOK mi i_287 (bpf P_287) b (B_287.getD b bk0)
  | 0 => ok_287_0
  | 1 => ok_287_1
  | 2 => ok_287_2
  | 3 => ok_287_3
  | b + 4 => bk_none mi i_287 (bpf P_287) (b + 4)
theorem ok_288_0 : BkOK mi i_288 (bpf P_288) 0 (B_288.getD 0 bk0) := ⟨4, ⟨1, s_aload_n dL_restore_0 rfl, ⟨1, s_iconst dL_restore_1 rfl, ⟨1, s_aload_n dL_restore_2 rfl, ⟨1, s_iload_n dL_restore_3 rfl, rfl⟩⟩⟩⟩, t_cv rfl mi_128 mok_128 rfl (fun _ => ⟨rfl, by decide +kernel⟩) (fun hs' e => by cases e; exact han_288) (fun q fs As rest h hp hA hr => (call_V (i := i_288) (j := i_128) (C := RX5) (T := TX5) (N := 12) dL_restore_4 mok_128 rfl ⟨by decide, by decide⟩ np_128 rfl rfl wt_1107 wt_1108 wt_1109 hp hA hr rfl).thr (fun _ => True.intro))⟩
theorem ok_288_1 : BkOK mi i_288 (bpf P_288) 1 (B_288.getD 1 bk0) := ⟨9, ⟨1, s_i2l dL_restore_7, ⟨1, s_last dL_restore_8, rfl⟩⟩, t_go dL_restore_9 (by decide)⟩
theorem ok_288_2 : BkOK mi i_288 (bpf P_288) 2 (B_288.getD 2 bk0) := ⟨14, ⟨1, s_iconst dL_restore_13 rfl, rfl⟩, t_ret dL_restore_14 rfl⟩
theorem ok_288_3 : BkOK mi i_288 (bpf P_288) 3 (B_288.getD 3 bk0) := ⟨17, ⟨1, s_iconst dL_restore_16 rfl, rfl⟩, t_ret dL_restore_17 rfl⟩
theorem ok_288_4 : BkOK mi i_288 (bpf P_288) 4 (B_288.getD 4 bk0) := ⟨19, ⟨1, s_iconst dL_restore_18 rfl, rfl⟩, t_ret dL_restore_19 rfl⟩
theorem ok_288 : ∀ b, BkOK mi i_288 (bpf P_288) b (B_288.getD b bk0)
  | 0 => ok_288_0
  | 1 => ok_288_1
  | 2 => ok_288_2
  | 3 => ok_288_3
  | 4 => ok_288_4
  | b + 5 => bk_none mi i_288 (bpf P_288) (b + 5)
theorem ok_289_0 : BkOK mi i_289 (bpf P_289) 0 (B_289.getD 0 bk0) := ⟨3, ⟨1, s_aload_n dL_writeFingers_0 rfl, ⟨1, s_iconst dL_writeFingers_1 rfl, ⟨1, s_aload_n dL_writeFingers_2 rfl, rfl⟩⟩⟩, t_cv rfl mi_129 mok_129 rfl (fun _ => ⟨rfl, by decide +kernel⟩) (fun hs' e => by cases e; exact han_289) (fun q fs As rest h hp hA hr => (call_V (i := i_289) (j := i_129) (C := RX5) (T := TX5) (N := 12) dL_writeFingers_3 mok_129 rfl ⟨by decide, by decide⟩ np_129 rfl rfl wt_1118 wt_1119 wt_1120 hp hA hr rfl).thr (fun _ => True.intro))⟩
theorem ok_289_1 : BkOK mi i_289 (bpf P_289) 1 (B_289.getD 1 bk0) := ⟨8, ⟨1, s_i2l dL_writeFingers_6, ⟨1, s_last dL_writeFingers_7, rfl⟩⟩, t_go dL_writeFingers_8 (by decide)⟩
theorem ok_289_2 : BkOK mi i_289 (bpf P_289) 2 (B_289.getD 2 bk0) := ⟨13, ⟨1, s_iconst dL_writeFingers_12 rfl, rfl⟩, t_ret dL_writeFingers_13 rfl⟩
theorem ok_289_3 : BkOK mi i_289 (bpf P_289) 3 (B_289.getD 3 bk0) := ⟨15, ⟨1, s_iconst dL_writeFingers_14 rfl, rfl⟩, t_ret dL_writeFingers_15 rfl⟩
theorem ok_289 : ∀ b, BkOK mi i_289 (bpf P_289) b (B_289.getD b bk0)
  | 0 => ok_289_0
  | 1 => ok_289_1
  | 2 => ok_289_2
  | 3 => ok_289_3
  | b + 4 => bk_none mi i_289 (bpf P_289) (b + 4)
theorem ok_290_0 : BkOK mi i_290 (bpf P_290) 0 (B_290.getD 0 bk0) := ⟨4, ⟨1, s_aload_n dL_writtenByte_0 rfl, ⟨1, s_iconst dL_writtenByte_1 rfl, ⟨1, s_aload_n dL_writtenByte_2 rfl, ⟨1, s_iload_n dL_writtenByte_3 rfl, rfl⟩⟩⟩⟩, t_cv rfl mi_130 mok_130 rfl (fun _ => ⟨rfl, by decide +kernel⟩) (fun hs' e => by cases e; exact han_290) (fun q fs As rest h hp hA hr => (call_V (i := i_290) (j := i_130) (C := RX5) (T := TX5) (N := 12) dL_writtenByte_4 mok_130 rfl ⟨by decide, by decide⟩ np_130 rfl rfl wt_1130 wt_1131 wt_1132 hp hA hr rfl).thr (fun _ => True.intro))⟩
theorem ok_290_1 : BkOK mi i_290 (bpf P_290) 1 (B_290.getD 1 bk0) := ⟨9, ⟨1, s_i2l dL_writtenByte_7, ⟨1, s_last dL_writtenByte_8, rfl⟩⟩, t_go dL_writtenByte_9 (by decide)⟩
theorem ok_290_2 : BkOK mi i_290 (bpf P_290) 2 (B_290.getD 2 bk0) := ⟨14, ⟨1, s_iconst dL_writtenByte_13 rfl, rfl⟩, t_ret dL_writtenByte_14 rfl⟩
theorem ok_290_3 : BkOK mi i_290 (bpf P_290) 3 (B_290.getD 3 bk0) := ⟨16, ⟨1, s_iconst dL_writtenByte_15 rfl, rfl⟩, t_ret dL_writtenByte_16 rfl⟩
theorem ok_290 : ∀ b, BkOK mi i_290 (bpf P_290) b (B_290.getD b bk0)
  | 0 => ok_290_0
  | 1 => ok_290_1
  | 2 => ok_290_2
  | 3 => ok_290_3
  | b + 4 => bk_none mi i_290 (bpf P_290) (b + 4)
