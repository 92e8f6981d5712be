theorem ok_214_0 : BkOK mi i_214 (bpf P_214) 0 (B_214.getD 0 bk0) := ⟨1, ⟨1, s_aload_n dX6_chooses_0 rfl, rfl⟩, t_cv rfl mi_212 mok_212 rfl (fun _ => ⟨rfl, by decide +kernel⟩) (fun hs' e => by cases e; intro E n b h; cases h) (fun q fs As rest h hp hA hr => (call_V (i := i_214) (j := i_212) (C := RX6) (T := TX6) (N := 30) dX6_chooses_1 mok_212 rfl ⟨by decide, by decide⟩ np_212 rfl rfl wt_1489 wt_1491 ws_50 hp hA hr rfl).thr (fun _ => True.intro))⟩
theorem ok_214_1 : BkOK mi i_214 (bpf P_214) 1 (B_214.getD 1 bk0) := ⟨7, ⟨1, s_istore_n dX6_chooses_4 rfl (by decide), ⟨1, s_iconst dX6_chooses_5 rfl, ⟨1, s_istore_n dX6_chooses_6 rfl (by decide), rfl⟩⟩⟩, t_fall rfl⟩
theorem ok_214_2 : BkOK mi i_214 (bpf P_214) 2 (B_214.getD 2 bk0) := ⟨9, ⟨1, s_iload_n dX6_chooses_7 rfl, ⟨1, s_aload_n dX6_chooses_8 rfl, rfl⟩⟩, t_cv rfl mi_182 mok_182 rfl (fun _ => ⟨rfl, by decide +kernel⟩) (fun hs' e => by cases e; intro E n b h; cases h) (fun q fs As rest h hp hA hr => (call_V (i := i_214) (j := i_182) (C := RX6) (T := TX6) (N := 30) dX6_chooses_9 mok_182 rfl ⟨by decide, by decide⟩ np_182 rfl rfl wt_1275 wt_1277 ws_16 hp hA hr rfl).thr (fun _ => True.intro))⟩
theorem ok_214_3 : BkOK mi i_214 (bpf P_214) 3 (B_214.getD 3 bk0) := ⟨12, rfl, t_ge dX6_chooses_12 (by decide) rfl⟩
theorem ok_214_4 : BkOK mi i_214 (bpf P_214) 4 (B_214.getD 4 bk0) := ⟨19, ⟨1, s_iload_n dX6_chooses_15 rfl, ⟨3, s_ldcw dX6_chooses_16 wt_1501, rfl⟩⟩, t_ge dX6_chooses_19 (by decide) rfl⟩
theorem ok_214_5 : BkOK mi i_214 (bpf P_214) 5 (B_214.getD 5 bk0) := ⟨27, ⟨2, s_bipush dX6_chooses_22 rfl, ⟨1, s_iload_n dX6_chooses_24 rfl, ⟨1, s_imul dX6_chooses_25, ⟨1, s_istore_n dX6_chooses_26 rfl (by decide), rfl⟩⟩⟩⟩, t_fall rfl⟩
theorem ok_214_6 : BkOK mi i_214 (bpf P_214) 6 (B_214.getD 6 bk0) := ⟨36, ⟨1, s_aload_n dX6_chooses_27 rfl, ⟨3, s_get (C := RX6) (T := TX6) (N := 30) dX6_chooses_28 rfl (by decide) wt_1179 uw_X6, ⟨1, s_iload_n dX6_chooses_31 rfl, ⟨1, s_iald dX6_chooses_32, ⟨1, s_aload_n dX6_chooses_33 rfl, ⟨1, s_iload_n dX6_chooses_34 rfl, ⟨1, s_iload_n dX6_chooses_35 rfl, rfl⟩⟩⟩⟩⟩⟩⟩, t_cv rfl mi_215 mok_215 rfl (fun _ => ⟨rfl, by decide +kernel⟩) (fun hs' e => by cases e; intro E n b h; cases h) (fun q fs As rest h hp hA hr => (call_V (i := i_214) (j := i_215) (C := RX6) (T := TX6) (N := 30) dX6_chooses_36 mok_215 rfl ⟨by decide, by decide⟩ np_215 rfl rfl wt_1535 wt_1537 ws_59 hp hA hr rfl).thr (fun _ => True.intro))⟩
theorem ok_214_7 : BkOK mi i_214 (bpf P_214) 7 (B_214.getD 7 bk0) := ⟨41, ⟨1, s_iadd dX6_chooses_39, ⟨1, s_iload_n dX6_chooses_40 rfl, rfl⟩⟩, t_eq dX6_chooses_41 (by decide) rfl⟩
theorem ok_214_8 : BkOK mi i_214 (bpf P_214) 8 (B_214.getD 8 bk0) := ⟨47, ⟨3, s_iinc dX6_chooses_44 rfl (by decide), rfl⟩, t_go dX6_chooses_47 (by decide)⟩
theorem ok_214_9 : BkOK mi i_214 (bpf P_214) 9 (B_214.getD 9 bk0) := ⟨74, ⟨1, s_aload_n dX6_chooses_50 rfl, ⟨3, s_get (C := RX6) (T := TX6) (N := 30) dX6_chooses_51 rfl (by decide) wt_1179 uw_X6, ⟨1, s_iload_n dX6_chooses_54 rfl, ⟨1, s_iald dX6_chooses_55, ⟨1, s_aload_n dX6_chooses_56 rfl, ⟨3, s_get (C := RX6) (T := TX6) (N := 30) dX6_chooses_57 rfl (by decide) wt_1176 uw_X6, ⟨1, s_iload_n dX6_chooses_60 rfl, ⟨1, s_iald dX6_chooses_61, ⟨1, s_isub dX6_chooses_62, ⟨1, s_istore_n dX6_chooses_63 rfl (by decide), ⟨1, s_aload_n dX6_chooses_64 rfl, ⟨3, s_get (C := RX6) (T := TX6) (N := 30) dX6_chooses_65 rfl (by decide) wt_1178 uw_X6, ⟨1, s_iload_n dX6_chooses_68 rfl, ⟨1, s_iload_n dX6_chooses_69 rfl, ⟨1, s_iast dX6_chooses_70, ⟨3, s_iinc dX6_chooses_71 rfl (by decide), rfl⟩⟩⟩⟩⟩⟩⟩⟩⟩⟩⟩⟩⟩⟩⟩⟩, t_go dX6_chooses_74 (by decide)⟩
theorem ok_214_10 : BkOK mi i_214 (bpf P_214) 10 (B_214.getD 10 bk0) := ⟨81, ⟨1, s_iload_n dX6_chooses_77 rfl, ⟨3, s_ldcw dX6_chooses_78 wt_1501, rfl⟩⟩, t_ge dX6_chooses_81 (by decide) rfl⟩
theorem ok_214_11 : BkOK mi i_214 (bpf P_214) 11 (B_214.getD 11 bk0) := ⟨85, ⟨1, s_iconst dX6_chooses_84 rfl, rfl⟩, t_go dX6_chooses_85 (by decide)⟩
theorem ok_214_12 : BkOK mi i_214 (bpf P_214) 12 (B_214.getD 12 bk0) := ⟨89, ⟨1, s_iconst dX6_chooses_88 rfl, rfl⟩, t_fall rfl⟩
theorem ok_214_13 : BkOK mi i_214 (bpf P_214) 13 (B_214.getD 13 bk0) := ⟨89, rfl, t_retZ dX6_chooses_89 rfl⟩
theorem ok_214 : ∀ b, BkOK mi i_214 (bpf P_214) b (B_214.getD b bk0)
  | 0 => ok_214_0
  | 1 => ok_214_1
  | 2 => ok_214_2
  | 3 => ok_214_3
  | 4 => ok_214_4
  | 5 => ok_214_5
  | 6 => ok_214_6
  | 7 => ok_214_7
  | 8 => ok_214_8
  | 9 => ok_214_9
  | 10 => ok_214_10
  | 11 => ok_214_11
  | 12 => ok_214_12
  | 13 => ok_214_13
  | b + 14 => bk_none mi i_214 (bpf P_214) (b + 14)
theorem ok_215_0 : BkOK mi i_215 (bpf P_215) 0 (B_215.getD 0 bk0) := ⟨1, ⟨1, s_iload_n dX6_wayInto_0 rfl, rfl⟩, t_ne0 dX6_wayInto_1 (by decide) rfl⟩
theorem ok_215_1 : BkOK mi i_215 (bpf P_215) 1 (B_215.getD 1 bk0) := ⟨5, ⟨1, s_iconst dX6_wayInto_4 rfl, rfl⟩, t_ret dX6_wayInto_5 rfl⟩
theorem ok_215_2 : BkOK mi i_215 (bpf P_215) 2 (B_215.getD 2 bk0) := ⟨29, ⟨1, s_aload_n dX6_wayInto_6 rfl, ⟨1, s_iload_n dX6_wayInto_7 rfl, ⟨1, s_iconst dX6_wayInto_8 rfl, ⟨1, s_isub dX6_wayInto_9, ⟨1, s_aload_n dX6_wayInto_10 rfl, ⟨3, s_get (C := RX6) (T := TX6) (N := 30) dX6_wayInto_11 rfl (by decide) wt_1175 uw_X6, ⟨1, s_aload_n dX6_wayInto_14 rfl, ⟨3, s_get (C := RX6) (T := TX6) (N := 30) dX6_wayInto_15 rfl (by decide) wt_1178 uw_X6, ⟨1, s_iload_n dX6_wayInto_18 rfl, ⟨1, s_iconst dX6_wayInto_19 rfl, ⟨1, s_isub dX6_wayInto_20, ⟨1, s_iald dX6_wayInto_21, ⟨1, s_iald dX6_wayInto_22, ⟨1, s_aload_n dX6_wayInto_23 rfl, ⟨3, s_get (C := RX6) (T := TX6) (N := 30) dX6_wayInto_24 rfl (by decide) wt_1175 uw_X6, ⟨1, s_iload_n dX6_wayInto_27 rfl, ⟨1, s_iald dX6_wayInto_28, rfl⟩⟩⟩⟩⟩⟩⟩⟩⟩⟩⟩⟩⟩⟩⟩⟩⟩, t_cv rfl mi_205 mok_205 rfl (fun _ => ⟨rfl, by decide +kernel⟩) (fun hs' e => by cases e; intro E n b h; cases h) (fun q fs As rest h hp hA hr => (call_V (i := i_215) (j := i_205) (C := RX6) (T := TX6) (N := 30) dX6_wayInto_29 mok_205 rfl ⟨by decide, by decide⟩ np_205 rfl rfl wt_1502 wt_1504 ws_53 hp hA hr rfl).thr (fun _ => True.intro))⟩
theorem ok_215_3 : BkOK mi i_215 (bpf P_215) 3 (B_215.getD 3 bk0) := ⟨35, ⟨1, s_istore_n dX6_wayInto_32 rfl (by decide), ⟨1, s_iload_n dX6_wayInto_33 rfl, ⟨1, s_iconst dX6_wayInto_34 rfl, rfl⟩⟩⟩, t_nei dX6_wayInto_35 (by decide) rfl⟩
theorem ok_215_4 : BkOK mi i_215 (bpf P_215) 4 (B_215.getD 4 bk0) := ⟨41, ⟨3, s_ldcw dX6_wayInto_38 wt_1501, rfl⟩, t_go dX6_wayInto_41 (by decide)⟩
theorem ok_215_5 : BkOK mi i_215 (bpf P_215) 5 (B_215.getD 5 bk0) := ⟨45, ⟨1, s_iload_n dX6_wayInto_44 rfl, rfl⟩, t_fall rfl⟩
theorem ok_215_6 : BkOK mi i_215 (bpf P_215) 6 (B_215.getD 6 bk0) := ⟨45, rfl, t_ret dX6_wayInto_45 rfl⟩
theorem ok_215 : ∀ b, BkOK mi i_215 (bpf P_215) b (B_215.getD b bk0)
  | 0 => ok_215_0
  | 1 => ok_215_1
  | 2 => ok_215_2
  | 3 => ok_215_3
  | 4 => ok_215_4
  | 5 => ok_215_5
  | 6 => ok_215_6
  | b + 7 => bk_none mi i_215 (bpf P_215) (b + 7)
theorem ok_216_0 : BkOK mi i_216 (bpf P_216) 0 (B_216.getD 0 bk0) := ⟨4, ⟨1, s_iconst dX6_keysAt_0 rfl, ⟨1, s_istore_n dX6_keysAt_1 rfl (by decide), ⟨1, s_iconst dX6_keysAt_2 rfl, ⟨1, s_istore_n dX6_keysAt_3 rfl (by decide), rfl⟩⟩⟩⟩, t_fall rfl⟩
theorem ok_216_1 : BkOK mi i_216 (bpf P_216) 1 (B_216.getD 1 bk0) := ⟨6, ⟨1, s_iload_n dX6_keysAt_4 rfl, ⟨1, s_aload_n dX6_keysAt_5 rfl, rfl⟩⟩, t_cv rfl mi_182 mok_182 rfl (fun _ => ⟨rfl, by decide +kernel⟩) (fun hs' e => by cases e; intro E n b h; cases h) (fun q fs As rest h hp hA hr => (call_V (i := i_216) (j := i_182) (C := RX6) (T := TX6) (N := 30) dX6_keysAt_6 mok_182 rfl ⟨by decide, by decide⟩ np_182 rfl rfl wt_1275 wt_1277 ws_16 hp hA hr rfl).thr (fun _ => True.intro))⟩
theorem ok_216_2 : BkOK mi i_216 (bpf P_216) 2 (B_216.getD 2 bk0) := ⟨9, rfl, t_ge dX6_keysAt_9 (by decide) rfl⟩
theorem ok_216_3 : BkOK mi i_216 (bpf P_216) 3 (B_216.getD 3 bk0) := ⟨15, ⟨1, s_iconst dX6_keysAt_12 rfl, ⟨2, s_istore dX6_keysAt_13 (by decide), rfl⟩⟩, t_fall rfl⟩
theorem ok_216_4 : BkOK mi i_216 (bpf P_216) 4 (B_216.getD 4 bk0) := ⟨19, ⟨2, s_iload dX6_keysAt_15, ⟨1, s_aload_n dX6_keysAt_17 rfl, ⟨1, s_iload_n dX6_keysAt_18 rfl, rfl⟩⟩⟩, t_cv rfl mi_183 mok_183 rfl (fun _ => ⟨rfl, by decide +kernel⟩) (fun hs' e => by cases e; intro E n b h; cases h) (fun q fs As rest h hp hA hr => (call_V (i := i_216) (j := i_183) (C := RX6) (T := TX6) (N := 30) dX6_keysAt_19 mok_183 rfl ⟨by decide, by decide⟩ np_183 rfl rfl wt_1381 wt_1383 ws_32 hp hA hr rfl).thr (fun _ => True.intro))⟩
theorem ok_216_5 : BkOK mi i_216 (bpf P_216) 5 (B_216.getD 5 bk0) := ⟨22, rfl, t_ge dX6_keysAt_22 (by decide) rfl⟩
theorem ok_216_6 : BkOK mi i_216 (bpf P_216) 6 (B_216.getD 6 bk0) := ⟨27, ⟨1, s_iload_n dX6_keysAt_25 rfl, ⟨1, s_iconst dX6_keysAt_26 rfl, rfl⟩⟩, t_nei dX6_keysAt_27 (by decide) rfl⟩
theorem ok_216_7 : BkOK mi i_216 (bpf P_216) 7 (B_216.getD 7 bk0) := ⟨34, ⟨1, s_aload_n dX6_keysAt_30 rfl, ⟨1, s_iload_n dX6_keysAt_31 rfl, ⟨2, s_iload dX6_keysAt_32, rfl⟩⟩⟩, t_cv rfl mi_185 mok_185 rfl (fun _ => ⟨rfl, by decide +kernel⟩) (fun hs' e => by cases e; intro E n b h; cases h) (fun q fs As rest h hp hA hr => (call_V (i := i_216) (j := i_185) (C := RX6) (T := TX6) (N := 30) dX6_keysAt_34 mok_185 rfl ⟨by decide, by decide⟩ np_185 rfl rfl wt_1389 wt_1391 ws_34 hp hA hr rfl).thr (fun _ => True.intro))⟩
theorem ok_216_8 : BkOK mi i_216 (bpf P_216) 8 (B_216.getD 8 bk0) := ⟨38, ⟨1, s_istore_n dX6_keysAt_37 rfl (by decide), rfl⟩, t_fall rfl⟩
theorem ok_216_9 : BkOK mi i_216 (bpf P_216) 9 (B_216.getD 9 bk0) := ⟨39, ⟨1, s_iload_n dX6_keysAt_38 rfl, rfl⟩, t_eq0 dX6_keysAt_39 (by decide) rfl⟩
theorem ok_216_10 : BkOK mi i_216 (bpf P_216) 10 (B_216.getD 10 bk0) := ⟨47, ⟨1, s_iload_n dX6_keysAt_42 rfl, ⟨1, s_aload_n dX6_keysAt_43 rfl, ⟨1, s_iload_n dX6_keysAt_44 rfl, ⟨2, s_iload dX6_keysAt_45, rfl⟩⟩⟩⟩, t_cv rfl mi_185 mok_185 rfl (fun _ => ⟨rfl, by decide +kernel⟩) (fun hs' e => by cases e; intro E n b h; cases h) (fun q fs As rest h hp hA hr => (call_V (i := i_216) (j := i_185) (C := RX6) (T := TX6) (N := 30) dX6_keysAt_47 mok_185 rfl ⟨by decide, by decide⟩ np_185 rfl rfl wt_1389 wt_1391 ws_34 hp hA hr rfl).thr (fun _ => True.intro))⟩
theorem ok_216_11 : BkOK mi i_216 (bpf P_216) 11 (B_216.getD 11 bk0) := ⟨53, ⟨3, s_mmax dX6_keysAt_50 wt_1156x wt_43 wt_4 wt_44 ⟨by decide, by decide⟩, rfl⟩, t_go dX6_keysAt_53 (by decide)⟩
theorem ok_216_12 : BkOK mi i_216 (bpf P_216) 12 (B_216.getD 12 bk0) := ⟨61, ⟨1, s_iload_n dX6_keysAt_56 rfl, ⟨1, s_aload_n dX6_keysAt_57 rfl, ⟨1, s_iload_n dX6_keysAt_58 rfl, ⟨2, s_iload dX6_keysAt_59, rfl⟩⟩⟩⟩, t_cv rfl mi_185 mok_185 rfl (fun _ => ⟨rfl, by decide +kernel⟩) (fun hs' e => by cases e; intro E n b h; cases h) (fun q fs As rest h hp hA hr => (call_V (i := i_216) (j := i_185) (C := RX6) (T := TX6) (N := 30) dX6_keysAt_61 mok_185 rfl ⟨by decide, by decide⟩ np_185 rfl rfl wt_1389 wt_1391 ws_34 hp hA hr rfl).thr (fun _ => True.intro))⟩
theorem ok_216_13 : BkOK mi i_216 (bpf P_216) 13 (B_216.getD 13 bk0) := ⟨67, ⟨3, s_mmin dX6_keysAt_64 wt_1155x wt_293 wt_4 wt_294 ⟨by decide, by decide⟩, rfl⟩, t_fall rfl⟩
theorem ok_216_14 : BkOK mi i_216 (bpf P_216) 14 (B_216.getD 14 bk0) := ⟨71, ⟨1, s_istore_n dX6_keysAt_67 rfl (by decide), ⟨3, s_iinc dX6_keysAt_68 rfl (by decide), rfl⟩⟩, t_go dX6_keysAt_71 (by decide)⟩
theorem ok_216_15 : BkOK mi i_216 (bpf P_216) 15 (B_216.getD 15 bk0) := ⟨77, ⟨3, s_iinc dX6_keysAt_74 rfl (by decide), rfl⟩, t_go dX6_keysAt_77 (by decide)⟩
theorem ok_216_16 : BkOK mi i_216 (bpf P_216) 16 (B_216.getD 16 bk0) := ⟨81, ⟨1, s_iload_n dX6_keysAt_80 rfl, rfl⟩, t_ret dX6_keysAt_81 rfl⟩
theorem ok_216 : ∀ b, BkOK mi i_216 (bpf P_216) b (B_216.getD b bk0)
  | 0 => ok_216_0
  | 1 => ok_216_1
  | 2 => ok_216_2
  | 3 => ok_216_3
  | 4 => ok_216_4
  | 5 => ok_216_5
  | 6 => ok_216_6
  | 7 => ok_216_7
  | 8 => ok_216_8
  | 9 => ok_216_9
  | 10 => ok_216_10
  | 11 => ok_216_11
  | 12 => ok_216_12
  | 13 => ok_216_13
  | 14 => ok_216_14
  | 15 => ok_216_15
  | 16 => ok_216_16
  | b + 17 => bk_none mi i_216 (bpf P_216) (b + 17)
theorem ok_217_0 : BkOK mi i_217 (bpf P_217) 0 (B_217.getD 0 bk0) := ⟨4, ⟨1, s_iconst dX6_blacks_0 rfl, ⟨1, s_istore_n dX6_blacks_1 rfl (by decide), ⟨1, s_iconst dX6_blacks_2 rfl, ⟨1, s_istore_n dX6_blacks_3 rfl (by decide), rfl⟩⟩⟩⟩, t_fall rfl⟩
theorem ok_217_1 : BkOK mi i_217 (bpf P_217) 1 (B_217.getD 1 bk0) := ⟨6, ⟨1, s_iload_n dX6_blacks_4 rfl, ⟨1, s_aload_n dX6_blacks_5 rfl, rfl⟩⟩, t_cv rfl mi_182 mok_182 rfl (fun _ => ⟨rfl, by decide +kernel⟩) (fun hs' e => by cases e; intro E n b h; cases h) (fun q fs As rest h hp hA hr => (call_V (i := i_217) (j := i_182) (C := RX6) (T := TX6) (N := 30) dX6_blacks_6 mok_182 rfl ⟨by decide, by decide⟩ np_182 rfl rfl wt_1275 wt_1277 ws_16 hp hA hr rfl).thr (fun _ => True.intro))⟩
theorem ok_217_2 : BkOK mi i_217 (bpf P_217) 2 (B_217.getD 2 bk0) := ⟨9, rfl, t_ge dX6_blacks_9 (by decide) rfl⟩
theorem ok_217_3 : BkOK mi i_217 (bpf P_217) 3 (B_217.getD 3 bk0) := ⟨14, ⟨1, s_iconst dX6_blacks_12 rfl, ⟨1, s_istore_n dX6_blacks_13 rfl (by decide), rfl⟩⟩, t_fall rfl⟩
theorem ok_217_4 : BkOK mi i_217 (bpf P_217) 4 (B_217.getD 4 bk0) := ⟨17, ⟨1, s_iload_n dX6_blacks_14 rfl, ⟨1, s_aload_n dX6_blacks_15 rfl, ⟨1, s_iload_n dX6_blacks_16 rfl, rfl⟩⟩⟩, t_cv rfl mi_183 mok_183 rfl (fun _ => ⟨rfl, by decide +kernel⟩) (fun hs' e => by cases e; intro E n b h; cases h) (fun q fs As rest h hp hA hr => (call_V (i := i_217) (j := i_183) (C := RX6) (T := TX6) (N := 30) dX6_blacks_17 mok_183 rfl ⟨by decide, by decide⟩ np_183 rfl rfl wt_1381 wt_1383 ws_32 hp hA hr rfl).thr (fun _ => True.intro))⟩
theorem ok_217_5 : BkOK mi i_217 (bpf P_217) 5 (B_217.getD 5 bk0) := ⟨20, rfl, t_ge dX6_blacks_20 (by decide) rfl⟩
theorem ok_217_6 : BkOK mi i_217 (bpf P_217) 6 (B_217.getD 6 bk0) := ⟨27, ⟨1, s_iload_n dX6_blacks_23 rfl, ⟨1, s_aload_n dX6_blacks_24 rfl, ⟨1, s_iload_n dX6_blacks_25 rfl, ⟨1, s_iload_n dX6_blacks_26 rfl, rfl⟩⟩⟩⟩, t_cv rfl mi_185 mok_185 rfl (fun _ => ⟨rfl, by decide +kernel⟩) (fun hs' e => by cases e; intro E n b h; cases h) (fun q fs As rest h hp hA hr => (call_V (i := i_217) (j := i_185) (C := RX6) (T := TX6) (N := 30) dX6_blacks_27 mok_185 rfl ⟨by decide, by decide⟩ np_185 rfl rfl wt_1389 wt_1391 ws_34 hp hA hr rfl).thr (fun _ => True.intro))⟩
theorem ok_217_7 : BkOK mi i_217 (bpf P_217) 7 (B_217.getD 7 bk0) := ⟨30, rfl, t_cs rfl mi_191 mok_191 rfl (fun As rest h hA hr => call_S dX6_blacks_30 mok_191 rfl ⟨by decide, by decide⟩ np_191 wt_1397 wt_1398 hA hr)⟩
theorem ok_217_8 : BkOK mi i_217 (bpf P_217) 8 (B_217.getD 8 bk0) := ⟨33, rfl, t_eq0 dX6_blacks_33 (by decide) rfl⟩
theorem ok_217_9 : BkOK mi i_217 (bpf P_217) 9 (B_217.getD 9 bk0) := ⟨37, ⟨1, s_iconst dX6_blacks_36 rfl, rfl⟩, t_go dX6_blacks_37 (by decide)⟩
theorem ok_217_10 : BkOK mi i_217 (bpf P_217) 10 (B_217.getD 10 bk0) := ⟨41, ⟨1, s_iconst dX6_blacks_40 rfl, rfl⟩, t_fall rfl⟩
theorem ok_217_11 : BkOK mi i_217 (bpf P_217) 11 (B_217.getD 11 bk0) := ⟨46, ⟨1, s_iadd dX6_blacks_41, ⟨1, s_istore_n dX6_blacks_42 rfl (by decide), ⟨3, s_iinc dX6_blacks_43 rfl (by decide), rfl⟩⟩⟩, t_go dX6_blacks_46 (by decide)⟩
theorem ok_217_12 : BkOK mi i_217 (bpf P_217) 12 (B_217.getD 12 bk0) := ⟨52, ⟨3, s_iinc dX6_blacks_49 rfl (by decide), rfl⟩, t_go dX6_blacks_52 (by decide)⟩
theorem ok_217_13 : BkOK mi i_217 (bpf P_217) 13 (B_217.getD 13 bk0) := ⟨56, ⟨1, s_iload_n dX6_blacks_55 rfl, rfl⟩, t_ret dX6_blacks_56 rfl⟩
theorem ok_217 : ∀ b, BkOK mi i_217 (bpf P_217) b (B_217.getD b bk0)
  | 0 => ok_217_0
  | 1 => ok_217_1
  | 2 => ok_217_2
  | 3 => ok_217_3
  | 4 => ok_217_4
  | 5 => ok_217_5
  | 6 => ok_217_6
  | 7 => ok_217_7
  | 8 => ok_217_8
  | 9 => ok_217_9
  | 10 => ok_217_10
  | 11 => ok_217_11
  | 12 => ok_217_12
  | 13 => ok_217_13
  | b + 14 => bk_none mi i_217 (bpf P_217) (b + 14)
theorem ok_218_0 : BkOK mi i_218 (bpf P_218) 0 (B_218.getD 0 bk0) := ⟨4, ⟨1, s_iconst dX6_freePassages_0 rfl, ⟨1, s_istore_n dX6_freePassages_1 rfl (by decide), ⟨1, s_iconst dX6_freePassages_2 rfl, ⟨1, s_istore_n dX6_freePassages_3 rfl (by decide), rfl⟩⟩⟩⟩, t_fall rfl⟩
theorem ok_218_1 : BkOK mi i_218 (bpf P_218) 1 (B_218.getD 1 bk0) := ⟨8, ⟨1, s_iload_n dX6_freePassages_4 rfl, ⟨1, s_iconst dX6_freePassages_5 rfl, ⟨1, s_iadd dX6_freePassages_6, ⟨1, s_aload_n dX6_freePassages_7 rfl, rfl⟩⟩⟩⟩, t_cv rfl mi_182 mok_182 rfl (fun _ => ⟨rfl, by decide +kernel⟩) (fun hs' e => by cases e; intro E n b h; cases h) (fun q fs As rest h hp hA hr => (call_V (i := i_218) (j := i_182) (C := RX6) (T := TX6) (N := 30) dX6_freePassages_8 mok_182 rfl ⟨by decide, by decide⟩ np_182 rfl rfl wt_1275 wt_1277 ws_16 hp hA hr rfl).thr (fun _ => True.intro))⟩
theorem ok_218_2 : BkOK mi i_218 (bpf P_218) 2 (B_218.getD 2 bk0) := ⟨11, rfl, t_ge dX6_freePassages_11 (by decide) rfl⟩
theorem ok_218_3 : BkOK mi i_218 (bpf P_218) 3 (B_218.getD 3 bk0) := ⟨17, ⟨1, s_iload_n dX6_freePassages_14 rfl, ⟨1, s_aload_n dX6_freePassages_15 rfl, ⟨1, s_iload_n dX6_freePassages_16 rfl, rfl⟩⟩⟩, t_cv rfl mi_193 mok_193 rfl (fun _ => ⟨rfl, by decide +kernel⟩) (fun hs' e => by cases e; intro E n b h; cases h) (fun q fs As rest h hp hA hr => (call_V (i := i_218) (j := i_193) (C := RX6) (T := TX6) (N := 30) dX6_freePassages_17 mok_193 rfl ⟨by decide, by decide⟩ np_193 rfl rfl wt_1404 wt_1406 ws_37 hp hA hr rfl).thr (fun _ => True.intro))⟩
theorem ok_218_4 : BkOK mi i_218 (bpf P_218) 4 (B_218.getD 4 bk0) := ⟨20, rfl, t_eq0 dX6_freePassages_20 (by decide) rfl⟩
theorem ok_218_5 : BkOK mi i_218 (bpf P_218) 5 (B_218.getD 5 bk0) := ⟨24, ⟨1, s_iconst dX6_freePassages_23 rfl, rfl⟩, t_go dX6_freePassages_24 (by decide)⟩
theorem ok_218_6 : BkOK mi i_218 (bpf P_218) 6 (B_218.getD 6 bk0) := ⟨28, ⟨1, s_iconst dX6_freePassages_27 rfl, rfl⟩, t_fall rfl⟩
theorem ok_218_7 : BkOK mi i_218 (bpf P_218) 7 (B_218.getD 7 bk0) := ⟨33, ⟨1, s_iadd dX6_freePassages_28, ⟨1, s_istore_n dX6_freePassages_29 rfl (by decide), ⟨3, s_iinc dX6_freePassages_30 rfl (by decide), rfl⟩⟩⟩, t_go dX6_freePassages_33 (by decide)⟩
theorem ok_218_8 : BkOK mi i_218 (bpf P_218) 8 (B_218.getD 8 bk0) := ⟨37, ⟨1, s_iload_n dX6_freePassages_36 rfl, rfl⟩, t_ret dX6_freePassages_37 rfl⟩
theorem ok_218 : ∀ b, BkOK mi i_218 (bpf P_218) b (B_218.getD b bk0)
  | 0 => ok_218_0
  | 1 => ok_218_1
  | 2 => ok_218_2
  | 3 => ok_218_3
  | 4 => ok_218_4
  | 5 => ok_218_5
  | 6 => ok_218_6
  | 7 => ok_218_7
  | 8 => ok_218_8
  | b + 9 => bk_none mi i_218 (bpf P_218) (b + 9)
theorem ok_219_0 : BkOK mi i_219 (bpf P_219) 0 (B_219.getD 0 bk0) := ⟨5, ⟨1, s_aload_n dX6_count_0 rfl, ⟨1, s_iload_n dX6_count_1 rfl, ⟨1, s_iconst dX6_count_2 rfl, ⟨2, s_bipush dX6_count_3 rfl, rfl⟩⟩⟩⟩, t_cs rfl mi_157 mok_157 rfl (fun As rest h hA hr => call_S dX6_count_5 mok_157 rfl ⟨by decide, by decide⟩ np_157 wt_1264 wt_1265 hA hr)⟩
theorem ok_219_1 : BkOK mi i_219 (bpf P_219) 1 (B_219.getD 1 bk0) := ⟨8, rfl, t_eq0 dX6_count_8 (by decide) rfl⟩
theorem ok_219_2 : BkOK mi i_219 (bpf P_219) 2 (B_219.getD 2 bk0) := ⟨12, ⟨1, s_iconst dX6_count_11 rfl, rfl⟩, t_go dX6_count_12 (by decide)⟩
theorem ok_219_3 : BkOK mi i_219 (bpf P_219) 3 (B_219.getD 3 bk0) := ⟨16, ⟨1, s_iconst dX6_count_15 rfl, rfl⟩, t_fall rfl⟩
theorem ok_219_4 : BkOK mi i_219 (bpf P_219) 4 (B_219.getD 4 bk0) := ⟨23, ⟨3, s_put (C := RX6) (T := TX6) (N := 30) tyX6 tyX6_ok nmX6 dX6_count_16 rfl (by decide) rfl (tyX6_ok 7 (by decide)) wt_1164 uw_X6, ⟨1, s_aload_n dX6_count_19 rfl, ⟨3, s_get (C := RX6) (T := TX6) (N := 30) dX6_count_20 rfl (by decide) wt_1164 uw_X6, rfl⟩⟩⟩, t_le0 dX6_count_23 (by decide) rfl⟩
theorem ok_219_5 : BkOK mi i_219 (bpf P_219) 5 (B_219.getD 5 bk0) := ⟨27, ⟨1, s_iconst dX6_count_26 rfl, rfl⟩, t_ret dX6_count_27 rfl⟩
theorem ok_219_6 : BkOK mi i_219 (bpf P_219) 6 (B_219.getD 6 bk0) := ⟨29, ⟨1, s_iload_n dX6_count_28 rfl, rfl⟩, t_table dX6_count_29 (by decide) (by decide) ⟨by decide, by decide⟩ (by decide +kernel)⟩
theorem ok_219_7 : BkOK mi i_219 (bpf P_219) 7 (B_219.getD 7 bk0) := ⟨69, ⟨1, s_aload_n dX6_count_68 rfl, rfl⟩, t_cv rfl mi_182 mok_182 rfl (fun _ => ⟨rfl, by decide +kernel⟩) (fun hs' e => by cases e; intro E n b h; cases h) (fun q fs As rest h hp hA hr => (call_V (i := i_219) (j := i_182) (C := RX6) (T := TX6) (N := 30) dX6_count_69 mok_182 rfl ⟨by decide, by decide⟩ np_182 rfl rfl wt_1275 wt_1277 ws_16 hp hA hr rfl).thr (fun _ => True.intro))⟩
theorem ok_219_8 : BkOK mi i_219 (bpf P_219) 8 (B_219.getD 8 bk0) := ⟨72, rfl, t_ret dX6_count_72 rfl⟩
theorem ok_219_9 : BkOK mi i_219 (bpf P_219) 9 (B_219.getD 9 bk0) := ⟨74, ⟨1, s_aload_n dX6_count_73 rfl, rfl⟩, t_cv rfl mi_192 mok_192 rfl (fun _ => ⟨rfl, by decide +kernel⟩) (fun hs' e => by cases e; intro E n b h; cases h) (fun q fs As rest h hp hA hr => (call_V (i := i_219) (j := i_192) (C := RX6) (T := TX6) (N := 30) dX6_count_74 mok_192 rfl ⟨by decide, by decide⟩ np_192 rfl rfl wt_1377 wt_1379 ws_31 hp hA hr rfl).thr (fun _ => True.intro))⟩
theorem ok_219_10 : BkOK mi i_219 (bpf P_219) 10 (B_219.getD 10 bk0) := ⟨77, rfl, t_ret dX6_count_77 rfl⟩
theorem ok_219_11 : BkOK mi i_219 (bpf P_219) 11 (B_219.getD 11 bk0) := ⟨84, ⟨1, s_aload_n dX6_count_78 rfl, ⟨3, s_get (C := RX6) (T := TX6) (N := 30) dX6_count_79 rfl (by decide) wt_1157 uw_X6, ⟨1, s_iconst dX6_count_82 rfl, ⟨1, s_iald dX6_count_83, rfl⟩⟩⟩⟩, t_ret dX6_count_84 rfl⟩
theorem ok_219_12 : BkOK mi i_219 (bpf P_219) 12 (B_219.getD 12 bk0) := ⟨87, ⟨1, s_aload_n dX6_count_85 rfl, ⟨1, s_iconst dX6_count_86 rfl, rfl⟩⟩, t_cv rfl mi_216 mok_216 rfl (fun _ => ⟨rfl, by decide +kernel⟩) (fun hs' e => by cases e; intro E n b h; cases h) (fun q fs As rest h hp hA hr => (call_V (i := i_219) (j := i_216) (C := RX6) (T := TX6) (N := 30) dX6_count_87 mok_216 rfl ⟨by decide, by decide⟩ np_216 rfl rfl wt_1385 wt_1387 ws_33 hp hA hr rfl).thr (fun _ => True.intro))⟩
theorem ok_219_13 : BkOK mi i_219 (bpf P_219) 13 (B_219.getD 13 bk0) := ⟨90, rfl, t_ret dX6_count_90 rfl⟩
theorem ok_219_14 : BkOK mi i_219 (bpf P_219) 14 (B_219.getD 14 bk0) := ⟨93, ⟨1, s_aload_n dX6_count_91 rfl, ⟨1, s_iconst dX6_count_92 rfl, rfl⟩⟩, t_cv rfl mi_216 mok_216 rfl (fun _ => ⟨rfl, by decide +kernel⟩) (fun hs' e => by cases e; intro E n b h; cases h) (fun q fs As rest h hp hA hr => (call_V (i := i_219) (j := i_216) (C := RX6) (T := TX6) (N := 30) dX6_count_93 mok_216 rfl ⟨by decide, by decide⟩ np_216 rfl rfl wt_1385 wt_1387 ws_33 hp hA hr rfl).thr (fun _ => True.intro))⟩
theorem ok_219_15 : BkOK mi i_219 (bpf P_219) 15 (B_219.getD 15 bk0) := ⟨96, rfl, t_ret dX6_count_96 rfl⟩
theorem ok_219_16 : BkOK mi i_219 (bpf P_219) 16 (B_219.getD 16 bk0) := ⟨98, ⟨1, s_aload_n dX6_count_97 rfl, rfl⟩, t_cv rfl mi_217 mok_217 rfl (fun _ => ⟨rfl, by decide +kernel⟩) (fun hs' e => by cases e; intro E n b h; cases h) (fun q fs As rest h hp hA hr => (call_V (i := i_219) (j := i_217) (C := RX6) (T := TX6) (N := 30) dX6_count_98 mok_217 rfl ⟨by decide, by decide⟩ np_217 rfl rfl wt_1393 wt_1395 ws_35 hp hA hr rfl).thr (fun _ => True.intro))⟩
theorem ok_219_17 : BkOK mi i_219 (bpf P_219) 17 (B_219.getD 17 bk0) := ⟨101, rfl, t_ret dX6_count_101 rfl⟩
theorem ok_219_18 : BkOK mi i_219 (bpf P_219) 18 (B_219.getD 18 bk0) := ⟨103, ⟨1, s_aload_n dX6_count_102 rfl, rfl⟩, t_cv rfl mi_218 mok_218 rfl (fun _ => ⟨rfl, by decide +kernel⟩) (fun hs' e => by cases e; intro E n b h; cases h) (fun q fs As rest h hp hA hr => (call_V (i := i_219) (j := i_218) (C := RX6) (T := TX6) (N := 30) dX6_count_103 mok_218 rfl ⟨by decide, by decide⟩ np_218 rfl rfl wt_1400 wt_1402 ws_36 hp hA hr rfl).thr (fun _ => True.intro))⟩
theorem ok_219_19 : BkOK mi i_219 (bpf P_219) 19 (B_219.getD 19 bk0) := ⟨106, rfl, t_ret dX6_count_106 rfl⟩
theorem ok_219 : ∀ b, BkOK mi i_219 (bpf P_219) b (B_219.getD b bk0)
  | 0 => ok_219_0
  | 1 => ok_219_1
  | 2 => ok_219_2
  | 3 => ok_219_3
  | 4 => ok_219_4
  | 5 => ok_219_5
  | 6 => ok_219_6
  | 7 => ok_219_7
  | 8 => ok_219_8
  | 9 => ok_219_9
  | 10 => ok_219_10
  | 11 => ok_219_11
  | 12 => ok_219_12
  | 13 => ok_219_13
  | 14 => ok_219_14
  | 15 => ok_219_15
  | 16 => ok_219_16
  | 17 => ok_219_17
  | 18 => ok_219_18
  | 19 => ok_219_19
  | b + 20 => bk_none mi i_219 (bpf P_219) (b + 20)
theorem ok_220_0 : BkOK mi i_220 (bpf P_220) 0 (B_220.getD 0 bk0) := ⟨3, ⟨1, s_aload_n dX6_event_0 rfl, ⟨1, s_aload_n dX6_event_1 rfl, ⟨1, s_iload_n dX6_event_2 rfl, rfl⟩⟩⟩, t_cv rfl mi_188 mok_188 rfl (fun _ => ⟨rfl, by decide +kernel⟩) (fun hs' e => by cases e; intro E n b h; cases h) (fun q fs As rest h hp hA hr => (call_V (i := i_220) (j := i_188) (C := RX6) (T := TX6) (N := 30) dX6_event_3 mok_188 rfl ⟨by decide, by decide⟩ np_188 rfl rfl wt_1420 wt_1422 ws_40 hp hA hr rfl).thr (fun _ => True.intro))⟩
theorem ok_220_1 : BkOK mi i_220 (bpf P_220) 1 (B_220.getD 1 bk0) := ⟨6, rfl, t_ne0 dX6_event_6 (by decide) rfl⟩
theorem ok_220_2 : BkOK mi i_220 (bpf P_220) 2 (B_220.getD 2 bk0) := ⟨10, ⟨1, s_iconst dX6_event_9 rfl, rfl⟩, t_go dX6_event_10 (by decide)⟩
theorem ok_220_3 : BkOK mi i_220 (bpf P_220) 3 (B_220.getD 3 bk0) := ⟨16, ⟨1, s_iload_n dX6_event_13 rfl, ⟨1, s_iconst dX6_event_14 rfl, ⟨1, s_iconst dX6_event_15 rfl, rfl⟩⟩⟩, t_cs rfl mi_157 mok_157 rfl (fun As rest h hA hr => call_S dX6_event_16 mok_157 rfl ⟨by decide, by decide⟩ np_157 wt_1264 wt_1265 hA hr)⟩
theorem ok_220_4 : BkOK mi i_220 (bpf P_220) 4 (B_220.getD 4 bk0) := ⟨19, rfl, t_eq0 dX6_event_19 (by decide) rfl⟩
theorem ok_220_5 : BkOK mi i_220 (bpf P_220) 5 (B_220.getD 5 bk0) := ⟨23, ⟨1, s_iconst dX6_event_22 rfl, rfl⟩, t_go dX6_event_23 (by decide)⟩
theorem ok_220_6 : BkOK mi i_220 (bpf P_220) 6 (B_220.getD 6 bk0) := ⟨27, ⟨1, s_iconst dX6_event_26 rfl, rfl⟩, t_fall rfl⟩
theorem ok_220_7 : BkOK mi i_220 (bpf P_220) 7 (B_220.getD 7 bk0) := ⟨34, ⟨3, s_put (C := RX6) (T := TX6) (N := 30) tyX6 tyX6_ok nmX6 dX6_event_27 rfl (by decide) rfl (tyX6_ok 7 (by decide)) wt_1164 uw_X6, ⟨1, s_aload_n dX6_event_30 rfl, ⟨3, s_get (C := RX6) (T := TX6) (N := 30) dX6_event_31 rfl (by decide) wt_1164 uw_X6, rfl⟩⟩⟩, t_le0 dX6_event_34 (by decide) rfl⟩
theorem ok_220_8 : BkOK mi i_220 (bpf P_220) 8 (B_220.getD 8 bk0) := ⟨38, ⟨1, s_iconst dX6_event_37 rfl, rfl⟩, t_ret dX6_event_38 rfl⟩
theorem ok_220_9 : BkOK mi i_220 (bpf P_220) 9 (B_220.getD 9 bk0) := ⟨40, ⟨1, s_aload_n dX6_event_39 rfl, rfl⟩, t_cv rfl mi_201 mok_201 rfl (fun _ => ⟨rfl, by decide +kernel⟩) (fun hs' e => by cases e; intro E n b h; cases h) (fun q fs As rest h hp hA hr => (call_V (i := i_220) (j := i_201) (C := RX6) (T := TX6) (N := 30) dX6_event_40 mok_201 rfl ⟨by decide, by decide⟩ np_201 rfl rfl wt_1424 wt_1426 ws_41 hp hA hr rfl).thr (fun _ => True.intro))⟩
theorem ok_220_10 : BkOK mi i_220 (bpf P_220) 10 (B_220.getD 10 bk0) := ⟨44, ⟨1, s_iload_n dX6_event_43 rfl, rfl⟩, t_ne0 dX6_event_44 (by decide) rfl⟩
theorem ok_220_11 : BkOK mi i_220 (bpf P_220) 11 (B_220.getD 11 bk0) := ⟨49, ⟨1, s_aload_n dX6_event_47 rfl, ⟨1, s_iload_n dX6_event_48 rfl, rfl⟩⟩, t_cv rfl mi_183 mok_183 rfl (fun _ => ⟨rfl, by decide +kernel⟩) (fun hs' e => by cases e; intro E n b h; cases h) (fun q fs As rest h hp hA hr => (call_V (i := i_220) (j := i_183) (C := RX6) (T := TX6) (N := 30) dX6_event_49 mok_183 rfl ⟨by decide, by decide⟩ np_183 rfl rfl wt_1381 wt_1383 ws_32 hp hA hr rfl).thr (fun _ => True.intro))⟩
theorem ok_220_12 : BkOK mi i_220 (bpf P_220) 12 (B_220.getD 12 bk0) := ⟨52, rfl, t_go dX6_event_52 (by decide)⟩
theorem ok_220_13 : BkOK mi i_220 (bpf P_220) 13 (B_220.getD 13 bk0) := ⟨57, ⟨1, s_iload_n dX6_event_55 rfl, ⟨1, s_iconst dX6_event_56 rfl, rfl⟩⟩, t_nei dX6_event_57 (by decide) rfl⟩
theorem ok_220_14 : BkOK mi i_220 (bpf P_220) 14 (B_220.getD 14 bk0) := ⟨62, ⟨1, s_aload_n dX6_event_60 rfl, ⟨1, s_iload_n dX6_event_61 rfl, rfl⟩⟩, t_cv rfl mi_184 mok_184 rfl (fun _ => ⟨rfl, by decide +kernel⟩) (fun hs' e => by cases e; intro E n b h; cases h) (fun q fs As rest h hp hA hr => (call_V (i := i_220) (j := i_184) (C := RX6) (T := TX6) (N := 30) dX6_event_62 mok_184 rfl ⟨by decide, by decide⟩ np_184 rfl rfl wt_1408 wt_1410 ws_38 hp hA hr rfl).thr (fun _ => True.intro))⟩
theorem ok_220_15 : BkOK mi i_220 (bpf P_220) 15 (B_220.getD 15 bk0) := ⟨65, rfl, t_go dX6_event_65 (by decide)⟩
theorem ok_220_16 : BkOK mi i_220 (bpf P_220) 16 (B_220.getD 16 bk0) := ⟨74, ⟨1, s_aload_n dX6_event_68 rfl, ⟨3, s_get (C := RX6) (T := TX6) (N := 30) dX6_event_69 rfl (by decide) wt_1177 uw_X6, ⟨1, s_iload_n dX6_event_72 rfl, ⟨1, s_iald dX6_event_73, rfl⟩⟩⟩⟩, t_fall rfl⟩
theorem ok_220_17 : BkOK mi i_220 (bpf P_220) 17 (B_220.getD 17 bk0) := ⟨74, rfl, t_ret dX6_event_74 rfl⟩
theorem ok_220 : ∀ b, BkOK mi i_220 (bpf P_220) b (B_220.getD b bk0)
  | 0 => ok_220_0
  | 1 => ok_220_1
  | 2 => ok_220_2
  | 3 => ok_220_3
  | 4 => ok_220_4
  | 5 => ok_220_5
  | 6 => ok_220_6
  | 7 => ok_220_7
  | 8 => ok_220_8
  | 9 => ok_220_9
  | 10 => ok_220_10
  | 11 => ok_220_11
  | 12 => ok_220_12
  | 13 => ok_220_13
  | 14 => ok_220_14
  | 15 => ok_220_15
  | 16 => ok_220_16
  | 17 => ok_220_17
  | b + 18 => bk_none mi i_220 (bpf P_220) (b + 18)
theorem ok_221_0 : BkOK mi i_221 (bpf P_221) 0 (B_221.getD 0 bk0) := ⟨4, ⟨1, s_aload_n dX6_note_0 rfl, ⟨1, s_aload_n dX6_note_1 rfl, ⟨1, s_iload_n dX6_note_2 rfl, ⟨1, s_iload_n dX6_note_3 rfl, rfl⟩⟩⟩⟩, t_cv rfl mi_189 mok_189 rfl (fun _ => ⟨rfl, by decide +kernel⟩) (fun hs' e => by cases e; intro E n b h; cases h) (fun q fs As rest h hp hA hr => (call_V (i := i_221) (j := i_189) (C := RX6) (T := TX6) (N := 30) dX6_note_4 mok_189 rfl ⟨by decide, by decide⟩ np_189 rfl rfl wt_1459 wt_1461 ws_48 hp hA hr rfl).thr (fun _ => True.intro))⟩
theorem ok_221_1 : BkOK mi i_221 (bpf P_221) 1 (B_221.getD 1 bk0) := ⟨7, rfl, t_ne0 dX6_note_7 (by decide) rfl⟩
theorem ok_221_2 : BkOK mi i_221 (bpf P_221) 2 (B_221.getD 2 bk0) := ⟨11, ⟨1, s_iconst dX6_note_10 rfl, rfl⟩, t_go dX6_note_11 (by decide)⟩
theorem ok_221_3 : BkOK mi i_221 (bpf P_221) 3 (B_221.getD 3 bk0) := ⟨17, ⟨1, s_iload_n dX6_note_14 rfl, ⟨1, s_iconst dX6_note_15 rfl, ⟨1, s_iconst dX6_note_16 rfl, rfl⟩⟩⟩, t_cs rfl mi_157 mok_157 rfl (fun As rest h hA hr => call_S dX6_note_17 mok_157 rfl ⟨by decide, by decide⟩ np_157 wt_1264 wt_1265 hA hr)⟩
theorem ok_221_4 : BkOK mi i_221 (bpf P_221) 4 (B_221.getD 4 bk0) := ⟨20, rfl, t_eq0 dX6_note_20 (by decide) rfl⟩
theorem ok_221_5 : BkOK mi i_221 (bpf P_221) 5 (B_221.getD 5 bk0) := ⟨24, ⟨1, s_iconst dX6_note_23 rfl, rfl⟩, t_go dX6_note_24 (by decide)⟩
theorem ok_221_6 : BkOK mi i_221 (bpf P_221) 6 (B_221.getD 6 bk0) := ⟨28, ⟨1, s_iconst dX6_note_27 rfl, rfl⟩, t_fall rfl⟩
theorem ok_221_7 : BkOK mi i_221 (bpf P_221) 7 (B_221.getD 7 bk0) := ⟨35, ⟨3, s_put (C := RX6) (T := TX6) (N := 30) tyX6 tyX6_ok nmX6 dX6_note_28 rfl (by decide) rfl (tyX6_ok 7 (by decide)) wt_1164 uw_X6, ⟨1, s_aload_n dX6_note_31 rfl, ⟨3, s_get (C := RX6) (T := TX6) (N := 30) dX6_note_32 rfl (by decide) wt_1164 uw_X6, rfl⟩⟩⟩, t_le0 dX6_note_35 (by decide) rfl⟩
theorem ok_221_8 : BkOK mi i_221 (bpf P_221) 8 (B_221.getD 8 bk0) := ⟨39, ⟨1, s_iconst dX6_note_38 rfl, rfl⟩, t_ret dX6_note_39 rfl⟩
theorem ok_221_9 : BkOK mi i_221 (bpf P_221) 9 (B_221.getD 9 bk0) := ⟨41, ⟨1, s_iload_n dX6_note_40 rfl, rfl⟩, t_ne0 dX6_note_41 (by decide) rfl⟩
theorem ok_221_10 : BkOK mi i_221 (bpf P_221) 10 (B_221.getD 10 bk0) := ⟨47, ⟨1, s_aload_n dX6_note_44 rfl, ⟨1, s_iload_n dX6_note_45 rfl, ⟨1, s_iload_n dX6_note_46 rfl, rfl⟩⟩⟩, t_cv rfl mi_185 mok_185 rfl (fun _ => ⟨rfl, by decide +kernel⟩) (fun hs' e => by cases e; intro E n b h; cases h) (fun q fs As rest h hp hA hr => (call_V (i := i_221) (j := i_185) (C := RX6) (T := TX6) (N := 30) dX6_note_47 mok_185 rfl ⟨by decide, by decide⟩ np_185 rfl rfl wt_1389 wt_1391 ws_34 hp hA hr rfl).thr (fun _ => True.intro))⟩
theorem ok_221_11 : BkOK mi i_221 (bpf P_221) 11 (B_221.getD 11 bk0) := ⟨50, rfl, t_go dX6_note_50 (by decide)⟩
theorem ok_221_12 : BkOK mi i_221 (bpf P_221) 12 (B_221.getD 12 bk0) := ⟨56, ⟨1, s_aload_n dX6_note_53 rfl, ⟨1, s_iload_n dX6_note_54 rfl, ⟨1, s_iload_n dX6_note_55 rfl, rfl⟩⟩⟩, t_cv rfl mi_186 mok_186 rfl (fun _ => ⟨rfl, by decide +kernel⟩) (fun hs' e => by cases e; intro E n b h; cases h) (fun q fs As rest h hp hA hr => (call_V (i := i_221) (j := i_186) (C := RX6) (T := TX6) (N := 30) dX6_note_56 mok_186 rfl ⟨by decide, by decide⟩ np_186 rfl rfl wt_1447 wt_1449 ws_46 hp hA hr rfl).thr (fun _ => True.intro))⟩
theorem ok_221_13 : BkOK mi i_221 (bpf P_221) 13 (B_221.getD 13 bk0) := ⟨59, rfl, t_ret dX6_note_59 rfl⟩
theorem ok_221 : ∀ b, BkOK mi i_221 (bpf P_221) b (B_221.getD b bk0)
  | 0 => ok_221_0
  | 1 => ok_221_1
  | 2 => ok_221_2
  | 3 => ok_221_3
  | 4 => ok_221_4
  | 5 => ok_221_5
  | 6 => ok_221_6
  | 7 => ok_221_7
  | 8 => ok_221_8
  | 9 => ok_221_9
  | 10 => ok_221_10
  | 11 => ok_221_11
  | 12 => ok_221_12
  | 13 => ok_221_13
  | b + 14 => bk_none mi i_221 (bpf P_221) (b + 14)
theorem ok_222_0 : BkOK mi i_222 (bpf P_222) 0 (B_222.getD 0 bk0) := ⟨5, ⟨1, s_aload_n dX6_weight_0 rfl, ⟨1, s_iload_n dX6_weight_1 rfl, ⟨1, s_iconst dX6_weight_2 rfl, ⟨2, s_bipush dX6_weight_3 rfl, rfl⟩⟩⟩⟩, t_cs rfl mi_157 mok_157 rfl (fun As rest h hA hr => call_S dX6_weight_5 mok_157 rfl ⟨by decide, by decide⟩ np_157 wt_1264 wt_1265 hA hr)⟩
theorem ok_222_1 : BkOK mi i_222 (bpf P_222) 1 (B_222.getD 1 bk0) := ⟨8, rfl, t_eq0 dX6_weight_8 (by decide) rfl⟩
theorem ok_222_2 : BkOK mi i_222 (bpf P_222) 2 (B_222.getD 2 bk0) := ⟨12, ⟨1, s_iconst dX6_weight_11 rfl, rfl⟩, t_go dX6_weight_12 (by decide)⟩
theorem ok_222_3 : BkOK mi i_222 (bpf P_222) 3 (B_222.getD 3 bk0) := ⟨16, ⟨1, s_iconst dX6_weight_15 rfl, rfl⟩, t_fall rfl⟩
theorem ok_222_4 : BkOK mi i_222 (bpf P_222) 4 (B_222.getD 4 bk0) := ⟨23, ⟨3, s_put (C := RX6) (T := TX6) (N := 30) tyX6 tyX6_ok nmX6 dX6_weight_16 rfl (by decide) rfl (tyX6_ok 7 (by decide)) wt_1164 uw_X6, ⟨1, s_aload_n dX6_weight_19 rfl, ⟨3, s_get (C := RX6) (T := TX6) (N := 30) dX6_weight_20 rfl (by decide) wt_1164 uw_X6, rfl⟩⟩⟩, t_le0 dX6_weight_23 (by decide) rfl⟩
theorem ok_222_5 : BkOK mi i_222 (bpf P_222) 5 (B_222.getD 5 bk0) := ⟨27, ⟨1, s_iconst dX6_weight_26 rfl, rfl⟩, t_go dX6_weight_27 (by decide)⟩
theorem ok_222_6 : BkOK mi i_222 (bpf P_222) 6 (B_222.getD 6 bk0) := ⟨32, ⟨1, s_aload_n dX6_weight_30 rfl, ⟨1, s_iload_n dX6_weight_31 rfl, rfl⟩⟩, t_cv rfl mi_187 mok_187 rfl (fun _ => ⟨rfl, by decide +kernel⟩) (fun hs' e => by cases e; intro E n b h; cases h) (fun q fs As rest h hp hA hr => (call_V (i := i_222) (j := i_187) (C := RX6) (T := TX6) (N := 30) dX6_weight_32 mok_187 rfl ⟨by decide, by decide⟩ np_187 rfl rfl wt_1412 wt_1414 ws_39 hp hA hr rfl).thr (fun _ => True.intro))⟩
theorem ok_222_7 : BkOK mi i_222 (bpf P_222) 7 (B_222.getD 7 bk0) := ⟨35, rfl, t_ret dX6_weight_35 rfl⟩
theorem ok_222 : ∀ b, BkOK mi i_222 (bpf P_222) b (B_222.getD b bk0)
  | 0 => ok_222_0
  | 1 => ok_222_1
  | 2 => ok_222_2
  | 3 => ok_222_3
  | 4 => ok_222_4
  | 5 => ok_222_5
  | 6 => ok_222_6
  | 7 => ok_222_7
  | b + 8 => bk_none mi i_222 (bpf P_222) (b + 8)
theorem ok_223_0 : BkOK mi i_223 (bpf P_223) 0 (B_223.getD 0 bk0) := ⟨2, ⟨1, s_aload_n dX6_span_0 rfl, ⟨1, s_iload_n dX6_span_1 rfl, rfl⟩⟩, t_cs rfl mi_190 mok_190 rfl (fun As rest h hA hr => call_S dX6_span_2 mok_190 rfl ⟨by decide, by decide⟩ np_190 wt_1471 wt_1472 hA hr)⟩
theorem ok_223_1 : BkOK mi i_223 (bpf P_223) 1 (B_223.getD 1 bk0) := ⟨5, rfl, t_eq0 dX6_span_5 (by decide) rfl⟩
theorem ok_223_2 : BkOK mi i_223 (bpf P_223) 2 (B_223.getD 2 bk0) := ⟨9, ⟨1, s_iload_n dX6_span_8 rfl, rfl⟩, t_cs rfl mi_190 mok_190 rfl (fun As rest h hA hr => call_S dX6_span_9 mok_190 rfl ⟨by decide, by decide⟩ np_190 wt_1471 wt_1472 hA hr)⟩
theorem ok_223_3 : BkOK mi i_223 (bpf P_223) 3 (B_223.getD 3 bk0) := ⟨12, rfl, t_ne0 dX6_span_12 (by decide) rfl⟩
theorem ok_223_4 : BkOK mi i_223 (bpf P_223) 4 (B_223.getD 4 bk0) := ⟨16, ⟨1, s_iconst dX6_span_15 rfl, rfl⟩, t_go dX6_span_16 (by decide)⟩
theorem ok_223_5 : BkOK mi i_223 (bpf P_223) 5 (B_223.getD 5 bk0) := ⟨21, ⟨1, s_iload_n dX6_span_19 rfl, ⟨1, s_iload_n dX6_span_20 rfl, rfl⟩⟩, t_eq dX6_span_21 (by decide) rfl⟩
theorem ok_223_6 : BkOK mi i_223 (bpf P_223) 6 (B_223.getD 6 bk0) := ⟨27, ⟨1, s_iload_n dX6_span_24 rfl, ⟨1, s_iconst dX6_span_25 rfl, ⟨1, s_iconst dX6_span_26 rfl, rfl⟩⟩⟩, t_cs rfl mi_157 mok_157 rfl (fun As rest h hA hr => call_S dX6_span_27 mok_157 rfl ⟨by decide, by decide⟩ np_157 wt_1264 wt_1265 hA hr)⟩
theorem ok_223_7 : BkOK mi i_223 (bpf P_223) 7 (B_223.getD 7 bk0) := ⟨30, rfl, t_eq0 dX6_span_30 (by decide) rfl⟩
theorem ok_223_8 : BkOK mi i_223 (bpf P_223) 8 (B_223.getD 8 bk0) := ⟨34, ⟨1, s_iconst dX6_span_33 rfl, rfl⟩, t_go dX6_span_34 (by decide)⟩
theorem ok_223_9 : BkOK mi i_223 (bpf P_223) 9 (B_223.getD 9 bk0) := ⟨38, ⟨1, s_iconst dX6_span_37 rfl, rfl⟩, t_fall rfl⟩
theorem ok_223_10 : BkOK mi i_223 (bpf P_223) 10 (B_223.getD 10 bk0) := ⟨45, ⟨3, s_put (C := RX6) (T := TX6) (N := 30) tyX6 tyX6_ok nmX6 dX6_span_38 rfl (by decide) rfl (tyX6_ok 7 (by decide)) wt_1164 uw_X6, ⟨1, s_aload_n dX6_span_41 rfl, ⟨3, s_get (C := RX6) (T := TX6) (N := 30) dX6_span_42 rfl (by decide) wt_1164 uw_X6, rfl⟩⟩⟩, t_le0 dX6_span_45 (by decide) rfl⟩
theorem ok_223_11 : BkOK mi i_223 (bpf P_223) 11 (B_223.getD 11 bk0) := ⟨49, ⟨1, s_iconst dX6_span_48 rfl, rfl⟩, t_go dX6_span_49 (by decide)⟩
theorem ok_223_12 : BkOK mi i_223 (bpf P_223) 12 (B_223.getD 12 bk0) := ⟨58, ⟨1, s_aload_n dX6_span_52 rfl, ⟨3, s_get (C := RX6) (T := TX6) (N := 30) dX6_span_53 rfl (by decide) wt_1157 uw_X6, ⟨1, s_iload_n dX6_span_56 rfl, ⟨1, s_iload_n dX6_span_57 rfl, rfl⟩⟩⟩⟩, t_cs rfl mi_155 mok_155 rfl (fun As rest h hA hr => call_S dX6_span_58 mok_155 rfl ⟨by decide, by decide⟩ np_155 wt_1152 wt_1153 hA hr)⟩
theorem ok_223_13 : BkOK mi i_223 (bpf P_223) 13 (B_223.getD 13 bk0) := ⟨64, ⟨1, s_iload_n dX6_span_61 rfl, ⟨1, s_iadd dX6_span_62, ⟨1, s_iald dX6_span_63, rfl⟩⟩⟩, t_fall rfl⟩
theorem ok_223_14 : BkOK mi i_223 (bpf P_223) 14 (B_223.getD 14 bk0) := ⟨64, rfl, t_ret dX6_span_64 rfl⟩
theorem ok_223 : ∀ b, BkOK mi i_223 (bpf P_223) b (B_223.getD b bk0)
  | 0 => ok_223_0
  | 1 => ok_223_1
  | 2 => ok_223_2
  | 3 => ok_223_3
  | 4 => ok_223_4
  | 5 => ok_223_5
  | 6 => ok_223_6
  | 7 => ok_223_7
  | 8 => ok_223_8
  | 9 => ok_223_9
  | 10 => ok_223_10
  | 11 => ok_223_11
  | 12 => ok_223_12
  | 13 => ok_223_13
  | 14 => ok_223_14
  | b + 15 => bk_none mi i_223 (bpf P_223) (b + 15)
theorem ok_224_0 : BkOK mi i_224 (bpf P_224) 0 (B_224.getD 0 bk0) := ⟨5, ⟨1, s_iload_n dX6_isOnBoard_0 rfl, ⟨2, s_bipush dX6_isOnBoard_1 rfl, ⟨2, s_bipush dX6_isOnBoard_3 rfl, rfl⟩⟩⟩, t_cs rfl mi_157 mok_157 rfl (fun As rest h hA hr => call_S dX6_isOnBoard_5 mok_157 rfl ⟨by decide, by decide⟩ np_157 wt_1264 wt_1265 hA hr)⟩
theorem ok_224_1 : BkOK mi i_224 (bpf P_224) 1 (B_224.getD 1 bk0) := ⟨8, rfl, t_retZ dX6_isOnBoard_8 rfl⟩
theorem ok_224 : ∀ b, BkOK mi i_224 (bpf P_224) b (B_224.getD b bk0)
  | 0 => ok_224_0
  | 1 => ok_224_1
  | b + 2 => bk_none mi i_224 (bpf P_224) (b + 2)
theorem ok_225_0 : BkOK mi i_225 (bpf P_225) 0 (B_225.getD 0 bk0) := ⟨2, ⟨1, s_aload_n dX6_link_0 rfl, ⟨1, s_iload_n dX6_link_1 rfl, rfl⟩⟩, t_cs rfl mi_190 mok_190 rfl (fun As rest h hA hr => call_S dX6_link_2 mok_190 rfl ⟨by decide, by decide⟩ np_190 wt_1471 wt_1472 hA hr)⟩
theorem ok_225_1 : BkOK mi i_225 (bpf P_225) 1 (B_225.getD 1 bk0) := ⟨5, rfl, t_eq0 dX6_link_5 (by decide) rfl⟩
theorem ok_225_2 : BkOK mi i_225 (bpf P_225) 2 (B_225.getD 2 bk0) := ⟨9, ⟨1, s_iload_n dX6_link_8 rfl, rfl⟩, t_cs rfl mi_190 mok_190 rfl (fun As rest h hA hr => call_S dX6_link_9 mok_190 rfl ⟨by decide, by decide⟩ np_190 wt_1471 wt_1472 hA hr)⟩
theorem ok_225_3 : BkOK mi i_225 (bpf P_225) 3 (B_225.getD 3 bk0) := ⟨12, rfl, t_ne0 dX6_link_12 (by decide) rfl⟩
theorem ok_225_4 : BkOK mi i_225 (bpf P_225) 4 (B_225.getD 4 bk0) := ⟨16, ⟨1, s_iconst dX6_link_15 rfl, rfl⟩, t_go dX6_link_16 (by decide)⟩
theorem ok_225_5 : BkOK mi i_225 (bpf P_225) 5 (B_225.getD 5 bk0) := ⟨20, ⟨1, s_iload_n dX6_link_19 rfl, rfl⟩, t_cs rfl mi_224 mok_224 rfl (fun As rest h hA hr => call_S dX6_link_20 mok_224 rfl ⟨by decide, by decide⟩ np_224 wt_1478 wt_1479 hA hr)⟩
theorem ok_225_6 : BkOK mi i_225 (bpf P_225) 6 (B_225.getD 6 bk0) := ⟨23, rfl, t_eq0 dX6_link_23 (by decide) rfl⟩
theorem ok_225_7 : BkOK mi i_225 (bpf P_225) 7 (B_225.getD 7 bk0) := ⟨28, ⟨2, s_iload dX6_link_26, rfl⟩, t_cs rfl mi_224 mok_224 rfl (fun As rest h hA hr => call_S dX6_link_28 mok_224 rfl ⟨by decide, by decide⟩ np_224 wt_1478 wt_1479 hA hr)⟩
theorem ok_225_8 : BkOK mi i_225 (bpf P_225) 8 (B_225.getD 8 bk0) := ⟨31, rfl, t_eq0 dX6_link_31 (by decide) rfl⟩
theorem ok_225_9 : BkOK mi i_225 (bpf P_225) 9 (B_225.getD 9 bk0) := ⟨35, ⟨1, s_iconst dX6_link_34 rfl, rfl⟩, t_go dX6_link_35 (by decide)⟩
theorem ok_225_10 : BkOK mi i_225 (bpf P_225) 10 (B_225.getD 10 bk0) := ⟨39, ⟨1, s_iconst dX6_link_38 rfl, rfl⟩, t_fall rfl⟩
theorem ok_225_11 : BkOK mi i_225 (bpf P_225) 11 (B_225.getD 11 bk0) := ⟨46, ⟨3, s_put (C := RX6) (T := TX6) (N := 30) tyX6 tyX6_ok nmX6 dX6_link_39 rfl (by decide) rfl (tyX6_ok 7 (by decide)) wt_1164 uw_X6, ⟨1, s_aload_n dX6_link_42 rfl, ⟨3, s_get (C := RX6) (T := TX6) (N := 30) dX6_link_43 rfl (by decide) wt_1164 uw_X6, rfl⟩⟩⟩, t_le0 dX6_link_46 (by decide) rfl⟩
theorem ok_225_12 : BkOK mi i_225 (bpf P_225) 12 (B_225.getD 12 bk0) := ⟨50, ⟨1, s_iconst dX6_link_49 rfl, rfl⟩, t_go dX6_link_50 (by decide)⟩
theorem ok_225_13 : BkOK mi i_225 (bpf P_225) 13 (B_225.getD 13 bk0) := ⟨59, ⟨1, s_aload_n dX6_link_53 rfl, ⟨1, s_iload_n dX6_link_54 rfl, ⟨1, s_iload_n dX6_link_55 rfl, ⟨1, s_iload_n dX6_link_56 rfl, ⟨2, s_iload dX6_link_57, rfl⟩⟩⟩⟩⟩, t_cv rfl mi_195 mok_195 rfl (fun _ => ⟨rfl, by decide +kernel⟩) (fun hs' e => by cases e; intro E n b h; cases h) (fun q fs As rest h hp hA hr => (call_V (i := i_225) (j := i_195) (C := RX6) (T := TX6) (N := 30) dX6_link_59 mok_195 rfl ⟨by decide, by decide⟩ np_195 rfl rfl wt_1481 wt_1483 ws_49 hp hA hr rfl).thr (fun _ => True.intro))⟩
theorem ok_225_14 : BkOK mi i_225 (bpf P_225) 14 (B_225.getD 14 bk0) := ⟨62, rfl, t_ret dX6_link_62 rfl⟩
theorem ok_225 : ∀ b, BkOK mi i_225 (bpf P_225) b (B_225.getD b bk0)
  | 0 => ok_225_0
  | 1 => ok_225_1
  | 2 => ok_225_2
  | 3 => ok_225_3
  | 4 => ok_225_4
  | 5 => ok_225_5
  | 6 => ok_225_6
  | 7 => ok_225_7
  | 8 => ok_225_8
  | 9 => ok_225_9
  | 10 => ok_225_10
  | 11 => ok_225_11
  | 12 => ok_225_12
  | 13 => ok_225_13
  | 14 => ok_225_14
  | b + 15 => bk_none mi i_225 (bpf P_225) (b + 15)
theorem ok_226_0 : BkOK mi i_226 (bpf P_226) 0 (B_226.getD 0 bk0) := ⟨6, ⟨1, s_aload_n dX6_best_0 rfl, ⟨1, s_iconst dX6_best_1 rfl, ⟨3, s_put (C := RX6) (T := TX6) (N := 30) tyX6 tyX6_ok nmX6 dX6_best_2 rfl (by decide) rfl (tyX6_ok 7 (by decide)) wt_1164 uw_X6, ⟨1, s_aload_n dX6_best_5 rfl, rfl⟩⟩⟩⟩, t_cv rfl mi_212 mok_212 rfl (fun _ => ⟨rfl, by decide +kernel⟩) (fun hs' e => by cases e; intro E n b h; cases h) (fun q fs As rest h hp hA hr => (call_V (i := i_226) (j := i_212) (C := RX6) (T := TX6) (N := 30) dX6_best_6 mok_212 rfl ⟨by decide, by decide⟩ np_212 rfl rfl wt_1489 wt_1491 ws_50 hp hA hr rfl).thr (fun _ => True.intro))⟩
theorem ok_226_1 : BkOK mi i_226 (bpf P_226) 1 (B_226.getD 1 bk0) := ⟨9, rfl, t_cs rfl mi_213 mok_213 rfl (fun As rest h hA hr => call_S dX6_best_9 mok_213 rfl ⟨by decide, by decide⟩ np_213 wt_1524 wt_1525 hA hr)⟩
theorem ok_226_2 : BkOK mi i_226 (bpf P_226) 2 (B_226.getD 2 bk0) := ⟨12, rfl, t_ret dX6_best_12 rfl⟩
theorem ok_226 : ∀ b, BkOK mi i_226 (bpf P_226) b (B_226.getD b bk0)
  | 0 => ok_226_0
  | 1 => ok_226_1
  | 2 => ok_226_2
  | b + 3 => bk_none mi i_226 (bpf P_226) (b + 3)
theorem ok_227_0 : BkOK mi i_227 (bpf P_227) 0 (B_227.getD 0 bk0) := ⟨4, ⟨1, s_aload_n dX6_finger_0 rfl, ⟨1, s_aload_n dX6_finger_1 rfl, ⟨1, s_iload_n dX6_finger_2 rfl, ⟨1, s_iload_n dX6_finger_3 rfl, rfl⟩⟩⟩⟩, t_cv rfl mi_189 mok_189 rfl (fun _ => ⟨rfl, by decide +kernel⟩) (fun hs' e => by cases e; intro E n b h; cases h) (fun q fs As rest h hp hA hr => (call_V (i := i_227) (j := i_189) (C := RX6) (T := TX6) (N := 30) dX6_finger_4 mok_189 rfl ⟨by decide, by decide⟩ np_189 rfl rfl wt_1459 wt_1461 ws_48 hp hA hr rfl).thr (fun _ => True.intro))⟩
theorem ok_227_1 : BkOK mi i_227 (bpf P_227) 1 (B_227.getD 1 bk0) := ⟨7, rfl, t_ne0 dX6_finger_7 (by decide) rfl⟩
theorem ok_227_2 : BkOK mi i_227 (bpf P_227) 2 (B_227.getD 2 bk0) := ⟨11, ⟨1, s_iconst dX6_finger_10 rfl, rfl⟩, t_go dX6_finger_11 (by decide)⟩
theorem ok_227_3 : BkOK mi i_227 (bpf P_227) 3 (B_227.getD 3 bk0) := ⟨15, ⟨1, s_aload_n dX6_finger_14 rfl, rfl⟩, t_cv rfl mi_214 mok_214 rfl (fun _ => ⟨rfl, by decide +kernel⟩) (fun hs' e => by cases e; intro E n b h; cases h) (fun q fs As rest h hp hA hr => (call_V (i := i_227) (j := i_214) (C := RX6) (T := TX6) (N := 30) dX6_finger_15 mok_214 rfl ⟨by decide, by decide⟩ np_214 rfl rfl wt_1531 wt_1533 ws_58 hp hA hr rfl).thr (fun _ => True.intro))⟩
theorem ok_227_4 : BkOK mi i_227 (bpf P_227) 4 (B_227.getD 4 bk0) := ⟨18, rfl, t_eq0 dX6_finger_18 (by decide) rfl⟩
theorem ok_227_5 : BkOK mi i_227 (bpf P_227) 5 (B_227.getD 5 bk0) := ⟨22, ⟨1, s_iconst dX6_finger_21 rfl, rfl⟩, t_go dX6_finger_22 (by decide)⟩
theorem ok_227_6 : BkOK mi i_227 (bpf P_227) 6 (B_227.getD 6 bk0) := ⟨26, ⟨1, s_iconst dX6_finger_25 rfl, rfl⟩, t_fall rfl⟩
theorem ok_227_7 : BkOK mi i_227 (bpf P_227) 7 (B_227.getD 7 bk0) := ⟨33, ⟨3, s_put (C := RX6) (T := TX6) (N := 30) tyX6 tyX6_ok nmX6 dX6_finger_26 rfl (by decide) rfl (tyX6_ok 7 (by decide)) wt_1164 uw_X6, ⟨1, s_aload_n dX6_finger_29 rfl, ⟨3, s_get (C := RX6) (T := TX6) (N := 30) dX6_finger_30 rfl (by decide) wt_1164 uw_X6, rfl⟩⟩⟩, t_le0 dX6_finger_33 (by decide) rfl⟩
theorem ok_227_8 : BkOK mi i_227 (bpf P_227) 8 (B_227.getD 8 bk0) := ⟨37, ⟨1, s_iconst dX6_finger_36 rfl, rfl⟩, t_go dX6_finger_37 (by decide)⟩
theorem ok_227_9 : BkOK mi i_227 (bpf P_227) 9 (B_227.getD 9 bk0) := ⟨52, ⟨1, s_aload_n dX6_finger_40 rfl, ⟨3, s_get (C := RX6) (T := TX6) (N := 30) dX6_finger_41 rfl (by decide) wt_1175 uw_X6, ⟨1, s_aload_n dX6_finger_44 rfl, ⟨3, s_get (C := RX6) (T := TX6) (N := 30) dX6_finger_45 rfl (by decide) wt_1178 uw_X6, ⟨1, s_iload_n dX6_finger_48 rfl, ⟨1, s_iald dX6_finger_49, ⟨1, s_iald dX6_finger_50, ⟨1, s_iload_n dX6_finger_51 rfl, rfl⟩⟩⟩⟩⟩⟩⟩⟩, t_cs rfl mi_199 mok_199 rfl (fun As rest h hA hr => call_S dX6_finger_52 mok_199 rfl ⟨by decide, by decide⟩ np_199 wt_1432 wt_1433 hA hr)⟩
theorem ok_227_10 : BkOK mi i_227 (bpf P_227) 10 (B_227.getD 10 bk0) := ⟨55, rfl, t_ret dX6_finger_55 rfl⟩
theorem ok_227 : ∀ b, BkOK mi i_227 (bpf P_227) b (B_227.getD b bk0)
  | 0 => ok_227_0
  | 1 => ok_227_1
  | 2 => ok_227_2
  | 3 => ok_227_3
  | 4 => ok_227_4
  | 5 => ok_227_5
  | 6 => ok_227_6
  | 7 => ok_227_7
  | 8 => ok_227_8
  | 9 => ok_227_9
  | 10 => ok_227_10
  | b + 11 => bk_none mi i_227 (bpf P_227) (b + 11)
theorem ok_228_0 : BkOK mi i_228 (bpf P_228) 0 (B_228.getD 0 bk0) := ⟨3, ⟨1, s_aload_n dX6_part_0 rfl, ⟨1, s_aload_n dX6_part_1 rfl, ⟨1, s_iload_n dX6_part_2 rfl, rfl⟩⟩⟩, t_cv rfl mi_188 mok_188 rfl (fun _ => ⟨rfl, by decide +kernel⟩) (fun hs' e => by cases e; intro E n b h; cases h) (fun q fs As rest h hp hA hr => (call_V (i := i_228) (j := i_188) (C := RX6) (T := TX6) (N := 30) dX6_part_3 mok_188 rfl ⟨by decide, by decide⟩ np_188 rfl rfl wt_1420 wt_1422 ws_40 hp hA hr rfl).thr (fun _ => True.intro))⟩
theorem ok_228_1 : BkOK mi i_228 (bpf P_228) 1 (B_228.getD 1 bk0) := ⟨6, rfl, t_ne0 dX6_part_6 (by decide) rfl⟩
theorem ok_228_2 : BkOK mi i_228 (bpf P_228) 2 (B_228.getD 2 bk0) := ⟨10, ⟨1, s_iconst dX6_part_9 rfl, rfl⟩, t_go dX6_part_10 (by decide)⟩
theorem ok_228_3 : BkOK mi i_228 (bpf P_228) 3 (B_228.getD 3 bk0) := ⟨16, ⟨1, s_iload_n dX6_part_13 rfl, ⟨1, s_iconst dX6_part_14 rfl, ⟨1, s_iconst dX6_part_15 rfl, rfl⟩⟩⟩, t_cs rfl mi_157 mok_157 rfl (fun As rest h hA hr => call_S dX6_part_16 mok_157 rfl ⟨by decide, by decide⟩ np_157 wt_1264 wt_1265 hA hr)⟩
theorem ok_228_4 : BkOK mi i_228 (bpf P_228) 4 (B_228.getD 4 bk0) := ⟨19, rfl, t_ne0 dX6_part_19 (by decide) rfl⟩
theorem ok_228_5 : BkOK mi i_228 (bpf P_228) 5 (B_228.getD 5 bk0) := ⟨23, ⟨1, s_iconst dX6_part_22 rfl, rfl⟩, t_go dX6_part_23 (by decide)⟩
theorem ok_228_6 : BkOK mi i_228 (bpf P_228) 6 (B_228.getD 6 bk0) := ⟨27, ⟨1, s_aload_n dX6_part_26 rfl, rfl⟩, t_cv rfl mi_214 mok_214 rfl (fun _ => ⟨rfl, by decide +kernel⟩) (fun hs' e => by cases e; intro E n b h; cases h) (fun q fs As rest h hp hA hr => (call_V (i := i_228) (j := i_214) (C := RX6) (T := TX6) (N := 30) dX6_part_27 mok_214 rfl ⟨by decide, by decide⟩ np_214 rfl rfl wt_1531 wt_1533 ws_58 hp hA hr rfl).thr (fun _ => True.intro))⟩
theorem ok_228_7 : BkOK mi i_228 (bpf P_228) 7 (B_228.getD 7 bk0) := ⟨30, rfl, t_eq0 dX6_part_30 (by decide) rfl⟩
theorem ok_228_8 : BkOK mi i_228 (bpf P_228) 8 (B_228.getD 8 bk0) := ⟨34, ⟨1, s_iconst dX6_part_33 rfl, rfl⟩, t_go dX6_part_34 (by decide)⟩
theorem ok_228_9 : BkOK mi i_228 (bpf P_228) 9 (B_228.getD 9 bk0) := ⟨38, ⟨1, s_iconst dX6_part_37 rfl, rfl⟩, t_fall rfl⟩
theorem ok_228_10 : BkOK mi i_228 (bpf P_228) 10 (B_228.getD 10 bk0) := ⟨45, ⟨3, s_put (C := RX6) (T := TX6) (N := 30) tyX6 tyX6_ok nmX6 dX6_part_38 rfl (by decide) rfl (tyX6_ok 7 (by decide)) wt_1164 uw_X6, ⟨1, s_aload_n dX6_part_41 rfl, ⟨3, s_get (C := RX6) (T := TX6) (N := 30) dX6_part_42 rfl (by decide) wt_1164 uw_X6, rfl⟩⟩⟩, t_le0 dX6_part_45 (by decide) rfl⟩
theorem ok_228_11 : BkOK mi i_228 (bpf P_228) 11 (B_228.getD 11 bk0) := ⟨49, ⟨1, s_iconst dX6_part_48 rfl, rfl⟩, t_ret dX6_part_49 rfl⟩
theorem ok_228_12 : BkOK mi i_228 (bpf P_228) 12 (B_228.getD 12 bk0) := ⟨51, ⟨1, s_iload_n dX6_part_50 rfl, rfl⟩, t_ne0 dX6_part_51 (by decide) rfl⟩
theorem ok_228_13 : BkOK mi i_228 (bpf P_228) 13 (B_228.getD 13 bk0) := ⟨65, ⟨1, s_aload_n dX6_part_54 rfl, ⟨3, s_get (C := RX6) (T := TX6) (N := 30) dX6_part_55 rfl (by decide) wt_1176 uw_X6, ⟨1, s_aload_n dX6_part_58 rfl, ⟨3, s_get (C := RX6) (T := TX6) (N := 30) dX6_part_59 rfl (by decide) wt_1178 uw_X6, ⟨1, s_iload_n dX6_part_62 rfl, ⟨1, s_iald dX6_part_63, ⟨1, s_iald dX6_part_64, rfl⟩⟩⟩⟩⟩⟩⟩, t_ret dX6_part_65 rfl⟩
theorem ok_228_14 : BkOK mi i_228 (bpf P_228) 14 (B_228.getD 14 bk0) := ⟨67, ⟨1, s_iload_n dX6_part_66 rfl, rfl⟩, t_ne0 dX6_part_67 (by decide) rfl⟩
theorem ok_228_15 : BkOK mi i_228 (bpf P_228) 15 (B_228.getD 15 bk0) := ⟨71, ⟨1, s_iconst dX6_part_70 rfl, rfl⟩, t_ret dX6_part_71 rfl⟩
theorem ok_228_16 : BkOK mi i_228 (bpf P_228) 16 (B_228.getD 16 bk0) := ⟨101, ⟨1, s_aload_n dX6_part_72 rfl, ⟨3, s_get (C := RX6) (T := TX6) (N := 30) dX6_part_73 rfl (by decide) wt_1175 uw_X6, ⟨1, s_aload_n dX6_part_76 rfl, ⟨3, s_get (C := RX6) (T := TX6) (N := 30) dX6_part_77 rfl (by decide) wt_1178 uw_X6, ⟨1, s_iload_n dX6_part_80 rfl, ⟨1, s_iconst dX6_part_81 rfl, ⟨1, s_isub dX6_part_82, ⟨1, s_iald dX6_part_83, ⟨1, s_iald dX6_part_84, ⟨1, s_istore_n dX6_part_85 rfl (by decide), ⟨1, s_aload_n dX6_part_86 rfl, ⟨3, s_get (C := RX6) (T := TX6) (N := 30) dX6_part_87 rfl (by decide) wt_1175 uw_X6, ⟨1, s_aload_n dX6_part_90 rfl, ⟨3, s_get (C := RX6) (T := TX6) (N := 30) dX6_part_91 rfl (by decide) wt_1178 uw_X6, ⟨1, s_iload_n dX6_part_94 rfl, ⟨1, s_iald dX6_part_95, ⟨1, s_iald dX6_part_96, ⟨2, s_istore dX6_part_97 (by decide), ⟨1, s_iload_n dX6_part_99 rfl, ⟨1, s_iconst dX6_part_100 rfl, rfl⟩⟩⟩⟩⟩⟩⟩⟩⟩⟩⟩⟩⟩⟩⟩⟩⟩⟩⟩⟩, t_nei dX6_part_101 (by decide) rfl⟩
theorem ok_228_17 : BkOK mi i_228 (bpf P_228) 17 (B_228.getD 17 bk0) := ⟨111, ⟨1, s_aload_n dX6_part_104 rfl, ⟨1, s_iload_n dX6_part_105 rfl, ⟨1, s_iconst dX6_part_106 rfl, ⟨1, s_isub dX6_part_107, ⟨1, s_iload_n dX6_part_108 rfl, ⟨2, s_iload dX6_part_109, rfl⟩⟩⟩⟩⟩⟩, t_cv rfl mi_205 mok_205 rfl (fun _ => ⟨rfl, by decide +kernel⟩) (fun hs' e => by cases e; intro E n b h; cases h) (fun q fs As rest h hp hA hr => (call_V (i := i_228) (j := i_205) (C := RX6) (T := TX6) (N := 30) dX6_part_111 mok_205 rfl ⟨by decide, by decide⟩ np_205 rfl rfl wt_1502 wt_1504 ws_53 hp hA hr rfl).thr (fun _ => True.intro))⟩
theorem ok_228_18 : BkOK mi i_228 (bpf P_228) 18 (B_228.getD 18 bk0) := ⟨114, rfl, t_go dX6_part_114 (by decide)⟩
theorem ok_228_19 : BkOK mi i_228 (bpf P_228) 19 (B_228.getD 19 bk0) := ⟨124, ⟨1, s_aload_n dX6_part_117 rfl, ⟨1, s_iload_n dX6_part_118 rfl, ⟨1, s_iconst dX6_part_119 rfl, ⟨1, s_isub dX6_part_120, ⟨1, s_iload_n dX6_part_121 rfl, ⟨2, s_iload dX6_part_122, rfl⟩⟩⟩⟩⟩⟩, t_cv rfl mi_207 mok_207 rfl (fun _ => ⟨rfl, by decide +kernel⟩) (fun hs' e => by cases e; intro E n b h; cases h) (fun q fs As rest h hp hA hr => (call_V (i := i_228) (j := i_207) (C := RX6) (T := TX6) (N := 30) dX6_part_124 mok_207 rfl ⟨by decide, by decide⟩ np_207 rfl rfl wt_1543 wt_1545 ws_60 hp hA hr rfl).thr (fun _ => True.intro))⟩
theorem ok_228_20 : BkOK mi i_228 (bpf P_228) 20 (B_228.getD 20 bk0) := ⟨127, rfl, t_ret dX6_part_127 rfl⟩
theorem ok_228 : ∀ b, BkOK mi i_228 (bpf P_228) b (B_228.getD b bk0)
  | 0 => ok_228_0
  | 1 => ok_228_1
  | 2 => ok_228_2
  | 3 => ok_228_3
  | 4 => ok_228_4
  | 5 => ok_228_5
  | 6 => ok_228_6
  | 7 => ok_228_7
  | 8 => ok_228_8
  | 9 => ok_228_9
  | 10 => ok_228_10
  | 11 => ok_228_11
  | 12 => ok_228_12
  | 13 => ok_228_13
  | 14 => ok_228_14
  | 15 => ok_228_15
  | 16 => ok_228_16
  | 17 => ok_228_17
  | 18 => ok_228_18
  | 19 => ok_228_19
  | 20 => ok_228_20
  | b + 21 => bk_none mi i_228 (bpf P_228) (b + 21)
theorem ok_229_0 : BkOK mi i_229 (bpf P_229) 0 (B_229.getD 0 bk0) := ⟨6, ⟨1, s_aload_n dX6_many_0 rfl, ⟨1, s_iconst dX6_many_1 rfl, ⟨3, s_put (C := RX6) (T := TX6) (N := 30) tyX6 tyX6_ok nmX6 dX6_many_2 rfl (by decide) rfl (tyX6_ok 7 (by decide)) wt_1164 uw_X6, ⟨1, s_aload_n dX6_many_5 rfl, rfl⟩⟩⟩⟩, t_cv rfl mi_212 mok_212 rfl (fun _ => ⟨rfl, by decide +kernel⟩) (fun hs' e => by cases e; intro E n b h; cases h) (fun q fs As rest h hp hA hr => (call_V (i := i_229) (j := i_212) (C := RX6) (T := TX6) (N := 30) dX6_many_6 mok_212 rfl ⟨by decide, by decide⟩ np_212 rfl rfl wt_1489 wt_1491 ws_50 hp hA hr rfl).thr (fun _ => True.intro))⟩
theorem ok_229_1 : BkOK mi i_229 (bpf P_229) 1 (B_229.getD 1 bk0) := ⟨11, ⟨1, s_istore_n dX6_many_9 rfl (by decide), ⟨1, s_aload_n dX6_many_10 rfl, rfl⟩⟩, t_cv rfl mi_182 mok_182 rfl (fun _ => ⟨rfl, by decide +kernel⟩) (fun hs' e => by cases e; intro E n b h; cases h) (fun q fs As rest h hp hA hr => (call_V (i := i_229) (j := i_182) (C := RX6) (T := TX6) (N := 30) dX6_many_11 mok_182 rfl ⟨by decide, by decide⟩ np_182 rfl rfl wt_1275 wt_1277 ws_16 hp hA hr rfl).thr (fun _ => True.intro))⟩
theorem ok_229_2 : BkOK mi i_229 (bpf P_229) 2 (B_229.getD 2 bk0) := ⟨14, rfl, t_ne0 dX6_many_14 (by decide) rfl⟩
theorem ok_229_3 : BkOK mi i_229 (bpf P_229) 3 (B_229.getD 3 bk0) := ⟨18, ⟨1, s_lconst dX6_many_17 rfl, rfl⟩, t_retL dX6_many_18 rfl⟩
theorem ok_229_4 : BkOK mi i_229 (bpf P_229) 4 (B_229.getD 4 bk0) := ⟨24, ⟨1, s_lconst dX6_many_19 rfl, ⟨1, s_lstore_n dX6_many_20 rfl (by decide), ⟨1, s_iconst dX6_many_21 rfl, ⟨2, s_istore dX6_many_22 (by decide), rfl⟩⟩⟩⟩, t_fall rfl⟩
theorem ok_229_5 : BkOK mi i_229 (bpf P_229) 5 (B_229.getD 5 bk0) := ⟨32, ⟨2, s_iload dX6_many_24, ⟨1, s_aload_n dX6_many_26 rfl, ⟨3, s_get (C := RX6) (T := TX6) (N := 30) dX6_many_27 rfl (by decide) wt_1177 uw_X6, ⟨1, s_iconst dX6_many_30 rfl, ⟨1, s_iald dX6_many_31, rfl⟩⟩⟩⟩⟩, t_ge dX6_many_32 (by decide) rfl⟩
theorem ok_229_6 : BkOK mi i_229 (bpf P_229) 6 (B_229.getD 6 bk0) := ⟨40, ⟨3, s_ldc2 dX6_many_35 wt_1518, ⟨1, s_lload_n dX6_many_38 rfl, ⟨1, s_iload_n dX6_many_39 rfl, rfl⟩⟩⟩, t_ne0 dX6_many_40 (by decide) rfl⟩
theorem ok_229_7 : BkOK mi i_229 (bpf P_229) 7 (B_229.getD 7 bk0) := ⟨50, ⟨1, s_aload_n dX6_many_43 rfl, ⟨3, s_get (C := RX6) (T := TX6) (N := 30) dX6_many_44 rfl (by decide) wt_1181 uw_X6, ⟨2, s_iload dX6_many_47, ⟨1, s_laload dX6_many_49, rfl⟩⟩⟩⟩, t_go dX6_many_50 (by decide)⟩
theorem ok_229_8 : BkOK mi i_229 (bpf P_229) 8 (B_229.getD 8 bk0) := ⟨61, ⟨1, s_aload_n dX6_many_53 rfl, ⟨3, s_get (C := RX6) (T := TX6) (N := 30) dX6_many_54 rfl (by decide) wt_1179 uw_X6, ⟨2, s_iload dX6_many_57, ⟨1, s_iald dX6_many_59, ⟨1, s_iload_n dX6_many_60 rfl, rfl⟩⟩⟩⟩⟩, t_nei dX6_many_61 (by decide) rfl⟩
theorem ok_229_9 : BkOK mi i_229 (bpf P_229) 9 (B_229.getD 9 bk0) := ⟨68, ⟨1, s_iload_n dX6_many_64 rfl, ⟨3, s_ldcw dX6_many_65 wt_1501, rfl⟩⟩, t_ge dX6_many_68 (by decide) rfl⟩
theorem ok_229_10 : BkOK mi i_229 (bpf P_229) 10 (B_229.getD 10 bk0) := ⟨78, ⟨1, s_aload_n dX6_many_71 rfl, ⟨3, s_get (C := RX6) (T := TX6) (N := 30) dX6_many_72 rfl (by decide) wt_1182 uw_X6, ⟨2, s_iload dX6_many_75, ⟨1, s_laload dX6_many_77, rfl⟩⟩⟩⟩, t_go dX6_many_78 (by decide)⟩
theorem ok_229_11 : BkOK mi i_229 (bpf P_229) 11 (B_229.getD 11 bk0) := ⟨82, ⟨1, s_lconst dX6_many_81 rfl, rfl⟩, t_fall rfl⟩
theorem ok_229_12 : BkOK mi i_229 (bpf P_229) 12 (B_229.getD 12 bk0) := ⟨90, ⟨1, s_ladd dX6_many_82, ⟨3, s_lmin dX6_many_83 wt_1519x wt_625 wt_4 wt_626 ⟨by decide, by decide⟩, ⟨1, s_lstore_n dX6_many_86 rfl (by decide), ⟨3, s_iinc dX6_many_87 rfl (by decide), rfl⟩⟩⟩⟩, t_go dX6_many_90 (by decide)⟩
theorem ok_229_13 : BkOK mi i_229 (bpf P_229) 13 (B_229.getD 13 bk0) := ⟨94, ⟨1, s_lload_n dX6_many_93 rfl, rfl⟩, t_retL dX6_many_94 rfl⟩
theorem ok_229 : ∀ b, BkOK mi i_229 (bpf P_229) b (B_229.getD b bk0)
  | 0 => ok_229_0
  | 1 => ok_229_1
  | 2 => ok_229_2
  | 3 => ok_229_3
  | 4 => ok_229_4
  | 5 => ok_229_5
  | 6 => ok_229_6
  | 7 => ok_229_7
  | 8 => ok_229_8
  | 9 => ok_229_9
  | 10 => ok_229_10
  | 11 => ok_229_11
  | 12 => ok_229_12
  | 13 => ok_229_13
  | b + 14 => bk_none mi i_229 (bpf P_229) (b + 14)
theorem ok_230_0 : BkOK mi i_230 (bpf P_230) 0 (B_230.getD 0 bk0) := ⟨4, ⟨1, s_aload_n dX6_costWith_0 rfl, ⟨1, s_aload_n dX6_costWith_1 rfl, ⟨1, s_iload_n dX6_costWith_2 rfl, ⟨1, s_iload_n dX6_costWith_3 rfl, rfl⟩⟩⟩⟩, t_cv rfl mi_189 mok_189 rfl (fun _ => ⟨rfl, by decide +kernel⟩) (fun hs' e => by cases e; intro E n b h; cases h) (fun q fs As rest h hp hA hr => (call_V (i := i_230) (j := i_189) (C := RX6) (T := TX6) (N := 30) dX6_costWith_4 mok_189 rfl ⟨by decide, by decide⟩ np_189 rfl rfl wt_1459 wt_1461 ws_48 hp hA hr rfl).thr (fun _ => True.intro))⟩
theorem ok_230_1 : BkOK mi i_230 (bpf P_230) 1 (B_230.getD 1 bk0) := ⟨7, rfl, t_eq0 dX6_costWith_7 (by decide) rfl⟩
theorem ok_230_2 : BkOK mi i_230 (bpf P_230) 2 (B_230.getD 2 bk0) := ⟨11, ⟨1, s_iload_n dX6_costWith_10 rfl, rfl⟩, t_cs rfl mi_190 mok_190 rfl (fun As rest h hA hr => call_S dX6_costWith_11 mok_190 rfl ⟨by decide, by decide⟩ np_190 wt_1471 wt_1472 hA hr)⟩
theorem ok_230_3 : BkOK mi i_230 (bpf P_230) 3 (B_230.getD 3 bk0) := ⟨14, rfl, t_eq0 dX6_costWith_14 (by decide) rfl⟩
theorem ok_230_4 : BkOK mi i_230 (bpf P_230) 4 (B_230.getD 4 bk0) := ⟨18, ⟨1, s_iconst dX6_costWith_17 rfl, rfl⟩, t_go dX6_costWith_18 (by decide)⟩
theorem ok_230_5 : BkOK mi i_230 (bpf P_230) 5 (B_230.getD 5 bk0) := ⟨22, ⟨1, s_iconst dX6_costWith_21 rfl, rfl⟩, t_fall rfl⟩
theorem ok_230_6 : BkOK mi i_230 (bpf P_230) 6 (B_230.getD 6 bk0) := ⟨29, ⟨3, s_put (C := RX6) (T := TX6) (N := 30) tyX6 tyX6_ok nmX6 dX6_costWith_22 rfl (by decide) rfl (tyX6_ok 7 (by decide)) wt_1164 uw_X6, ⟨1, s_aload_n dX6_costWith_25 rfl, ⟨3, s_get (C := RX6) (T := TX6) (N := 30) dX6_costWith_26 rfl (by decide) wt_1164 uw_X6, rfl⟩⟩⟩, t_le0 dX6_costWith_29 (by decide) rfl⟩
theorem ok_230_7 : BkOK mi i_230 (bpf P_230) 7 (B_230.getD 7 bk0) := ⟨33, ⟨1, s_iconst dX6_costWith_32 rfl, rfl⟩, t_ret dX6_costWith_33 rfl⟩
theorem ok_230_8 : BkOK mi i_230 (bpf P_230) 8 (B_230.getD 8 bk0) := ⟨35, ⟨1, s_aload_n dX6_costWith_34 rfl, rfl⟩, t_cv rfl mi_208 mok_208 rfl (fun _ => ⟨rfl, by decide +kernel⟩) (fun hs' e => by cases e; intro E n b h; cases h) (fun q fs As rest h hp hA hr => (call_V (i := i_230) (j := i_208) (C := RX6) (T := TX6) (N := 30) dX6_costWith_35 mok_208 rfl ⟨by decide, by decide⟩ np_208 rfl rfl wt_1493 wt_1495 ws_51 hp hA hr rfl).thr (fun _ => True.intro))⟩
theorem ok_230_9 : BkOK mi i_230 (bpf P_230) 9 (B_230.getD 9 bk0) := ⟨39, ⟨1, s_aload_n dX6_costWith_38 rfl, rfl⟩, t_cv rfl mi_210 mok_210 rfl (fun _ => ⟨rfl, by decide +kernel⟩) (fun hs' e => by cases e; intro E n b h; cases h) (fun q fs As rest h hp hA hr => (call_V (i := i_230) (j := i_210) (C := RX6) (T := TX6) (N := 30) dX6_costWith_39 mok_210 rfl ⟨by decide, by decide⟩ np_210 rfl rfl wt_1559 wt_1561 ws_62 hp hA hr rfl).thr (fun _ => True.intro))⟩
theorem ok_230_10 : BkOK mi i_230 (bpf P_230) 10 (B_230.getD 10 bk0) := ⟨53, ⟨3, s_ldcw dX6_costWith_42 wt_1501, ⟨2, s_istore dX6_costWith_45 (by decide), ⟨2, s_bipush dX6_costWith_47 rfl, ⟨1, s_iload_n dX6_costWith_49 rfl, ⟨1, s_imul dX6_costWith_50, ⟨2, s_istore dX6_costWith_51 (by decide), rfl⟩⟩⟩⟩⟩⟩, t_fall rfl⟩
theorem ok_230_11 : BkOK mi i_230 (bpf P_230) 11 (B_230.getD 11 bk0) := ⟨66, ⟨2, s_iload dX6_costWith_53, ⟨2, s_bipush dX6_costWith_55 rfl, ⟨1, s_iload_n dX6_costWith_57 rfl, ⟨1, s_imul dX6_costWith_58, ⟨1, s_aload_n dX6_costWith_59 rfl, ⟨3, s_get (C := RX6) (T := TX6) (N := 30) dX6_costWith_60 rfl (by decide) wt_1177 uw_X6, ⟨1, s_iload_n dX6_costWith_63 rfl, ⟨1, s_iald dX6_costWith_64, ⟨1, s_iadd dX6_costWith_65, rfl⟩⟩⟩⟩⟩⟩⟩⟩⟩, t_ge dX6_costWith_66 (by decide) rfl⟩
theorem ok_230_12 : BkOK mi i_230 (bpf P_230) 12 (B_230.getD 12 bk0) := ⟨77, ⟨1, s_aload_n dX6_costWith_69 rfl, ⟨3, s_get (C := RX6) (T := TX6) (N := 30) dX6_costWith_70 rfl (by decide) wt_1175 uw_X6, ⟨2, s_iload dX6_costWith_73, ⟨1, s_iald dX6_costWith_75, ⟨1, s_iload_n dX6_costWith_76 rfl, rfl⟩⟩⟩⟩⟩, t_cs rfl mi_199 mok_199 rfl (fun As rest h hA hr => call_S dX6_costWith_77 mok_199 rfl ⟨by decide, by decide⟩ np_199 wt_1432 wt_1433 hA hr)⟩
theorem ok_230_13 : BkOK mi i_230 (bpf P_230) 13 (B_230.getD 13 bk0) := ⟨81, ⟨1, s_iload_n dX6_costWith_80 rfl, rfl⟩, t_nei dX6_costWith_81 (by decide) rfl⟩
theorem ok_230_14 : BkOK mi i_230 (bpf P_230) 14 (B_230.getD 14 bk0) := ⟨94, ⟨1, s_aload_n dX6_costWith_84 rfl, ⟨3, s_get (C := RX6) (T := TX6) (N := 30) dX6_costWith_85 rfl (by decide) wt_1179 uw_X6, ⟨2, s_iload dX6_costWith_88, ⟨1, s_iald dX6_costWith_90, ⟨3, s_ldcw dX6_costWith_91 wt_1501, rfl⟩⟩⟩⟩⟩, t_ge dX6_costWith_94 (by decide) rfl⟩
theorem ok_230_15 : BkOK mi i_230 (bpf P_230) 15 (B_230.getD 15 bk0) := ⟨107, ⟨1, s_aload_n dX6_costWith_97 rfl, ⟨3, s_get (C := RX6) (T := TX6) (N := 30) dX6_costWith_98 rfl (by decide) wt_1180 uw_X6, ⟨2, s_iload dX6_costWith_101, ⟨1, s_iald dX6_costWith_103, ⟨3, s_ldcw dX6_costWith_104 wt_1501, rfl⟩⟩⟩⟩⟩, t_ge dX6_costWith_107 (by decide) rfl⟩
theorem ok_230_16 : BkOK mi i_230 (bpf P_230) 16 (B_230.getD 16 bk0) := ⟨115, ⟨2, s_iload dX6_costWith_110, ⟨1, s_aload_n dX6_costWith_112 rfl, ⟨2, s_iload dX6_costWith_113, rfl⟩⟩⟩, t_cv rfl mi_231 mok_231 rfl (fun _ => ⟨rfl, by decide +kernel⟩) (fun hs' e => by cases e; intro E n b h; cases h) (fun q fs As rest h hp hA hr => (call_V (i := i_230) (j := i_231) (C := RX6) (T := TX6) (N := 30) dX6_costWith_115 mok_231 rfl ⟨by decide, by decide⟩ np_231 rfl rfl wt_1563 wt_1565 ws_63 hp hA hr rfl).thr (fun _ => True.intro))⟩
theorem ok_230_17 : BkOK mi i_230 (bpf P_230) 17 (B_230.getD 17 bk0) := ⟨123, ⟨3, s_mmin dX6_costWith_118 wt_1155x wt_293 wt_4 wt_294 ⟨by decide, by decide⟩, ⟨2, s_istore dX6_costWith_121 (by decide), rfl⟩⟩, t_fall rfl⟩
theorem ok_230_18 : BkOK mi i_230 (bpf P_230) 18 (B_230.getD 18 bk0) := ⟨126, ⟨3, s_iinc dX6_costWith_123 rfl (by decide), rfl⟩, t_go dX6_costWith_126 (by decide)⟩
theorem ok_230_19 : BkOK mi i_230 (bpf P_230) 19 (B_230.getD 19 bk0) := ⟨131, ⟨2, s_iload dX6_costWith_129, rfl⟩, t_cs rfl mi_213 mok_213 rfl (fun As rest h hA hr => call_S dX6_costWith_131 mok_213 rfl ⟨by decide, by decide⟩ np_213 wt_1524 wt_1525 hA hr)⟩
theorem ok_230_20 : BkOK mi i_230 (bpf P_230) 20 (B_230.getD 20 bk0) := ⟨134, rfl, t_ret dX6_costWith_134 rfl⟩
theorem ok_230 : ∀ b, BkOK mi i_230 (bpf P_230) b (B_230.getD b bk0)
  | 0 => ok_230_0
  | 1 => ok_230_1
  | 2 => ok_230_2
  | 3 => ok_230_3
  | 4 => ok_230_4
  | 5 => ok_230_5
  | 6 => ok_230_6
  | 7 => ok_230_7
  | 8 => ok_230_8
  | 9 => ok_230_9
  | 10 => ok_230_10
  | 11 => ok_230_11
  | 12 => ok_230_12
  | 13 => ok_230_13
  | 14 => ok_230_14
  | 15 => ok_230_15
  | 16 => ok_230_16
  | 17 => ok_230_17
  | 18 => ok_230_18
  | 19 => ok_230_19
  | 20 => ok_230_20
  | b + 21 => bk_none mi i_230 (bpf P_230) (b + 21)
theorem ok_231_0 : BkOK mi i_231 (bpf P_231) 0 (B_231.getD 0 bk0) := ⟨9, ⟨1, s_aload_n dX6_through_0 rfl, ⟨3, s_get (C := RX6) (T := TX6) (N := 30) dX6_through_1 rfl (by decide) wt_1179 uw_X6, ⟨1, s_iload_n dX6_through_4 rfl, ⟨1, s_iald dX6_through_5, ⟨3, s_ldcw dX6_through_6 wt_1501, rfl⟩⟩⟩⟩⟩, t_ge dX6_through_9 (by decide) rfl⟩
theorem ok_231_1 : BkOK mi i_231 (bpf P_231) 1 (B_231.getD 1 bk0) := ⟨21, ⟨1, s_aload_n dX6_through_12 rfl, ⟨3, s_get (C := RX6) (T := TX6) (N := 30) dX6_through_13 rfl (by decide) wt_1180 uw_X6, ⟨1, s_iload_n dX6_through_16 rfl, ⟨1, s_iald dX6_through_17, ⟨3, s_ldcw dX6_through_18 wt_1501, rfl⟩⟩⟩⟩⟩, t_lt dX6_through_21 (by decide) rfl⟩
theorem ok_231_2 : BkOK mi i_231 (bpf P_231) 2 (B_231.getD 2 bk0) := ⟨27, ⟨3, s_ldcw dX6_through_24 wt_1501, rfl⟩, t_go dX6_through_27 (by decide)⟩
theorem ok_231_3 : BkOK mi i_231 (bpf P_231) 3 (B_231.getD 3 bk0) := ⟨50, ⟨1, s_aload_n dX6_through_30 rfl, ⟨3, s_get (C := RX6) (T := TX6) (N := 30) dX6_through_31 rfl (by decide) wt_1179 uw_X6, ⟨1, s_iload_n dX6_through_34 rfl, ⟨1, s_iald dX6_through_35, ⟨1, s_aload_n dX6_through_36 rfl, ⟨3, s_get (C := RX6) (T := TX6) (N := 30) dX6_through_37 rfl (by decide) wt_1180 uw_X6, ⟨1, s_iload_n dX6_through_40 rfl, ⟨1, s_iald dX6_through_41, ⟨1, s_iadd dX6_through_42, ⟨1, s_aload_n dX6_through_43 rfl, ⟨3, s_get (C := RX6) (T := TX6) (N := 30) dX6_through_44 rfl (by decide) wt_1176 uw_X6, ⟨1, s_iload_n dX6_through_47 rfl, ⟨1, s_iald dX6_through_48, ⟨1, s_isub dX6_through_49, rfl⟩⟩⟩⟩⟩⟩⟩⟩⟩⟩⟩⟩⟩⟩, t_fall rfl⟩
theorem ok_231_4 : BkOK mi i_231 (bpf P_231) 4 (B_231.getD 4 bk0) := ⟨50, rfl, t_ret dX6_through_50 rfl⟩
theorem ok_231 : ∀ b, BkOK mi i_231 (bpf P_231) b (B_231.getD b bk0)
  | 0 => ok_231_0
  | 1 => ok_231_1
  | 2 => ok_231_2
  | 3 => ok_231_3
  | 4 => ok_231_4
  | b + 5 => bk_none mi i_231 (bpf P_231) (b + 5)
theorem ok_232_0 : BkOK mi i_232 (bpf P_232) 0 (B_232.getD 0 bk0) := ⟨6, ⟨1, s_aload_n dX6_reaches_0 rfl, ⟨1, s_iconst dX6_reaches_1 rfl, ⟨3, s_put (C := RX6) (T := TX6) (N := 30) tyX6 tyX6_ok nmX6 dX6_reaches_2 rfl (by decide) rfl (tyX6_ok 7 (by decide)) wt_1164 uw_X6, ⟨1, s_aload_n dX6_reaches_5 rfl, rfl⟩⟩⟩⟩, t_cv rfl mi_201 mok_201 rfl (fun _ => ⟨rfl, by decide +kernel⟩) (fun hs' e => by cases e; intro E n b h; cases h) (fun q fs As rest h hp hA hr => (call_V (i := i_232) (j := i_201) (C := RX6) (T := TX6) (N := 30) dX6_reaches_6 mok_201 rfl ⟨by decide, by decide⟩ np_201 rfl rfl wt_1424 wt_1426 ws_41 hp hA hr rfl).thr (fun _ => True.intro))⟩
theorem ok_232_1 : BkOK mi i_232 (bpf P_232) 1 (B_232.getD 1 bk0) := ⟨10, ⟨1, s_aload_n dX6_reaches_9 rfl, rfl⟩, t_cv rfl mi_210 mok_210 rfl (fun _ => ⟨rfl, by decide +kernel⟩) (fun hs' e => by cases e; intro E n b h; cases h) (fun q fs As rest h hp hA hr => (call_V (i := i_232) (j := i_210) (C := RX6) (T := TX6) (N := 30) dX6_reaches_10 mok_210 rfl ⟨by decide, by decide⟩ np_210 rfl rfl wt_1559 wt_1561 ws_62 hp hA hr rfl).thr (fun _ => True.intro))⟩
theorem ok_232_2 : BkOK mi i_232 (bpf P_232) 2 (B_232.getD 2 bk0) := ⟨17, ⟨1, s_iconst dX6_reaches_13 rfl, ⟨1, s_istore_n dX6_reaches_14 rfl (by decide), ⟨1, s_iconst dX6_reaches_15 rfl, ⟨1, s_istore_n dX6_reaches_16 rfl (by decide), rfl⟩⟩⟩⟩, t_fall rfl⟩
theorem ok_232_3 : BkOK mi i_232 (bpf P_232) 3 (B_232.getD 3 bk0) := ⟨19, ⟨1, s_iload_n dX6_reaches_17 rfl, ⟨1, s_aload_n dX6_reaches_18 rfl, rfl⟩⟩, t_cv rfl mi_182 mok_182 rfl (fun _ => ⟨rfl, by decide +kernel⟩) (fun hs' e => by cases e; intro E n b h; cases h) (fun q fs As rest h hp hA hr => (call_V (i := i_232) (j := i_182) (C := RX6) (T := TX6) (N := 30) dX6_reaches_19 mok_182 rfl ⟨by decide, by decide⟩ np_182 rfl rfl wt_1275 wt_1277 ws_16 hp hA hr rfl).thr (fun _ => True.intro))⟩
theorem ok_232_4 : BkOK mi i_232 (bpf P_232) 4 (B_232.getD 4 bk0) := ⟨22, rfl, t_ge dX6_reaches_22 (by decide) rfl⟩
theorem ok_232_5 : BkOK mi i_232 (bpf P_232) 5 (B_232.getD 5 bk0) := ⟨30, ⟨2, s_bipush dX6_reaches_25 rfl, ⟨1, s_iload_n dX6_reaches_27 rfl, ⟨1, s_imul dX6_reaches_28, ⟨1, s_istore_n dX6_reaches_29 rfl (by decide), rfl⟩⟩⟩⟩, t_fall rfl⟩
theorem ok_232_6 : BkOK mi i_232 (bpf P_232) 6 (B_232.getD 6 bk0) := ⟨42, ⟨1, s_iload_n dX6_reaches_30 rfl, ⟨2, s_bipush dX6_reaches_31 rfl, ⟨1, s_iload_n dX6_reaches_33 rfl, ⟨1, s_imul dX6_reaches_34, ⟨1, s_aload_n dX6_reaches_35 rfl, ⟨3, s_get (C := RX6) (T := TX6) (N := 30) dX6_reaches_36 rfl (by decide) wt_1177 uw_X6, ⟨1, s_iload_n dX6_reaches_39 rfl, ⟨1, s_iald dX6_reaches_40, ⟨1, s_iadd dX6_reaches_41, rfl⟩⟩⟩⟩⟩⟩⟩⟩⟩, t_ge dX6_reaches_42 (by decide) rfl⟩
theorem ok_232_7 : BkOK mi i_232 (bpf P_232) 7 (B_232.getD 7 bk0) := ⟨54, ⟨1, s_aload_n dX6_reaches_45 rfl, ⟨3, s_get (C := RX6) (T := TX6) (N := 30) dX6_reaches_46 rfl (by decide) wt_1180 uw_X6, ⟨1, s_iload_n dX6_reaches_49 rfl, ⟨1, s_iald dX6_reaches_50, ⟨3, s_ldcw dX6_reaches_51 wt_1501, rfl⟩⟩⟩⟩⟩, t_ge dX6_reaches_54 (by decide) rfl⟩
theorem ok_232_8 : BkOK mi i_232 (bpf P_232) 8 (B_232.getD 8 bk0) := ⟨60, ⟨1, s_iload_n dX6_reaches_57 rfl, ⟨1, s_iconst dX6_reaches_58 rfl, ⟨1, s_iadd dX6_reaches_59, rfl⟩⟩⟩, t_go dX6_reaches_60 (by decide)⟩
theorem ok_232_9 : BkOK mi i_232 (bpf P_232) 9 (B_232.getD 9 bk0) := ⟨64, ⟨1, s_iload_n dX6_reaches_63 rfl, rfl⟩, t_fall rfl⟩
theorem ok_232_10 : BkOK mi i_232 (bpf P_232) 10 (B_232.getD 10 bk0) := ⟨68, ⟨1, s_istore_n dX6_reaches_64 rfl (by decide), ⟨3, s_iinc dX6_reaches_65 rfl (by decide), rfl⟩⟩, t_go dX6_reaches_68 (by decide)⟩
theorem ok_232_11 : BkOK mi i_232 (bpf P_232) 11 (B_232.getD 11 bk0) := ⟨74, ⟨3, s_iinc dX6_reaches_71 rfl (by decide), rfl⟩, t_go dX6_reaches_74 (by decide)⟩
theorem ok_232_12 : BkOK mi i_232 (bpf P_232) 12 (B_232.getD 12 bk0) := ⟨78, ⟨1, s_iload_n dX6_reaches_77 rfl, rfl⟩, t_ret dX6_reaches_78 rfl⟩
theorem ok_232 : ∀ b, BkOK mi i_232 (bpf P_232) b (B_232.getD b bk0)
  | 0 => ok_232_0
  | 1 => ok_232_1
  | 2 => ok_232_2
  | 3 => ok_232_3
  | 4 => ok_232_4
  | 5 => ok_232_5
  | 6 => ok_232_6
  | 7 => ok_232_7
  | 8 => ok_232_8
  | 9 => ok_232_9
  | 10 => ok_232_10
  | 11 => ok_232_11
  | 12 => ok_232_12
  | b + 13 => bk_none mi i_232 (bpf P_232) (b + 13)
theorem ok_233_0 : BkOK mi i_233 (bpf P_233) 0 (B_233.getD 0 bk0) := ⟨2, ⟨1, s_aload_n dX6_uses_0 rfl, ⟨1, s_iload_n dX6_uses_1 rfl, rfl⟩⟩, t_cs rfl mi_190 mok_190 rfl (fun As rest h hA hr => call_S dX6_uses_2 mok_190 rfl ⟨by decide, by decide⟩ np_190 wt_1471 wt_1472 hA hr)⟩
theorem ok_233_1 : BkOK mi i_233 (bpf P_233) 1 (B_233.getD 1 bk0) := ⟨5, rfl, t_ne0 dX6_uses_5 (by decide) rfl⟩
theorem ok_233_2 : BkOK mi i_233 (bpf P_233) 2 (B_233.getD 2 bk0) := ⟨9, ⟨1, s_iconst dX6_uses_8 rfl, rfl⟩, t_go dX6_uses_9 (by decide)⟩
theorem ok_233_3 : BkOK mi i_233 (bpf P_233) 3 (B_233.getD 3 bk0) := ⟨13, ⟨1, s_aload_n dX6_uses_12 rfl, rfl⟩, t_cv rfl mi_214 mok_214 rfl (fun _ => ⟨rfl, by decide +kernel⟩) (fun hs' e => by cases e; intro E n b h; cases h) (fun q fs As rest h hp hA hr => (call_V (i := i_233) (j := i_214) (C := RX6) (T := TX6) (N := 30) dX6_uses_13 mok_214 rfl ⟨by decide, by decide⟩ np_214 rfl rfl wt_1531 wt_1533 ws_58 hp hA hr rfl).thr (fun _ => True.intro))⟩
theorem ok_233_4 : BkOK mi i_233 (bpf P_233) 4 (B_233.getD 4 bk0) := ⟨16, rfl, t_eq0 dX6_uses_16 (by decide) rfl⟩
theorem ok_233_5 : BkOK mi i_233 (bpf P_233) 5 (B_233.getD 5 bk0) := ⟨20, ⟨1, s_iconst dX6_uses_19 rfl, rfl⟩, t_go dX6_uses_20 (by decide)⟩
theorem ok_233_6 : BkOK mi i_233 (bpf P_233) 6 (B_233.getD 6 bk0) := ⟨24, ⟨1, s_iconst dX6_uses_23 rfl, rfl⟩, t_fall rfl⟩
theorem ok_233_7 : BkOK mi i_233 (bpf P_233) 7 (B_233.getD 7 bk0) := ⟨31, ⟨3, s_put (C := RX6) (T := TX6) (N := 30) tyX6 tyX6_ok nmX6 dX6_uses_24 rfl (by decide) rfl (tyX6_ok 7 (by decide)) wt_1164 uw_X6, ⟨1, s_aload_n dX6_uses_27 rfl, ⟨3, s_get (C := RX6) (T := TX6) (N := 30) dX6_uses_28 rfl (by decide) wt_1164 uw_X6, rfl⟩⟩⟩, t_le0 dX6_uses_31 (by decide) rfl⟩
theorem ok_233_8 : BkOK mi i_233 (bpf P_233) 8 (B_233.getD 8 bk0) := ⟨35, ⟨1, s_iconst dX6_uses_34 rfl, rfl⟩, t_ret dX6_uses_35 rfl⟩
theorem ok_233_9 : BkOK mi i_233 (bpf P_233) 9 (B_233.getD 9 bk0) := ⟨40, ⟨1, s_iconst dX6_uses_36 rfl, ⟨1, s_istore_n dX6_uses_37 rfl (by decide), ⟨1, s_iconst dX6_uses_38 rfl, ⟨1, s_istore_n dX6_uses_39 rfl (by decide), rfl⟩⟩⟩⟩, t_fall rfl⟩
theorem ok_233_10 : BkOK mi i_233 (bpf P_233) 10 (B_233.getD 10 bk0) := ⟨42, ⟨1, s_iload_n dX6_uses_40 rfl, ⟨1, s_aload_n dX6_uses_41 rfl, rfl⟩⟩, t_cv rfl mi_182 mok_182 rfl (fun _ => ⟨rfl, by decide +kernel⟩) (fun hs' e => by cases e; intro E n b h; cases h) (fun q fs As rest h hp hA hr => (call_V (i := i_233) (j := i_182) (C := RX6) (T := TX6) (N := 30) dX6_uses_42 mok_182 rfl ⟨by decide, by decide⟩ np_182 rfl rfl wt_1275 wt_1277 ws_16 hp hA hr rfl).thr (fun _ => True.intro))⟩
theorem ok_233_11 : BkOK mi i_233 (bpf P_233) 11 (B_233.getD 11 bk0) := ⟨45, rfl, t_ge dX6_uses_45 (by decide) rfl⟩
theorem ok_233_12 : BkOK mi i_233 (bpf P_233) 12 (B_233.getD 12 bk0) := ⟨51, ⟨1, s_iconst dX6_uses_48 rfl, ⟨2, s_istore dX6_uses_49 (by decide), rfl⟩⟩, t_fall rfl⟩
theorem ok_233_13 : BkOK mi i_233 (bpf P_233) 13 (B_233.getD 13 bk0) := ⟨55, ⟨2, s_iload dX6_uses_51, ⟨1, s_aload_n dX6_uses_53 rfl, ⟨1, s_iload_n dX6_uses_54 rfl, rfl⟩⟩⟩, t_cv rfl mi_183 mok_183 rfl (fun _ => ⟨rfl, by decide +kernel⟩) (fun hs' e => by cases e; intro E n b h; cases h) (fun q fs As rest h hp hA hr => (call_V (i := i_233) (j := i_183) (C := RX6) (T := TX6) (N := 30) dX6_uses_55 mok_183 rfl ⟨by decide, by decide⟩ np_183 rfl rfl wt_1381 wt_1383 ws_32 hp hA hr rfl).thr (fun _ => True.intro))⟩
theorem ok_233_14 : BkOK mi i_233 (bpf P_233) 14 (B_233.getD 14 bk0) := ⟨58, rfl, t_ge dX6_uses_58 (by decide) rfl⟩
theorem ok_233_15 : BkOK mi i_233 (bpf P_233) 15 (B_233.getD 15 bk0) := ⟨75, ⟨1, s_iload_n dX6_uses_61 rfl, ⟨1, s_aload_n dX6_uses_62 rfl, ⟨3, s_get (C := RX6) (T := TX6) (N := 30) dX6_uses_63 rfl (by decide) wt_1175 uw_X6, ⟨1, s_aload_n dX6_uses_66 rfl, ⟨3, s_get (C := RX6) (T := TX6) (N := 30) dX6_uses_67 rfl (by decide) wt_1178 uw_X6, ⟨1, s_iload_n dX6_uses_70 rfl, ⟨1, s_iald dX6_uses_71, ⟨1, s_iald dX6_uses_72, ⟨2, s_iload dX6_uses_73, rfl⟩⟩⟩⟩⟩⟩⟩⟩⟩, t_cs rfl mi_199 mok_199 rfl (fun As rest h hA hr => call_S dX6_uses_75 mok_199 rfl ⟨by decide, by decide⟩ np_199 wt_1432 wt_1433 hA hr)⟩
theorem ok_233_16 : BkOK mi i_233 (bpf P_233) 16 (B_233.getD 16 bk0) := ⟨79, ⟨1, s_iload_n dX6_uses_78 rfl, rfl⟩, t_nei dX6_uses_79 (by decide) rfl⟩
theorem ok_233_17 : BkOK mi i_233 (bpf P_233) 17 (B_233.getD 17 bk0) := ⟨83, ⟨1, s_iconst dX6_uses_82 rfl, rfl⟩, t_go dX6_uses_83 (by decide)⟩
theorem ok_233_18 : BkOK mi i_233 (bpf P_233) 18 (B_233.getD 18 bk0) := ⟨87, ⟨1, s_iconst dX6_uses_86 rfl, rfl⟩, t_fall rfl⟩
theorem ok_233_19 : BkOK mi i_233 (bpf P_233) 19 (B_233.getD 19 bk0) := ⟨92, ⟨1, s_iadd dX6_uses_87, ⟨1, s_istore_n dX6_uses_88 rfl (by decide), ⟨3, s_iinc dX6_uses_89 rfl (by decide), rfl⟩⟩⟩, t_go dX6_uses_92 (by decide)⟩
theorem ok_233_20 : BkOK mi i_233 (bpf P_233) 20 (B_233.getD 20 bk0) := ⟨98, ⟨3, s_iinc dX6_uses_95 rfl (by decide), rfl⟩, t_go dX6_uses_98 (by decide)⟩
theorem ok_233_21 : BkOK mi i_233 (bpf P_233) 21 (B_233.getD 21 bk0) := ⟨102, ⟨1, s_iload_n dX6_uses_101 rfl, rfl⟩, t_ret dX6_uses_102 rfl⟩
theorem ok_233 : ∀ b, BkOK mi i_233 (bpf P_233) b (B_233.getD b bk0)
  | 0 => ok_233_0
  | 1 => ok_233_1
  | 2 => ok_233_2
  | 3 => ok_233_3
  | 4 => ok_233_4
  | 5 => ok_233_5
  | 6 => ok_233_6
  | 7 => ok_233_7
  | 8 => ok_233_8
  | 9 => ok_233_9
  | 10 => ok_233_10
  | 11 => ok_233_11
  | 12 => ok_233_12
  | 13 => ok_233_13
  | 14 => ok_233_14
  | 15 => ok_233_15
  | 16 => ok_233_16
  | 17 => ok_233_17
  | 18 => ok_233_18
  | 19 => ok_233_19
  | 20 => ok_233_20
  | 21 => ok_233_21
  | b + 22 => bk_none mi i_233 (bpf P_233) (b + 22)
theorem ok_234_0 : BkOK mi i_234 (bpf P_234) 0 (B_234.getD 0 bk0) := ⟨9, ⟨1, s_iconst dX6_isSure_0 rfl, ⟨2, s_istore dX6_isSure_1 (by decide), ⟨2, s_bipush dX6_isSure_3 rfl, ⟨1, s_iload_n dX6_isSure_5 rfl, ⟨1, s_imul dX6_isSure_6, ⟨2, s_istore dX6_isSure_7 (by decide), rfl⟩⟩⟩⟩⟩⟩, t_fall rfl⟩
theorem ok_234_1 : BkOK mi i_234 (bpf P_234) 1 (B_234.getD 1 bk0) := ⟨22, ⟨2, s_iload dX6_isSure_9, ⟨2, s_bipush dX6_isSure_11 rfl, ⟨1, s_iload_n dX6_isSure_13 rfl, ⟨1, s_imul dX6_isSure_14, ⟨1, s_aload_n dX6_isSure_15 rfl, ⟨3, s_get (C := RX6) (T := TX6) (N := 30) dX6_isSure_16 rfl (by decide) wt_1177 uw_X6, ⟨1, s_iload_n dX6_isSure_19 rfl, ⟨1, s_iald dX6_isSure_20, ⟨1, s_iadd dX6_isSure_21, rfl⟩⟩⟩⟩⟩⟩⟩⟩⟩, t_ge dX6_isSure_22 (by decide) rfl⟩
theorem ok_234_2 : BkOK mi i_234 (bpf P_234) 2 (B_234.getD 2 bk0) := ⟨30, ⟨2, s_iload dX6_isSure_25, ⟨1, s_aload_n dX6_isSure_27 rfl, ⟨2, s_iload dX6_isSure_28, rfl⟩⟩⟩, t_cv rfl mi_231 mok_231 rfl (fun _ => ⟨rfl, by decide +kernel⟩) (fun hs' e => by cases e; intro E n b h; cases h) (fun q fs As rest h hp hA hr => (call_V (i := i_234) (j := i_231) (C := RX6) (T := TX6) (N := 30) dX6_isSure_30 mok_231 rfl ⟨by decide, by decide⟩ np_231 rfl rfl wt_1563 wt_1565 ws_63 hp hA hr rfl).thr (fun _ => True.intro))⟩
theorem ok_234_3 : BkOK mi i_234 (bpf P_234) 3 (B_234.getD 3 bk0) := ⟨34, ⟨1, s_iload_n dX6_isSure_33 rfl, rfl⟩, t_nei dX6_isSure_34 (by decide) rfl⟩
theorem ok_234_4 : BkOK mi i_234 (bpf P_234) 4 (B_234.getD 4 bk0) := ⟨46, ⟨1, s_iconst dX6_isSure_37 rfl, ⟨1, s_aload_n dX6_isSure_38 rfl, ⟨3, s_get (C := RX6) (T := TX6) (N := 30) dX6_isSure_39 rfl (by decide) wt_1175 uw_X6, ⟨2, s_iload dX6_isSure_42, ⟨1, s_iald dX6_isSure_44, ⟨1, s_iload_n dX6_isSure_45 rfl, rfl⟩⟩⟩⟩⟩⟩, t_cs rfl mi_199 mok_199 rfl (fun As rest h hA hr => call_S dX6_isSure_46 mok_199 rfl ⟨by decide, by decide⟩ np_199 wt_1432 wt_1433 hA hr)⟩
theorem ok_234_5 : BkOK mi i_234 (bpf P_234) 5 (B_234.getD 5 bk0) := ⟨50, ⟨1, s_ishl dX6_isSure_49, rfl⟩, t_go dX6_isSure_50 (by decide)⟩
theorem ok_234_6 : BkOK mi i_234 (bpf P_234) 6 (B_234.getD 6 bk0) := ⟨54, ⟨1, s_iconst dX6_isSure_53 rfl, rfl⟩, t_fall rfl⟩
theorem ok_234_7 : BkOK mi i_234 (bpf P_234) 7 (B_234.getD 7 bk0) := ⟨60, ⟨1, s_ior dX6_isSure_54, ⟨2, s_istore dX6_isSure_55 (by decide), ⟨3, s_iinc dX6_isSure_57 rfl (by decide), rfl⟩⟩⟩, t_go dX6_isSure_60 (by decide)⟩
theorem ok_234_8 : BkOK mi i_234 (bpf P_234) 8 (B_234.getD 8 bk0) := ⟨70, ⟨2, s_iload dX6_isSure_63, ⟨2, s_iload dX6_isSure_65, ⟨1, s_iconst dX6_isSure_67 rfl, ⟨1, s_isub dX6_isSure_68, ⟨1, s_iand dX6_isSure_69, rfl⟩⟩⟩⟩⟩, t_ne0 dX6_isSure_70 (by decide) rfl⟩
theorem ok_234_9 : BkOK mi i_234 (bpf P_234) 9 (B_234.getD 9 bk0) := ⟨74, ⟨1, s_iconst dX6_isSure_73 rfl, rfl⟩, t_go dX6_isSure_74 (by decide)⟩
theorem ok_234_10 : BkOK mi i_234 (bpf P_234) 10 (B_234.getD 10 bk0) := ⟨78, ⟨1, s_iconst dX6_isSure_77 rfl, rfl⟩, t_fall rfl⟩
theorem ok_234_11 : BkOK mi i_234 (bpf P_234) 11 (B_234.getD 11 bk0) := ⟨78, rfl, t_retZ dX6_isSure_78 rfl⟩
theorem ok_234 : ∀ b, BkOK mi i_234 (bpf P_234) b (B_234.getD b bk0)
  | 0 => ok_234_0
  | 1 => ok_234_1
  | 2 => ok_234_2
  | 3 => ok_234_3
  | 4 => ok_234_4
  | 5 => ok_234_5
  | 6 => ok_234_6
  | 7 => ok_234_7
  | 8 => ok_234_8
  | 9 => ok_234_9
  | 10 => ok_234_10
  | 11 => ok_234_11
  | b + 12 => bk_none mi i_234 (bpf P_234) (b + 12)
theorem ok_235_0 : BkOK mi i_235 (bpf P_235) 0 (B_235.getD 0 bk0) := ⟨1, ⟨1, s_aload_n dX6_sure_0 rfl, rfl⟩, t_cv rfl mi_212 mok_212 rfl (fun _ => ⟨rfl, by decide +kernel⟩) (fun hs' e => by cases e; intro E n b h; cases h) (fun q fs As rest h hp hA hr => (call_V (i := i_235) (j := i_212) (C := RX6) (T := TX6) (N := 30) dX6_sure_1 mok_212 rfl ⟨by decide, by decide⟩ np_212 rfl rfl wt_1489 wt_1491 ws_50 hp hA hr rfl).thr (fun _ => True.intro))⟩
theorem ok_235_1 : BkOK mi i_235 (bpf P_235) 1 (B_235.getD 1 bk0) := ⟨10, ⟨1, s_istore_n dX6_sure_4 rfl (by decide), ⟨1, s_aload_n dX6_sure_5 rfl, ⟨1, s_iload_n dX6_sure_6 rfl, ⟨3, s_ldcw dX6_sure_7 wt_1501, rfl⟩⟩⟩⟩, t_ge dX6_sure_10 (by decide) rfl⟩
theorem ok_235_2 : BkOK mi i_235 (bpf P_235) 2 (B_235.getD 2 bk0) := ⟨14, ⟨1, s_iconst dX6_sure_13 rfl, rfl⟩, t_go dX6_sure_14 (by decide)⟩
theorem ok_235_3 : BkOK mi i_235 (bpf P_235) 3 (B_235.getD 3 bk0) := ⟨18, ⟨1, s_iconst dX6_sure_17 rfl, rfl⟩, t_fall rfl⟩
theorem ok_235_4 : BkOK mi i_235 (bpf P_235) 4 (B_235.getD 4 bk0) := ⟨25, ⟨3, s_put (C := RX6) (T := TX6) (N := 30) tyX6 tyX6_ok nmX6 dX6_sure_18 rfl (by decide) rfl (tyX6_ok 7 (by decide)) wt_1164 uw_X6, ⟨1, s_aload_n dX6_sure_21 rfl, ⟨3, s_get (C := RX6) (T := TX6) (N := 30) dX6_sure_22 rfl (by decide) wt_1164 uw_X6, rfl⟩⟩⟩, t_le0 dX6_sure_25 (by decide) rfl⟩
theorem ok_235_5 : BkOK mi i_235 (bpf P_235) 5 (B_235.getD 5 bk0) := ⟨29, ⟨1, s_iconst dX6_sure_28 rfl, rfl⟩, t_ret dX6_sure_29 rfl⟩
theorem ok_235_6 : BkOK mi i_235 (bpf P_235) 6 (B_235.getD 6 bk0) := ⟨31, ⟨1, s_aload_n dX6_sure_30 rfl, rfl⟩, t_cv rfl mi_210 mok_210 rfl (fun _ => ⟨rfl, by decide +kernel⟩) (fun hs' e => by cases e; intro E n b h; cases h) (fun q fs As rest h hp hA hr => (call_V (i := i_235) (j := i_210) (C := RX6) (T := TX6) (N := 30) dX6_sure_31 mok_210 rfl ⟨by decide, by decide⟩ np_210 rfl rfl wt_1559 wt_1561 ws_62 hp hA hr rfl).thr (fun _ => True.intro))⟩
theorem ok_235_7 : BkOK mi i_235 (bpf P_235) 7 (B_235.getD 7 bk0) := ⟨38, ⟨1, s_iconst dX6_sure_34 rfl, ⟨1, s_istore_n dX6_sure_35 rfl (by decide), ⟨1, s_iconst dX6_sure_36 rfl, ⟨1, s_istore_n dX6_sure_37 rfl (by decide), rfl⟩⟩⟩⟩, t_fall rfl⟩
theorem ok_235_8 : BkOK mi i_235 (bpf P_235) 8 (B_235.getD 8 bk0) := ⟨40, ⟨1, s_iload_n dX6_sure_38 rfl, ⟨1, s_aload_n dX6_sure_39 rfl, rfl⟩⟩, t_cv rfl mi_182 mok_182 rfl (fun _ => ⟨rfl, by decide +kernel⟩) (fun hs' e => by cases e; intro E n b h; cases h) (fun q fs As rest h hp hA hr => (call_V (i := i_235) (j := i_182) (C := RX6) (T := TX6) (N := 30) dX6_sure_40 mok_182 rfl ⟨by decide, by decide⟩ np_182 rfl rfl wt_1275 wt_1277 ws_16 hp hA hr rfl).thr (fun _ => True.intro))⟩
theorem ok_235_9 : BkOK mi i_235 (bpf P_235) 9 (B_235.getD 9 bk0) := ⟨43, rfl, t_ge dX6_sure_43 (by decide) rfl⟩
theorem ok_235_10 : BkOK mi i_235 (bpf P_235) 10 (B_235.getD 10 bk0) := ⟨49, ⟨1, s_iconst dX6_sure_46 rfl, ⟨2, s_istore dX6_sure_47 (by decide), rfl⟩⟩, t_fall rfl⟩
theorem ok_235_11 : BkOK mi i_235 (bpf P_235) 11 (B_235.getD 11 bk0) := ⟨53, ⟨2, s_iload dX6_sure_49, ⟨1, s_aload_n dX6_sure_51 rfl, ⟨1, s_iload_n dX6_sure_52 rfl, rfl⟩⟩⟩, t_cv rfl mi_183 mok_183 rfl (fun _ => ⟨rfl, by decide +kernel⟩) (fun hs' e => by cases e; intro E n b h; cases h) (fun q fs As rest h hp hA hr => (call_V (i := i_235) (j := i_183) (C := RX6) (T := TX6) (N := 30) dX6_sure_53 mok_183 rfl ⟨by decide, by decide⟩ np_183 rfl rfl wt_1381 wt_1383 ws_32 hp hA hr rfl).thr (fun _ => True.intro))⟩
theorem ok_235_12 : BkOK mi i_235 (bpf P_235) 12 (B_235.getD 12 bk0) := ⟨56, rfl, t_ge dX6_sure_56 (by decide) rfl⟩
theorem ok_235_13 : BkOK mi i_235 (bpf P_235) 13 (B_235.getD 13 bk0) := ⟨65, ⟨1, s_iload_n dX6_sure_59 rfl, ⟨1, s_aload_n dX6_sure_60 rfl, ⟨1, s_iload_n dX6_sure_61 rfl, ⟨2, s_iload dX6_sure_62, ⟨1, s_iload_n dX6_sure_64 rfl, rfl⟩⟩⟩⟩⟩, t_cv rfl mi_234 mok_234 rfl (fun _ => ⟨rfl, by decide +kernel⟩) (fun hs' e => by cases e; intro E n b h; cases h) (fun q fs As rest h hp hA hr => (call_V (i := i_235) (j := i_234) (C := RX6) (T := TX6) (N := 30) dX6_sure_65 mok_234 rfl ⟨by decide, by decide⟩ np_234 rfl rfl wt_1579 wt_1581 ws_64 hp hA hr rfl).thr (fun _ => True.intro))⟩
theorem ok_235_14 : BkOK mi i_235 (bpf P_235) 14 (B_235.getD 14 bk0) := ⟨68, rfl, t_eq0 dX6_sure_68 (by decide) rfl⟩
theorem ok_235_15 : BkOK mi i_235 (bpf P_235) 15 (B_235.getD 15 bk0) := ⟨72, ⟨1, s_iconst dX6_sure_71 rfl, rfl⟩, t_go dX6_sure_72 (by decide)⟩
theorem ok_235_16 : BkOK mi i_235 (bpf P_235) 16 (B_235.getD 16 bk0) := ⟨76, ⟨1, s_iconst dX6_sure_75 rfl, rfl⟩, t_fall rfl⟩
theorem ok_235_17 : BkOK mi i_235 (bpf P_235) 17 (B_235.getD 17 bk0) := ⟨81, ⟨1, s_iadd dX6_sure_76, ⟨1, s_istore_n dX6_sure_77 rfl (by decide), ⟨3, s_iinc dX6_sure_78 rfl (by decide), rfl⟩⟩⟩, t_go dX6_sure_81 (by decide)⟩
theorem ok_235_18 : BkOK mi i_235 (bpf P_235) 18 (B_235.getD 18 bk0) := ⟨87, ⟨3, s_iinc dX6_sure_84 rfl (by decide), rfl⟩, t_go dX6_sure_87 (by decide)⟩
theorem ok_235_19 : BkOK mi i_235 (bpf P_235) 19 (B_235.getD 19 bk0) := ⟨91, ⟨1, s_iload_n dX6_sure_90 rfl, rfl⟩, t_ret dX6_sure_91 rfl⟩
theorem ok_235 : ∀ b, BkOK mi i_235 (bpf P_235) b (B_235.getD b bk0)
  | 0 => ok_235_0
  | 1 => ok_235_1
  | 2 => ok_235_2
  | 3 => ok_235_3
  | 4 => ok_235_4
  | 5 => ok_235_5
  | 6 => ok_235_6
  | 7 => ok_235_7
  | 8 => ok_235_8
  | 9 => ok_235_9
  | 10 => ok_235_10
  | 11 => ok_235_11
  | 12 => ok_235_12
  | 13 => ok_235_13
  | 14 => ok_235_14
  | 15 => ok_235_15
  | 16 => ok_235_16
  | 17 => ok_235_17
  | 18 => ok_235_18
  | 19 => ok_235_19
  | b + 20 => bk_none mi i_235 (bpf P_235) (b + 20)
theorem ok_236_0 : BkOK mi i_236 (bpf P_236) 0 (B_236.getD 0 bk0) := ⟨1, ⟨1, s_aload_n dX6_mean_0 rfl, rfl⟩, t_cv rfl mi_212 mok_212 rfl (fun _ => ⟨rfl, by decide +kernel⟩) (fun hs' e => by cases e; intro E n b h; cases h) (fun q fs As rest h hp hA hr => (call_V (i := i_236) (j := i_212) (C := RX6) (T := TX6) (N := 30) dX6_mean_1 mok_212 rfl ⟨by decide, by decide⟩ np_212 rfl rfl wt_1489 wt_1491 ws_50 hp hA hr rfl).thr (fun _ => True.intro))⟩
theorem ok_236_1 : BkOK mi i_236 (bpf P_236) 1 (B_236.getD 1 bk0) := ⟨10, ⟨1, s_istore_n dX6_mean_4 rfl (by decide), ⟨1, s_aload_n dX6_mean_5 rfl, ⟨1, s_iload_n dX6_mean_6 rfl, ⟨3, s_ldcw dX6_mean_7 wt_1501, rfl⟩⟩⟩⟩, t_ge dX6_mean_10 (by decide) rfl⟩
theorem ok_236_2 : BkOK mi i_236 (bpf P_236) 2 (B_236.getD 2 bk0) := ⟨14, ⟨1, s_iconst dX6_mean_13 rfl, rfl⟩, t_go dX6_mean_14 (by decide)⟩
theorem ok_236_3 : BkOK mi i_236 (bpf P_236) 3 (B_236.getD 3 bk0) := ⟨18, ⟨1, s_iconst dX6_mean_17 rfl, rfl⟩, t_fall rfl⟩
theorem ok_236_4 : BkOK mi i_236 (bpf P_236) 4 (B_236.getD 4 bk0) := ⟨25, ⟨3, s_put (C := RX6) (T := TX6) (N := 30) tyX6 tyX6_ok nmX6 dX6_mean_18 rfl (by decide) rfl (tyX6_ok 7 (by decide)) wt_1164 uw_X6, ⟨1, s_aload_n dX6_mean_21 rfl, ⟨3, s_get (C := RX6) (T := TX6) (N := 30) dX6_mean_22 rfl (by decide) wt_1164 uw_X6, rfl⟩⟩⟩, t_gt0 dX6_mean_25 (by decide) rfl⟩
theorem ok_236_5 : BkOK mi i_236 (bpf P_236) 5 (B_236.getD 5 bk0) := ⟨29, ⟨1, s_aload_n dX6_mean_28 rfl, rfl⟩, t_cv rfl mi_182 mok_182 rfl (fun _ => ⟨rfl, by decide +kernel⟩) (fun hs' e => by cases e; intro E n b h; cases h) (fun q fs As rest h hp hA hr => (call_V (i := i_236) (j := i_182) (C := RX6) (T := TX6) (N := 30) dX6_mean_29 mok_182 rfl ⟨by decide, by decide⟩ np_182 rfl rfl wt_1275 wt_1277 ws_16 hp hA hr rfl).thr (fun _ => True.intro))⟩
theorem ok_236_6 : BkOK mi i_236 (bpf P_236) 6 (B_236.getD 6 bk0) := ⟨32, rfl, t_ne0 dX6_mean_32 (by decide) rfl⟩
theorem ok_236_7 : BkOK mi i_236 (bpf P_236) 7 (B_236.getD 7 bk0) := ⟨36, ⟨1, s_dconst dX6_mean_35, rfl⟩, t_go dX6_mean_36 (by decide)⟩
theorem ok_236_8 : BkOK mi i_236 (bpf P_236) 8 (B_236.getD 8 bk0) := ⟨42, ⟨1, s_iload_n dX6_mean_39 rfl, ⟨1, s_i2d dX6_mean_40, ⟨1, s_aload_n dX6_mean_41 rfl, rfl⟩⟩⟩, t_cv rfl mi_192 mok_192 rfl (fun _ => ⟨rfl, by decide +kernel⟩) (fun hs' e => by cases e; intro E n b h; cases h) (fun q fs As rest h hp hA hr => (call_V (i := i_236) (j := i_192) (C := RX6) (T := TX6) (N := 30) dX6_mean_42 mok_192 rfl ⟨by decide, by decide⟩ np_192 rfl rfl wt_1377 wt_1379 ws_31 hp hA hr rfl).thr (fun _ => True.intro))⟩
theorem ok_236_9 : BkOK mi i_236 (bpf P_236) 9 (B_236.getD 9 bk0) := ⟨47, ⟨1, s_i2d dX6_mean_45, ⟨1, s_ddiv dX6_mean_46, rfl⟩⟩, t_fall rfl⟩
theorem ok_236_10 : BkOK mi i_236 (bpf P_236) 10 (B_236.getD 10 bk0) := ⟨47, rfl, t_retD dX6_mean_47 rfl⟩
theorem ok_236 : ∀ b, BkOK mi i_236 (bpf P_236) b (B_236.getD b bk0)
  | 0 => ok_236_0
  | 1 => ok_236_1
  | 2 => ok_236_2
  | 3 => ok_236_3
  | 4 => ok_236_4
  | 5 => ok_236_5
  | 6 => ok_236_6
  | 7 => ok_236_7
  | 8 => ok_236_8
  | 9 => ok_236_9
  | 10 => ok_236_10
  | b + 11 => bk_none mi i_236 (bpf P_236) (b + 11)
theorem ok_237_0 : BkOK mi i_237 (bpf P_237) 0 (B_237.getD 0 bk0) := ⟨1, ⟨1, s_aload_n dX6_readsFingers_0 rfl, rfl⟩, t_cv rfl mi_169 mok_169 rfl (fun _ => ⟨rfl, by decide +kernel⟩) (fun hs' e => by cases e; intro E n b h; cases h) (fun q fs As rest h hp hA hr => (call_V (i := i_237) (j := i_169) (C := RX6) (T := TX6) (N := 30) dX6_readsFingers_1 mok_169 rfl ⟨by decide, by decide⟩ np_169 rfl rfl wt_1290 wt_1292 ws_17 hp hA hr rfl).thr (fun _ => True.intro))⟩
theorem ok_237_1 : BkOK mi i_237 (bpf P_237) 1 (B_237.getD 1 bk0) := ⟨6, ⟨1, s_iconst dX6_readsFingers_4 rfl, ⟨1, s_istore_n dX6_readsFingers_5 rfl (by decide), rfl⟩⟩, t_fall rfl⟩
theorem ok_237_2 : BkOK mi i_237 (bpf P_237) 2 (B_237.getD 2 bk0) := ⟨8, ⟨1, s_iload_n dX6_readsFingers_6 rfl, ⟨1, s_aload_n dX6_readsFingers_7 rfl, rfl⟩⟩, t_cv rfl mi_182 mok_182 rfl (fun _ => ⟨rfl, by decide +kernel⟩) (fun hs' e => by cases e; intro E n b h; cases h) (fun q fs As rest h hp hA hr => (call_V (i := i_237) (j := i_182) (C := RX6) (T := TX6) (N := 30) dX6_readsFingers_8 mok_182 rfl ⟨by decide, by decide⟩ np_182 rfl rfl wt_1275 wt_1277 ws_16 hp hA hr rfl).thr (fun _ => True.intro))⟩
theorem ok_237_3 : BkOK mi i_237 (bpf P_237) 3 (B_237.getD 3 bk0) := ⟨11, rfl, t_ge dX6_readsFingers_11 (by decide) rfl⟩
theorem ok_237_4 : BkOK mi i_237 (bpf P_237) 4 (B_237.getD 4 bk0) := ⟨26, ⟨1, s_aload_n dX6_readsFingers_14 rfl, ⟨3, s_get (C := RX6) (T := TX6) (N := 30) dX6_readsFingers_15 rfl (by decide) wt_1183 uw_X6, ⟨1, s_iload_n dX6_readsFingers_18 rfl, ⟨1, s_iconst dX6_readsFingers_19 rfl, ⟨1, s_iast dX6_readsFingers_20, ⟨2, s_bipush dX6_readsFingers_21 rfl, ⟨1, s_istore_n dX6_readsFingers_23 rfl (by decide), ⟨1, s_iconst dX6_readsFingers_24 rfl, ⟨1, s_istore_n dX6_readsFingers_25 rfl (by decide), rfl⟩⟩⟩⟩⟩⟩⟩⟩⟩, t_fall rfl⟩
theorem ok_237_5 : BkOK mi i_237 (bpf P_237) 5 (B_237.getD 5 bk0) := ⟨29, ⟨1, s_iload_n dX6_readsFingers_26 rfl, ⟨1, s_aload_n dX6_readsFingers_27 rfl, ⟨1, s_iload_n dX6_readsFingers_28 rfl, rfl⟩⟩⟩, t_cv rfl mi_183 mok_183 rfl (fun _ => ⟨rfl, by decide +kernel⟩) (fun hs' e => by cases e; intro E n b h; cases h) (fun q fs As rest h hp hA hr => (call_V (i := i_237) (j := i_183) (C := RX6) (T := TX6) (N := 30) dX6_readsFingers_29 mok_183 rfl ⟨by decide, by decide⟩ np_183 rfl rfl wt_1381 wt_1383 ws_32 hp hA hr rfl).thr (fun _ => True.intro))⟩
theorem ok_237_6 : BkOK mi i_237 (bpf P_237) 6 (B_237.getD 6 bk0) := ⟨32, rfl, t_ge dX6_readsFingers_32 (by decide) rfl⟩
theorem ok_237_7 : BkOK mi i_237 (bpf P_237) 7 (B_237.getD 7 bk0) := ⟨39, ⟨1, s_aload_n dX6_readsFingers_35 rfl, ⟨3, s_get (C := RX6) (T := TX6) (N := 30) dX6_readsFingers_36 rfl (by decide) wt_1171 uw_X6, rfl⟩⟩, t_ne0 dX6_readsFingers_39 (by decide) rfl⟩
theorem ok_237_8 : BkOK mi i_237 (bpf P_237) 8 (B_237.getD 8 bk0) := ⟨47, ⟨1, s_aload_n dX6_readsFingers_42 rfl, ⟨3, s_get (C := RX6) (T := TX6) (N := 30) dX6_readsFingers_43 rfl (by decide) wt_1169 uw_X6, ⟨1, s_iconst dX6_readsFingers_46 rfl, rfl⟩⟩⟩, t_nei dX6_readsFingers_47 (by decide) rfl⟩
theorem ok_237_9 : BkOK mi i_237 (bpf P_237) 9 (B_237.getD 9 bk0) := ⟨53, ⟨1, s_aload_n dX6_readsFingers_50 rfl, ⟨2, s_bipush dX6_readsFingers_51 rfl, rfl⟩⟩, t_cv rfl mi_172 mok_172 rfl (fun _ => ⟨rfl, by decide +kernel⟩) (fun hs' e => by cases e; intro E n b h; cases h) (fun q fs As rest h hp hA hr => (call_V (i := i_237) (j := i_172) (C := RX6) (T := TX6) (N := 30) dX6_readsFingers_53 mok_172 rfl ⟨by decide, by decide⟩ np_172 rfl rfl wt_1321 wt_1323 ws_24 hp hA hr rfl).thr (fun _ => True.intro))⟩
theorem ok_237_10 : BkOK mi i_237 (bpf P_237) 10 (B_237.getD 10 bk0) := ⟨68, ⟨1, s_aload_n dX6_readsFingers_56 rfl, ⟨3, s_get (C := RX6) (T := TX6) (N := 30) dX6_readsFingers_57 rfl (by decide) wt_1183 uw_X6, ⟨1, s_iload_n dX6_readsFingers_60 rfl, ⟨1, s_dup2 dX6_readsFingers_61, ⟨1, s_iald dX6_readsFingers_62, ⟨1, s_iload_n dX6_readsFingers_63 rfl, ⟨1, s_aload_n dX6_readsFingers_64 rfl, ⟨1, s_iconst dX6_readsFingers_65 rfl, ⟨1, s_iconst dX6_readsFingers_66 rfl, ⟨1, s_iconst dX6_readsFingers_67 rfl, rfl⟩⟩⟩⟩⟩⟩⟩⟩⟩⟩, t_cv rfl mi_175 mok_175 rfl (fun _ => ⟨rfl, by decide +kernel⟩) (fun hs' e => by cases e; intro E n b h; cases h) (fun q fs As rest h hp hA hr => (call_V (i := i_237) (j := i_175) (C := RX6) (T := TX6) (N := 30) dX6_readsFingers_68 mok_175 rfl ⟨by decide, by decide⟩ np_175 rfl rfl wt_1349 wt_1351 ws_27 hp hA hr rfl).thr (fun _ => True.intro))⟩
theorem ok_237_11 : BkOK mi i_237 (bpf P_237) 11 (B_237.getD 11 bk0) := ⟨83, ⟨1, s_iconst dX6_readsFingers_71 rfl, ⟨1, s_isub dX6_readsFingers_72, ⟨1, s_imul dX6_readsFingers_73, ⟨1, s_iadd dX6_readsFingers_74, ⟨1, s_iast dX6_readsFingers_75, ⟨1, s_iload_n dX6_readsFingers_76 rfl, ⟨1, s_iconst dX6_readsFingers_77 rfl, ⟨1, s_idiv dX6_readsFingers_78, ⟨1, s_istore_n dX6_readsFingers_79 rfl (by decide), ⟨3, s_iinc dX6_readsFingers_80 rfl (by decide), rfl⟩⟩⟩⟩⟩⟩⟩⟩⟩⟩, t_go dX6_readsFingers_83 (by decide)⟩
theorem ok_237_12 : BkOK mi i_237 (bpf P_237) 12 (B_237.getD 12 bk0) := ⟨89, ⟨3, s_iinc dX6_readsFingers_86 rfl (by decide), rfl⟩, t_go dX6_readsFingers_89 (by decide)⟩
theorem ok_237_13 : BkOK mi i_237 (bpf P_237) 13 (B_237.getD 13 bk0) := ⟨96, ⟨1, s_aload_n dX6_readsFingers_92 rfl, ⟨3, s_get (C := RX6) (T := TX6) (N := 30) dX6_readsFingers_93 rfl (by decide) wt_1171 uw_X6, rfl⟩⟩, t_ne0 dX6_readsFingers_96 (by decide) rfl⟩
theorem ok_237_14 : BkOK mi i_237 (bpf P_237) 14 (B_237.getD 14 bk0) := ⟨104, ⟨1, s_aload_n dX6_readsFingers_99 rfl, ⟨3, s_get (C := RX6) (T := TX6) (N := 30) dX6_readsFingers_100 rfl (by decide) wt_1169 uw_X6, ⟨1, s_iconst dX6_readsFingers_103 rfl, rfl⟩⟩⟩, t_eq dX6_readsFingers_104 (by decide) rfl⟩
theorem ok_237_15 : BkOK mi i_237 (bpf P_237) 15 (B_237.getD 15 bk0) := ⟨113, ⟨1, s_aload_n dX6_readsFingers_107 rfl, ⟨1, s_aload_n dX6_readsFingers_108 rfl, ⟨3, s_get (C := RX6) (T := TX6) (N := 30) dX6_readsFingers_109 rfl (by decide) wt_1169 uw_X6, ⟨1, s_iconst dX6_readsFingers_112 rfl, rfl⟩⟩⟩⟩, t_nei dX6_readsFingers_113 (by decide) rfl⟩
theorem ok_237_16 : BkOK mi i_237 (bpf P_237) 16 (B_237.getD 16 bk0) := ⟨118, ⟨2, s_bipush dX6_readsFingers_116 rfl, rfl⟩, t_go dX6_readsFingers_118 (by decide)⟩
theorem ok_237_17 : BkOK mi i_237 (bpf P_237) 17 (B_237.getD 17 bk0) := ⟨123, ⟨2, s_bipush dX6_readsFingers_121 rfl, rfl⟩, t_fall rfl⟩
theorem ok_237_18 : BkOK mi i_237 (bpf P_237) 18 (B_237.getD 18 bk0) := ⟨123, rfl, t_cv rfl mi_172 mok_172 rfl (fun _ => ⟨rfl, by decide +kernel⟩) (fun hs' e => by cases e; intro E n b h; cases h) (fun q fs As rest h hp hA hr => (call_V (i := i_237) (j := i_172) (C := RX6) (T := TX6) (N := 30) dX6_readsFingers_123 mok_172 rfl ⟨by decide, by decide⟩ np_172 rfl rfl wt_1321 wt_1323 ws_24 hp hA hr rfl).thr (fun _ => True.intro))⟩
theorem ok_237_19 : BkOK mi i_237 (bpf P_237) 19 (B_237.getD 19 bk0) := ⟨127, ⟨1, s_aload_n dX6_readsFingers_126 rfl, rfl⟩, t_cv rfl mi_170 mok_170 rfl (fun _ => ⟨rfl, by decide +kernel⟩) (fun hs' e => by cases e; intro E n b h; cases h) (fun q fs As rest h hp hA hr => (call_V (i := i_237) (j := i_170) (C := RX6) (T := TX6) (N := 30) dX6_readsFingers_127 mok_170 rfl ⟨by decide, by decide⟩ np_170 rfl rfl wt_1365 wt_1367 ws_30 hp hA hr rfl).thr (fun _ => True.intro))⟩
theorem ok_237_20 : BkOK mi i_237 (bpf P_237) 20 (B_237.getD 20 bk0) := ⟨130, rfl, t_retV dX6_readsFingers_130 rfl⟩
theorem ok_237 : ∀ b, BkOK mi i_237 (bpf P_237) b (B_237.getD b bk0)
  | 0 => ok_237_0
  | 1 => ok_237_1
  | 2 => ok_237_2
  | 3 => ok_237_3
  | 4 => ok_237_4
  | 5 => ok_237_5
  | 6 => ok_237_6
  | 7 => ok_237_7
  | 8 => ok_237_8
  | 9 => ok_237_9
  | 10 => ok_237_10
  | 11 => ok_237_11
  | 12 => ok_237_12
  | 13 => ok_237_13
  | 14 => ok_237_14
  | 15 => ok_237_15
  | 16 => ok_237_16
  | 17 => ok_237_17
  | 18 => ok_237_18
  | 19 => ok_237_19
  | 20 => ok_237_20
  | b + 21 => bk_none mi i_237 (bpf P_237) (b + 21)
theorem ok_238_0 : BkOK mi i_238 (bpf P_238) 0 (B_238.getD 0 bk0) := ⟨9, ⟨1, s_aload_n dX6_costOfEvent_0 rfl, ⟨1, s_aload_n dX6_costOfEvent_1 rfl, ⟨3, s_get (C := RX6) (T := TX6) (N := 30) dX6_costOfEvent_2 rfl (by decide) wt_1183 uw_X6, ⟨1, s_iload_n dX6_costOfEvent_5 rfl, ⟨1, s_iald dX6_costOfEvent_6, ⟨1, s_aload_n dX6_costOfEvent_7 rfl, ⟨1, s_iload_n dX6_costOfEvent_8 rfl, rfl⟩⟩⟩⟩⟩⟩⟩, t_cv rfl mi_183 mok_183 rfl (fun _ => ⟨rfl, by decide +kernel⟩) (fun hs' e => by cases e; intro E n b h; cases h) (fun q fs As rest h hp hA hr => (call_V (i := i_238) (j := i_183) (C := RX6) (T := TX6) (N := 30) dX6_costOfEvent_9 mok_183 rfl ⟨by decide, by decide⟩ np_183 rfl rfl wt_1381 wt_1383 ws_32 hp hA hr rfl).thr (fun _ => True.intro))⟩
theorem ok_238_1 : BkOK mi i_238 (bpf P_238) 1 (B_238.getD 1 bk0) := ⟨12, rfl, t_cv rfl mi_200 mok_200 rfl (fun _ => ⟨rfl, by decide +kernel⟩) (fun hs' e => by cases e; intro E n b h; cases h) (fun q fs As rest h hp hA hr => (call_V (i := i_238) (j := i_200) (C := RX6) (T := TX6) (N := 30) dX6_costOfEvent_12 mok_200 rfl ⟨by decide, by decide⟩ np_200 rfl rfl wt_1428 wt_1430 ws_42 hp hA hr rfl).thr (fun _ => True.intro))⟩
theorem ok_238_2 : BkOK mi i_238 (bpf P_238) 2 (B_238.getD 2 bk0) := ⟨17, ⟨1, s_aload_n dX6_costOfEvent_15 rfl, ⟨1, s_iload_n dX6_costOfEvent_16 rfl, rfl⟩⟩, t_cv rfl mi_198 mok_198 rfl (fun _ => ⟨rfl, by decide +kernel⟩) (fun hs' e => by cases e; intro E n b h; cases h) (fun q fs As rest h hp hA hr => (call_V (i := i_238) (j := i_198) (C := RX6) (T := TX6) (N := 30) dX6_costOfEvent_17 mok_198 rfl ⟨by decide, by decide⟩ np_198 rfl rfl wt_1435 wt_1437 ws_43 hp hA hr rfl).thr (fun _ => True.intro))⟩
theorem ok_238_3 : BkOK mi i_238 (bpf P_238) 3 (B_238.getD 3 bk0) := ⟨20, rfl, t_ret dX6_costOfEvent_20 rfl⟩
theorem ok_238 : ∀ b, BkOK mi i_238 (bpf P_238) b (B_238.getD b bk0)
  | 0 => ok_238_0
  | 1 => ok_238_1
  | 2 => ok_238_2
  | 3 => ok_238_3
  | b + 4 => bk_none mi i_238 (bpf P_238) (b + 4)
theorem ok_239_0 : BkOK mi i_239 (bpf P_239) 0 (B_239.getD 0 bk0) := ⟨2, ⟨1, s_iconst dX6_faultNow_0 rfl, ⟨1, s_istore_n dX6_faultNow_1 rfl (by decide), rfl⟩⟩, t_fall rfl⟩
theorem ok_239_1 : BkOK mi i_239 (bpf P_239) 1 (B_239.getD 1 bk0) := ⟨4, ⟨1, s_iload_n dX6_faultNow_2 rfl, ⟨1, s_aload_n dX6_faultNow_3 rfl, rfl⟩⟩, t_cv rfl mi_182 mok_182 rfl (fun _ => ⟨rfl, by decide +kernel⟩) (fun hs' e => by cases e; intro E n b h; cases h) (fun q fs As rest h hp hA hr => (call_V (i := i_239) (j := i_182) (C := RX6) (T := TX6) (N := 30) dX6_faultNow_4 mok_182 rfl ⟨by decide, by decide⟩ np_182 rfl rfl wt_1275 wt_1277 ws_16 hp hA hr rfl).thr (fun _ => True.intro))⟩
theorem ok_239_2 : BkOK mi i_239 (bpf P_239) 2 (B_239.getD 2 bk0) := ⟨7, rfl, t_ge dX6_faultNow_7 (by decide) rfl⟩
theorem ok_239_3 : BkOK mi i_239 (bpf P_239) 3 (B_239.getD 3 bk0) := ⟨12, ⟨1, s_aload_n dX6_faultNow_10 rfl, ⟨1, s_iload_n dX6_faultNow_11 rfl, rfl⟩⟩, t_cv rfl mi_238 mok_238 rfl (fun _ => ⟨rfl, by decide +kernel⟩) (fun hs' e => by cases e; intro E n b h; cases h) (fun q fs As rest h hp hA hr => (call_V (i := i_239) (j := i_238) (C := RX6) (T := TX6) (N := 30) dX6_faultNow_12 mok_238 rfl ⟨by decide, by decide⟩ np_238 rfl rfl wt_1599 wt_1601 ws_67 hp hA hr rfl).thr (fun _ => True.intro))⟩
theorem ok_239_4 : BkOK mi i_239 (bpf P_239) 4 (B_239.getD 4 bk0) := ⟨16, ⟨1, s_iconst dX6_faultNow_15 rfl, rfl⟩, t_nei dX6_faultNow_16 (by decide) rfl⟩
theorem ok_239_5 : BkOK mi i_239 (bpf P_239) 5 (B_239.getD 5 bk0) := ⟨25, ⟨2, s_bipush dX6_faultNow_19 rfl, ⟨1, s_iload_n dX6_faultNow_21 rfl, ⟨1, s_imul dX6_faultNow_22, ⟨1, s_iconst dX6_faultNow_23 rfl, ⟨1, s_iadd dX6_faultNow_24, rfl⟩⟩⟩⟩⟩, t_ret dX6_faultNow_25 rfl⟩
theorem ok_239_6 : BkOK mi i_239 (bpf P_239) 6 (B_239.getD 6 bk0) := ⟨27, ⟨1, s_iload_n dX6_faultNow_26 rfl, rfl⟩, t_le0 dX6_faultNow_27 (by decide) rfl⟩
theorem ok_239_7 : BkOK mi i_239 (bpf P_239) 7 (B_239.getD 7 bk0) := ⟨48, ⟨1, s_aload_n dX6_faultNow_30 rfl, ⟨1, s_iload_n dX6_faultNow_31 rfl, ⟨1, s_iconst dX6_faultNow_32 rfl, ⟨1, s_isub dX6_faultNow_33, ⟨1, s_aload_n dX6_faultNow_34 rfl, ⟨3, s_get (C := RX6) (T := TX6) (N := 30) dX6_faultNow_35 rfl (by decide) wt_1183 uw_X6, ⟨1, s_iload_n dX6_faultNow_38 rfl, ⟨1, s_iconst dX6_faultNow_39 rfl, ⟨1, s_isub dX6_faultNow_40, ⟨1, s_iald dX6_faultNow_41, ⟨1, s_aload_n dX6_faultNow_42 rfl, ⟨3, s_get (C := RX6) (T := TX6) (N := 30) dX6_faultNow_43 rfl (by decide) wt_1183 uw_X6, ⟨1, s_iload_n dX6_faultNow_46 rfl, ⟨1, s_iald dX6_faultNow_47, rfl⟩⟩⟩⟩⟩⟩⟩⟩⟩⟩⟩⟩⟩⟩, t_cv rfl mi_205 mok_205 rfl (fun _ => ⟨rfl, by decide +kernel⟩) (fun hs' e => by cases e; intro E n b h; cases h) (fun q fs As rest h hp hA hr => (call_V (i := i_239) (j := i_205) (C := RX6) (T := TX6) (N := 30) dX6_faultNow_48 mok_205 rfl ⟨by decide, by decide⟩ np_205 rfl rfl wt_1502 wt_1504 ws_53 hp hA hr rfl).thr (fun _ => True.intro))⟩
theorem ok_239_8 : BkOK mi i_239 (bpf P_239) 8 (B_239.getD 8 bk0) := ⟨52, ⟨1, s_iconst dX6_faultNow_51 rfl, rfl⟩, t_nei dX6_faultNow_52 (by decide) rfl⟩
theorem ok_239_9 : BkOK mi i_239 (bpf P_239) 9 (B_239.getD 9 bk0) := ⟨61, ⟨2, s_bipush dX6_faultNow_55 rfl, ⟨1, s_iload_n dX6_faultNow_57 rfl, ⟨1, s_imul dX6_faultNow_58, ⟨1, s_iconst dX6_faultNow_59 rfl, ⟨1, s_iadd dX6_faultNow_60, rfl⟩⟩⟩⟩⟩, t_ret dX6_faultNow_61 rfl⟩
theorem ok_239_10 : BkOK mi i_239 (bpf P_239) 10 (B_239.getD 10 bk0) := ⟨65, ⟨3, s_iinc dX6_faultNow_62 rfl (by decide), rfl⟩, t_go dX6_faultNow_65 (by decide)⟩
theorem ok_239_11 : BkOK mi i_239 (bpf P_239) 11 (B_239.getD 11 bk0) := ⟨69, ⟨1, s_iconst dX6_faultNow_68 rfl, rfl⟩, t_ret dX6_faultNow_69 rfl⟩
theorem ok_239 : ∀ b, BkOK mi i_239 (bpf P_239) b (B_239.getD b bk0)
  | 0 => ok_239_0
  | 1 => ok_239_1
  | 2 => ok_239_2
  | 3 => ok_239_3
  | 4 => ok_239_4
  | 5 => ok_239_5
  | 6 => ok_239_6
  | 7 => ok_239_7
  | 8 => ok_239_8
  | 9 => ok_239_9
  | 10 => ok_239_10
  | 11 => ok_239_11
  | b + 12 => bk_none mi i_239 (bpf P_239) (b + 12)
theorem ok_240_0 : BkOK mi i_240 (bpf P_240) 0 (B_240.getD 0 bk0) := ⟨1, ⟨1, s_aload_n dX6_costOfTold_0 rfl, rfl⟩, t_cv rfl mi_237 mok_237 rfl (fun _ => ⟨rfl, by decide +kernel⟩) (fun hs' e => by cases e; intro E n b h; cases h) (fun q fs As rest h hp hA hr => (call_V (i := i_240) (j := i_237) (C := RX6) (T := TX6) (N := 30) dX6_costOfTold_1 mok_237 rfl ⟨by decide, by decide⟩ np_237 rfl rfl wt_1591 wt_1593 ws_65 hp hA hr rfl).thr (fun _ => True.intro))⟩
theorem ok_240_1 : BkOK mi i_240 (bpf P_240) 1 (B_240.getD 1 bk0) := ⟨8, ⟨1, s_aload_n dX6_costOfTold_4 rfl, ⟨3, s_get (C := RX6) (T := TX6) (N := 30) dX6_costOfTold_5 rfl (by decide) wt_1171 uw_X6, rfl⟩⟩, t_eq0 dX6_costOfTold_8 (by decide) rfl⟩
theorem ok_240_2 : BkOK mi i_240 (bpf P_240) 2 (B_240.getD 2 bk0) := ⟨15, ⟨1, s_aload_n dX6_costOfTold_11 rfl, ⟨3, s_get (C := RX6) (T := TX6) (N := 30) dX6_costOfTold_12 rfl (by decide) wt_1171 uw_X6, rfl⟩⟩, t_ret dX6_costOfTold_15 rfl⟩
theorem ok_240_3 : BkOK mi i_240 (bpf P_240) 3 (B_240.getD 3 bk0) := ⟨17, ⟨1, s_aload_n dX6_costOfTold_16 rfl, rfl⟩, t_cv rfl mi_239 mok_239 rfl (fun _ => ⟨rfl, by decide +kernel⟩) (fun hs' e => by cases e; intro E n b h; cases h) (fun q fs As rest h hp hA hr => (call_V (i := i_240) (j := i_239) (C := RX6) (T := TX6) (N := 30) dX6_costOfTold_17 mok_239 rfl ⟨by decide, by decide⟩ np_239 rfl rfl wt_1595 wt_1597 ws_66 hp hA hr rfl).thr (fun _ => True.intro))⟩
theorem ok_240_4 : BkOK mi i_240 (bpf P_240) 4 (B_240.getD 4 bk0) := ⟨21, ⟨1, s_iconst dX6_costOfTold_20 rfl, rfl⟩, t_eq dX6_costOfTold_21 (by decide) rfl⟩
theorem ok_240_5 : BkOK mi i_240 (bpf P_240) 5 (B_240.getD 5 bk0) := ⟨26, ⟨2, s_bipush dX6_costOfTold_24 rfl, rfl⟩, t_ret dX6_costOfTold_26 rfl⟩
theorem ok_240_6 : BkOK mi i_240 (bpf P_240) 6 (B_240.getD 6 bk0) := ⟨31, ⟨1, s_iconst dX6_costOfTold_27 rfl, ⟨1, s_istore_n dX6_costOfTold_28 rfl (by decide), ⟨1, s_iconst dX6_costOfTold_29 rfl, ⟨1, s_istore_n dX6_costOfTold_30 rfl (by decide), rfl⟩⟩⟩⟩, t_fall rfl⟩
theorem ok_240_7 : BkOK mi i_240 (bpf P_240) 7 (B_240.getD 7 bk0) := ⟨33, ⟨1, s_iload_n dX6_costOfTold_31 rfl, ⟨1, s_aload_n dX6_costOfTold_32 rfl, rfl⟩⟩, t_cv rfl mi_182 mok_182 rfl (fun _ => ⟨rfl, by decide +kernel⟩) (fun hs' e => by cases e; intro E n b h; cases h) (fun q fs As rest h hp hA hr => (call_V (i := i_240) (j := i_182) (C := RX6) (T := TX6) (N := 30) dX6_costOfTold_33 mok_182 rfl ⟨by decide, by decide⟩ np_182 rfl rfl wt_1275 wt_1277 ws_16 hp hA hr rfl).thr (fun _ => True.intro))⟩
theorem ok_240_8 : BkOK mi i_240 (bpf P_240) 8 (B_240.getD 8 bk0) := ⟨36, rfl, t_ge dX6_costOfTold_36 (by decide) rfl⟩
theorem ok_240_9 : BkOK mi i_240 (bpf P_240) 9 (B_240.getD 9 bk0) := ⟨42, ⟨1, s_iload_n dX6_costOfTold_39 rfl, ⟨1, s_aload_n dX6_costOfTold_40 rfl, ⟨1, s_iload_n dX6_costOfTold_41 rfl, rfl⟩⟩⟩, t_cv rfl mi_238 mok_238 rfl (fun _ => ⟨rfl, by decide +kernel⟩) (fun hs' e => by cases e; intro E n b h; cases h) (fun q fs As rest h hp hA hr => (call_V (i := i_240) (j := i_238) (C := RX6) (T := TX6) (N := 30) dX6_costOfTold_42 mok_238 rfl ⟨by decide, by decide⟩ np_238 rfl rfl wt_1599 wt_1601 ws_67 hp hA hr rfl).thr (fun _ => True.intro))⟩
theorem ok_240_10 : BkOK mi i_240 (bpf P_240) 10 (B_240.getD 10 bk0) := ⟨46, ⟨1, s_iload_n dX6_costOfTold_45 rfl, rfl⟩, t_le0 dX6_costOfTold_46 (by decide) rfl⟩
theorem ok_240_11 : BkOK mi i_240 (bpf P_240) 11 (B_240.getD 11 bk0) := ⟨67, ⟨1, s_aload_n dX6_costOfTold_49 rfl, ⟨1, s_iload_n dX6_costOfTold_50 rfl, ⟨1, s_iconst dX6_costOfTold_51 rfl, ⟨1, s_isub dX6_costOfTold_52, ⟨1, s_aload_n dX6_costOfTold_53 rfl, ⟨3, s_get (C := RX6) (T := TX6) (N := 30) dX6_costOfTold_54 rfl (by decide) wt_1183 uw_X6, ⟨1, s_iload_n dX6_costOfTold_57 rfl, ⟨1, s_iconst dX6_costOfTold_58 rfl, ⟨1, s_isub dX6_costOfTold_59, ⟨1, s_iald dX6_costOfTold_60, ⟨1, s_aload_n dX6_costOfTold_61 rfl, ⟨3, s_get (C := RX6) (T := TX6) (N := 30) dX6_costOfTold_62 rfl (by decide) wt_1183 uw_X6, ⟨1, s_iload_n dX6_costOfTold_65 rfl, ⟨1, s_iald dX6_costOfTold_66, rfl⟩⟩⟩⟩⟩⟩⟩⟩⟩⟩⟩⟩⟩⟩, t_cv rfl mi_205 mok_205 rfl (fun _ => ⟨rfl, by decide +kernel⟩) (fun hs' e => by cases e; intro E n b h; cases h) (fun q fs As rest h hp hA hr => (call_V (i := i_240) (j := i_205) (C := RX6) (T := TX6) (N := 30) dX6_costOfTold_67 mok_205 rfl ⟨by decide, by decide⟩ np_205 rfl rfl wt_1502 wt_1504 ws_53 hp hA hr rfl).thr (fun _ => True.intro))⟩
theorem ok_240_12 : BkOK mi i_240 (bpf P_240) 12 (B_240.getD 12 bk0) := ⟨70, rfl, t_go dX6_costOfTold_70 (by decide)⟩
theorem ok_240_13 : BkOK mi i_240 (bpf P_240) 13 (B_240.getD 13 bk0) := ⟨74, ⟨1, s_iconst dX6_costOfTold_73 rfl, rfl⟩, t_fall rfl⟩
theorem ok_240_14 : BkOK mi i_240 (bpf P_240) 14 (B_240.getD 14 bk0) := ⟨80, ⟨1, s_iadd dX6_costOfTold_74, ⟨1, s_iadd dX6_costOfTold_75, ⟨1, s_istore_n dX6_costOfTold_76 rfl (by decide), ⟨3, s_iinc dX6_costOfTold_77 rfl (by decide), rfl⟩⟩⟩⟩, t_go dX6_costOfTold_80 (by decide)⟩
theorem ok_240_15 : BkOK mi i_240 (bpf P_240) 15 (B_240.getD 15 bk0) := ⟨84, ⟨1, s_iload_n dX6_costOfTold_83 rfl, rfl⟩, t_ret dX6_costOfTold_84 rfl⟩
theorem ok_240 : ∀ b, BkOK mi i_240 (bpf P_240) b (B_240.getD b bk0)
  | 0 => ok_240_0
  | 1 => ok_240_1
  | 2 => ok_240_2
  | 3 => ok_240_3
  | 4 => ok_240_4
  | 5 => ok_240_5
  | 6 => ok_240_6
  | 7 => ok_240_7
  | 8 => ok_240_8
  | 9 => ok_240_9
  | 10 => ok_240_10
  | 11 => ok_240_11
  | 12 => ok_240_12
  | 13 => ok_240_13
  | 14 => ok_240_14
  | 15 => ok_240_15
  | b + 16 => bk_none mi i_240 (bpf P_240) (b + 16)
theorem ok_241_0 : BkOK mi i_241 (bpf P_241) 0 (B_241.getD 0 bk0) := ⟨1, ⟨1, s_aload_n dX6_faultOfTold_0 rfl, rfl⟩, t_cv rfl mi_237 mok_237 rfl (fun _ => ⟨rfl, by decide +kernel⟩) (fun hs' e => by cases e; intro E n b h; cases h) (fun q fs As rest h hp hA hr => (call_V (i := i_241) (j := i_237) (C := RX6) (T := TX6) (N := 30) dX6_faultOfTold_1 mok_237 rfl ⟨by decide, by decide⟩ np_237 rfl rfl wt_1591 wt_1593 ws_65 hp hA hr rfl).thr (fun _ => True.intro))⟩
theorem ok_241_1 : BkOK mi i_241 (bpf P_241) 1 (B_241.getD 1 bk0) := ⟨8, ⟨1, s_aload_n dX6_faultOfTold_4 rfl, ⟨3, s_get (C := RX6) (T := TX6) (N := 30) dX6_faultOfTold_5 rfl (by decide) wt_1171 uw_X6, rfl⟩⟩, t_eq0 dX6_faultOfTold_8 (by decide) rfl⟩
theorem ok_241_2 : BkOK mi i_241 (bpf P_241) 2 (B_241.getD 2 bk0) := ⟨15, ⟨1, s_aload_n dX6_faultOfTold_11 rfl, ⟨3, s_get (C := RX6) (T := TX6) (N := 30) dX6_faultOfTold_12 rfl (by decide) wt_1171 uw_X6, rfl⟩⟩, t_ret dX6_faultOfTold_15 rfl⟩
theorem ok_241_3 : BkOK mi i_241 (bpf P_241) 3 (B_241.getD 3 bk0) := ⟨17, ⟨1, s_aload_n dX6_faultOfTold_16 rfl, rfl⟩, t_cv rfl mi_239 mok_239 rfl (fun _ => ⟨rfl, by decide +kernel⟩) (fun hs' e => by cases e; intro E n b h; cases h) (fun q fs As rest h hp hA hr => (call_V (i := i_241) (j := i_239) (C := RX6) (T := TX6) (N := 30) dX6_faultOfTold_17 mok_239 rfl ⟨by decide, by decide⟩ np_239 rfl rfl wt_1595 wt_1597 ws_66 hp hA hr rfl).thr (fun _ => True.intro))⟩
theorem ok_241_4 : BkOK mi i_241 (bpf P_241) 4 (B_241.getD 4 bk0) := ⟨23, ⟨1, s_istore_n dX6_faultOfTold_20 rfl (by decide), ⟨1, s_iload_n dX6_faultOfTold_21 rfl, ⟨1, s_iconst dX6_faultOfTold_22 rfl, rfl⟩⟩⟩, t_nei dX6_faultOfTold_23 (by decide) rfl⟩
theorem ok_241_5 : BkOK mi i_241 (bpf P_241) 5 (B_241.getD 5 bk0) := ⟨28, ⟨2, s_bipush dX6_faultOfTold_26 rfl, rfl⟩, t_go dX6_faultOfTold_28 (by decide)⟩
theorem ok_241_6 : BkOK mi i_241 (bpf P_241) 6 (B_241.getD 6 bk0) := ⟨32, ⟨1, s_iload_n dX6_faultOfTold_31 rfl, rfl⟩, t_fall rfl⟩
theorem ok_241_7 : BkOK mi i_241 (bpf P_241) 7 (B_241.getD 7 bk0) := ⟨32, rfl, t_ret dX6_faultOfTold_32 rfl⟩
theorem ok_241 : ∀ b, BkOK mi i_241 (bpf P_241) b (B_241.getD b bk0)
  | 0 => ok_241_0
  | 1 => ok_241_1
  | 2 => ok_241_2
  | 3 => ok_241_3
  | 4 => ok_241_4
  | 5 => ok_241_5
  | 6 => ok_241_6
  | 7 => ok_241_7
  | b + 8 => bk_none mi i_241 (bpf P_241) (b + 8)
theorem ok_242_0 : BkOK mi i_242 (bpf P_242) 0 (B_242.getD 0 bk0) := ⟨20, ⟨1, s_aload_n dX6_otherHand_0 rfl, ⟨1, s_iconst dX6_otherHand_1 rfl, ⟨3, s_put (C := RX6) (T := TX6) (N := 30) tyX6 tyX6_ok nmX6 dX6_otherHand_2 rfl (by decide) rfl (tyX6_ok 7 (by decide)) wt_1164 uw_X6, ⟨1, s_aload_n dX6_otherHand_5 rfl, ⟨3, s_get (C := RX6) (T := TX6) (N := 30) dX6_otherHand_6 rfl (by decide) wt_1157 uw_X6, ⟨1, s_iconst dX6_otherHand_9 rfl, ⟨1, s_iconst dX6_otherHand_10 rfl, ⟨1, s_aload_n dX6_otherHand_11 rfl, ⟨3, s_get (C := RX6) (T := TX6) (N := 30) dX6_otherHand_12 rfl (by decide) wt_1157 uw_X6, ⟨1, s_iconst dX6_otherHand_15 rfl, ⟨1, s_iald dX6_otherHand_16, ⟨1, s_isub dX6_otherHand_17, ⟨1, s_iast dX6_otherHand_18, ⟨1, s_aload_n dX6_otherHand_19 rfl, rfl⟩⟩⟩⟩⟩⟩⟩⟩⟩⟩⟩⟩⟩⟩, t_cv rfl mi_212 mok_212 rfl (fun _ => ⟨rfl, by decide +kernel⟩) (fun hs' e => by cases e; intro E n b h; cases h) (fun q fs As rest h hp hA hr => (call_V (i := i_242) (j := i_212) (C := RX6) (T := TX6) (N := 30) dX6_otherHand_20 mok_212 rfl ⟨by decide, by decide⟩ np_212 rfl rfl wt_1489 wt_1491 ws_50 hp hA hr rfl).thr (fun _ => True.intro))⟩
theorem ok_242_1 : BkOK mi i_242 (bpf P_242) 1 (B_242.getD 1 bk0) := ⟨39, ⟨1, s_istore_n dX6_otherHand_23 rfl (by decide), ⟨1, s_aload_n dX6_otherHand_24 rfl, ⟨3, s_get (C := RX6) (T := TX6) (N := 30) dX6_otherHand_25 rfl (by decide) wt_1157 uw_X6, ⟨1, s_iconst dX6_otherHand_28 rfl, ⟨1, s_iconst dX6_otherHand_29 rfl, ⟨1, s_aload_n dX6_otherHand_30 rfl, ⟨3, s_get (C := RX6) (T := TX6) (N := 30) dX6_otherHand_31 rfl (by decide) wt_1157 uw_X6, ⟨1, s_iconst dX6_otherHand_34 rfl, ⟨1, s_iald dX6_otherHand_35, ⟨1, s_isub dX6_otherHand_36, ⟨1, s_iast dX6_otherHand_37, ⟨1, s_iload_n dX6_otherHand_38 rfl, rfl⟩⟩⟩⟩⟩⟩⟩⟩⟩⟩⟩⟩, t_cs rfl mi_213 mok_213 rfl (fun As rest h hA hr => call_S dX6_otherHand_39 mok_213 rfl ⟨by decide, by decide⟩ np_213 wt_1524 wt_1525 hA hr)⟩
theorem ok_242_2 : BkOK mi i_242 (bpf P_242) 2 (B_242.getD 2 bk0) := ⟨42, rfl, t_ret dX6_otherHand_42 rfl⟩
theorem ok_242 : ∀ b, BkOK mi i_242 (bpf P_242) b (B_242.getD b bk0)
  | 0 => ok_242_0
  | 1 => ok_242_1
  | 2 => ok_242_2
  | b + 3 => bk_none mi i_242 (bpf P_242) (b + 3)
theorem ok_243_0 : BkOK mi i_243 (bpf P_243) 0 (B_243.getD 0 bk0) := ⟨5, ⟨1, s_iload_n dX6_canMove_0 rfl, ⟨2, s_bipush dX6_canMove_1 rfl, ⟨2, s_bipush dX6_canMove_3 rfl, rfl⟩⟩⟩, t_cs rfl mi_157 mok_157 rfl (fun As rest h hA hr => call_S dX6_canMove_5 mok_157 rfl ⟨by decide, by decide⟩ np_157 wt_1264 wt_1265 hA hr)⟩
theorem ok_243_1 : BkOK mi i_243 (bpf P_243) 1 (B_243.getD 1 bk0) := ⟨8, rfl, t_eq0 dX6_canMove_8 (by decide) rfl⟩
theorem ok_243_2 : BkOK mi i_243 (bpf P_243) 2 (B_243.getD 2 bk0) := ⟨12, ⟨1, s_aload_n dX6_canMove_11 rfl, rfl⟩, t_cv rfl mi_182 mok_182 rfl (fun _ => ⟨rfl, by decide +kernel⟩) (fun hs' e => by cases e; intro E n b h; cases h) (fun q fs As rest h hp hA hr => (call_V (i := i_243) (j := i_182) (C := RX6) (T := TX6) (N := 30) dX6_canMove_12 mok_182 rfl ⟨by decide, by decide⟩ np_182 rfl rfl wt_1275 wt_1277 ws_16 hp hA hr rfl).thr (fun _ => True.intro))⟩
theorem ok_243_3 : BkOK mi i_243 (bpf P_243) 3 (B_243.getD 3 bk0) := ⟨15, rfl, t_eq0 dX6_canMove_15 (by decide) rfl⟩
theorem ok_243_4 : BkOK mi i_243 (bpf P_243) 4 (B_243.getD 4 bk0) := ⟨20, ⟨1, s_aload_n dX6_canMove_18 rfl, ⟨1, s_iconst dX6_canMove_19 rfl, rfl⟩⟩, t_cv rfl mi_216 mok_216 rfl (fun _ => ⟨rfl, by decide +kernel⟩) (fun hs' e => by cases e; intro E n b h; cases h) (fun q fs As rest h hp hA hr => (call_V (i := i_243) (j := i_216) (C := RX6) (T := TX6) (N := 30) dX6_canMove_20 mok_216 rfl ⟨by decide, by decide⟩ np_216 rfl rfl wt_1385 wt_1387 ws_33 hp hA hr rfl).thr (fun _ => True.intro))⟩
theorem ok_243_5 : BkOK mi i_243 (bpf P_243) 5 (B_243.getD 5 bk0) := ⟨25, ⟨1, s_iload_n dX6_canMove_23 rfl, ⟨1, s_iadd dX6_canMove_24, rfl⟩⟩, t_cs rfl mi_224 mok_224 rfl (fun As rest h hA hr => call_S dX6_canMove_25 mok_224 rfl ⟨by decide, by decide⟩ np_224 wt_1478 wt_1479 hA hr)⟩
theorem ok_243_6 : BkOK mi i_243 (bpf P_243) 6 (B_243.getD 6 bk0) := ⟨28, rfl, t_eq0 dX6_canMove_28 (by decide) rfl⟩
theorem ok_243_7 : BkOK mi i_243 (bpf P_243) 7 (B_243.getD 7 bk0) := ⟨33, ⟨1, s_aload_n dX6_canMove_31 rfl, ⟨1, s_iconst dX6_canMove_32 rfl, rfl⟩⟩, t_cv rfl mi_216 mok_216 rfl (fun _ => ⟨rfl, by decide +kernel⟩) (fun hs' e => by cases e; intro E n b h; cases h) (fun q fs As rest h hp hA hr => (call_V (i := i_243) (j := i_216) (C := RX6) (T := TX6) (N := 30) dX6_canMove_33 mok_216 rfl ⟨by decide, by decide⟩ np_216 rfl rfl wt_1385 wt_1387 ws_33 hp hA hr rfl).thr (fun _ => True.intro))⟩
theorem ok_243_8 : BkOK mi i_243 (bpf P_243) 8 (B_243.getD 8 bk0) := ⟨38, ⟨1, s_iload_n dX6_canMove_36 rfl, ⟨1, s_iadd dX6_canMove_37, rfl⟩⟩, t_cs rfl mi_224 mok_224 rfl (fun As rest h hA hr => call_S dX6_canMove_38 mok_224 rfl ⟨by decide, by decide⟩ np_224 wt_1478 wt_1479 hA hr)⟩
theorem ok_243_9 : BkOK mi i_243 (bpf P_243) 9 (B_243.getD 9 bk0) := ⟨41, rfl, t_eq0 dX6_canMove_41 (by decide) rfl⟩
theorem ok_243_10 : BkOK mi i_243 (bpf P_243) 10 (B_243.getD 10 bk0) := ⟨45, ⟨1, s_iconst dX6_canMove_44 rfl, rfl⟩, t_go dX6_canMove_45 (by decide)⟩
theorem ok_243_11 : BkOK mi i_243 (bpf P_243) 11 (B_243.getD 11 bk0) := ⟨49, ⟨1, s_iconst dX6_canMove_48 rfl, rfl⟩, t_fall rfl⟩
theorem ok_243_12 : BkOK mi i_243 (bpf P_243) 12 (B_243.getD 12 bk0) := ⟨49, rfl, t_retZ dX6_canMove_49 rfl⟩
theorem ok_243 : ∀ b, BkOK mi i_243 (bpf P_243) b (B_243.getD b bk0)
  | 0 => ok_243_0
  | 1 => ok_243_1
  | 2 => ok_243_2
  | 3 => ok_243_3
  | 4 => ok_243_4
  | 5 => ok_243_5
  | 6 => ok_243_6
  | 7 => ok_243_7
  | 8 => ok_243_8
  | 9 => ok_243_9
  | 10 => ok_243_10
  | 11 => ok_243_11
  | 12 => ok_243_12
  | b + 13 => bk_none mi i_243 (bpf P_243) (b + 13)
theorem ok_244_0 : BkOK mi i_244 (bpf P_244) 0 (B_244.getD 0 bk0) := ⟨2, ⟨1, s_iconst dX6_moves_0 rfl, ⟨1, s_istore_n dX6_moves_1 rfl (by decide), rfl⟩⟩, t_fall rfl⟩
theorem ok_244_1 : BkOK mi i_244 (bpf P_244) 1 (B_244.getD 1 bk0) := ⟨4, ⟨1, s_iload_n dX6_moves_2 rfl, ⟨1, s_aload_n dX6_moves_3 rfl, rfl⟩⟩, t_cv rfl mi_182 mok_182 rfl (fun _ => ⟨rfl, by decide +kernel⟩) (fun hs' e => by cases e; intro E n b h; cases h) (fun q fs As rest h hp hA hr => (call_V (i := i_244) (j := i_182) (C := RX6) (T := TX6) (N := 30) dX6_moves_4 mok_182 rfl ⟨by decide, by decide⟩ np_182 rfl rfl wt_1275 wt_1277 ws_16 hp hA hr rfl).thr (fun _ => True.intro))⟩
theorem ok_244_2 : BkOK mi i_244 (bpf P_244) 2 (B_244.getD 2 bk0) := ⟨7, rfl, t_ge dX6_moves_7 (by decide) rfl⟩
theorem ok_244_3 : BkOK mi i_244 (bpf P_244) 3 (B_244.getD 3 bk0) := ⟨12, ⟨1, s_iconst dX6_moves_10 rfl, ⟨1, s_istore_n dX6_moves_11 rfl (by decide), rfl⟩⟩, t_fall rfl⟩
theorem ok_244_4 : BkOK mi i_244 (bpf P_244) 4 (B_244.getD 4 bk0) := ⟨15, ⟨1, s_iload_n dX6_moves_12 rfl, ⟨1, s_aload_n dX6_moves_13 rfl, ⟨1, s_iload_n dX6_moves_14 rfl, rfl⟩⟩⟩, t_cv rfl mi_183 mok_183 rfl (fun _ => ⟨rfl, by decide +kernel⟩) (fun hs' e => by cases e; intro E n b h; cases h) (fun q fs As rest h hp hA hr => (call_V (i := i_244) (j := i_183) (C := RX6) (T := TX6) (N := 30) dX6_moves_15 mok_183 rfl ⟨by decide, by decide⟩ np_183 rfl rfl wt_1381 wt_1383 ws_32 hp hA hr rfl).thr (fun _ => True.intro))⟩
theorem ok_244_5 : BkOK mi i_244 (bpf P_244) 5 (B_244.getD 5 bk0) := ⟨18, rfl, t_ge dX6_moves_18 (by decide) rfl⟩
theorem ok_244_6 : BkOK mi i_244 (bpf P_244) 6 (B_244.getD 6 bk0) := ⟨44, ⟨1, s_aload_n dX6_moves_21 rfl, ⟨3, s_get (C := RX6) (T := TX6) (N := 30) dX6_moves_22 rfl (by decide) wt_1157 uw_X6, ⟨2, s_bipush dX6_moves_25 rfl, ⟨2, s_bipush dX6_moves_27 rfl, ⟨1, s_iload_n dX6_moves_29 rfl, ⟨1, s_imul dX6_moves_30, ⟨1, s_iadd dX6_moves_31, ⟨1, s_iconst dX6_moves_32 rfl, ⟨1, s_iadd dX6_moves_33, ⟨1, s_iload_n dX6_moves_34 rfl, ⟨1, s_iadd dX6_moves_35, ⟨1, s_dup2 dX6_moves_36, ⟨1, s_iald dX6_moves_37, ⟨1, s_iload_n dX6_moves_38 rfl, ⟨1, s_iadd dX6_moves_39, ⟨1, s_iast dX6_moves_40, ⟨3, s_iinc dX6_moves_41 rfl (by decide), rfl⟩⟩⟩⟩⟩⟩⟩⟩⟩⟩⟩⟩⟩⟩⟩⟩⟩, t_go dX6_moves_44 (by decide)⟩
theorem ok_244_7 : BkOK mi i_244 (bpf P_244) 7 (B_244.getD 7 bk0) := ⟨50, ⟨3, s_iinc dX6_moves_47 rfl (by decide), rfl⟩, t_go dX6_moves_50 (by decide)⟩
theorem ok_244_8 : BkOK mi i_244 (bpf P_244) 8 (B_244.getD 8 bk0) := ⟨53, rfl, t_retV dX6_moves_53 rfl⟩
theorem ok_244 : ∀ b, BkOK mi i_244 (bpf P_244) b (B_244.getD b bk0)
  | 0 => ok_244_0
  | 1 => ok_244_1
  | 2 => ok_244_2
  | 3 => ok_244_3
  | 4 => ok_244_4
  | 5 => ok_244_5
  | 6 => ok_244_6
  | 7 => ok_244_7
  | 8 => ok_244_8
  | b + 9 => bk_none mi i_244 (bpf P_244) (b + 9)
theorem ok_245_0 : BkOK mi i_245 (bpf P_245) 0 (B_245.getD 0 bk0) := ⟨2, ⟨1, s_aload_n dX6_bestMoved_0 rfl, ⟨1, s_iload_n dX6_bestMoved_1 rfl, rfl⟩⟩, t_cv rfl mi_244 mok_244 rfl (fun _ => ⟨rfl, by decide +kernel⟩) (fun hs' e => by cases e; intro E n b h; cases h) (fun q fs As rest h hp hA hr => (call_V (i := i_245) (j := i_244) (C := RX6) (T := TX6) (N := 30) dX6_bestMoved_2 mok_244 rfl ⟨by decide, by decide⟩ np_244 rfl rfl wt_1623 wt_1625 ws_70 hp hA hr rfl).thr (fun _ => True.intro))⟩
theorem ok_245_1 : BkOK mi i_245 (bpf P_245) 1 (B_245.getD 1 bk0) := ⟨6, ⟨1, s_aload_n dX6_bestMoved_5 rfl, rfl⟩, t_cv rfl mi_212 mok_212 rfl (fun _ => ⟨rfl, by decide +kernel⟩) (fun hs' e => by cases e; intro E n b h; cases h) (fun q fs As rest h hp hA hr => (call_V (i := i_245) (j := i_212) (C := RX6) (T := TX6) (N := 30) dX6_bestMoved_6 mok_212 rfl ⟨by decide, by decide⟩ np_212 rfl rfl wt_1489 wt_1491 ws_50 hp hA hr rfl).thr (fun _ => True.intro))⟩
theorem ok_245_2 : BkOK mi i_245 (bpf P_245) 2 (B_245.getD 2 bk0) := ⟨13, ⟨1, s_istore_n dX6_bestMoved_9 rfl (by decide), ⟨1, s_aload_n dX6_bestMoved_10 rfl, ⟨1, s_iload_n dX6_bestMoved_11 rfl, ⟨1, s_ineg dX6_bestMoved_12, rfl⟩⟩⟩⟩, t_cv rfl mi_244 mok_244 rfl (fun _ => ⟨rfl, by decide +kernel⟩) (fun hs' e => by cases e; intro E n b h; cases h) (fun q fs As rest h hp hA hr => (call_V (i := i_245) (j := i_244) (C := RX6) (T := TX6) (N := 30) dX6_bestMoved_13 mok_244 rfl ⟨by decide, by decide⟩ np_244 rfl rfl wt_1623 wt_1625 ws_70 hp hA hr rfl).thr (fun _ => True.intro))⟩
theorem ok_245_3 : BkOK mi i_245 (bpf P_245) 3 (B_245.getD 3 bk0) := ⟨17, ⟨1, s_iload_n dX6_bestMoved_16 rfl, rfl⟩, t_ret dX6_bestMoved_17 rfl⟩
theorem ok_245 : ∀ b, BkOK mi i_245 (bpf P_245) b (B_245.getD b bk0)
  | 0 => ok_245_0
  | 1 => ok_245_1
  | 2 => ok_245_2
  | 3 => ok_245_3
  | b + 4 => bk_none mi i_245 (bpf P_245) (b + 4)
