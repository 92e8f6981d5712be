theorem ok_180_0 : BkOK mi i_180 (bpf P_180) 0 (B_180.getD 0 bk0) := ⟨10, ⟨1, s_aload_n dX6_load_0 rfl, ⟨3, s_get (C := RX6) (T := TX6) (N := 30) dX6_load_1 rfl (by decide) wt_1158 uw_X6, ⟨1, s_iconst dX6_load_4 rfl, ⟨1, s_aload_n dX6_load_5 rfl, ⟨3, s_get (C := RX6) (T := TX6) (N := 30) dX6_load_6 rfl (by decide) wt_1157 uw_X6, ⟨1, s_iconst dX6_load_9 rfl, rfl⟩⟩⟩⟩⟩⟩, t_cs rfl mi_158 mok_158 rfl (fun As rest h hA hr => call_S dX6_load_10 mok_158 rfl ⟨by decide, by decide⟩ np_158 wt_1257 wt_1258 hA hr)⟩
theorem ok_180_1 : BkOK mi i_180 (bpf P_180) 1 (B_180.getD 1 bk0) := ⟨14, ⟨1, s_aload_n dX6_load_13 rfl, rfl⟩, t_cv rfl mi_154 mok_154 rfl (fun _ => ⟨rfl, by decide +kernel⟩) (fun hs' e => by cases e; intro E n b h; cases h) (fun q fs As rest h hp hA hr => (call_V (i := i_180) (j := i_154) (C := RX6) (T := TX6) (N := 30) dX6_load_14 mok_154 rfl ⟨by decide, by decide⟩ np_154 rfl rfl wt_1140 wt_1142 ws_12 hp hA hr rfl).thr (fun _ => True.intro))⟩
theorem ok_180_2 : BkOK mi i_180 (bpf P_180) 2 (B_180.getD 2 bk0) := ⟨18, ⟨1, s_aload_n dX6_load_17 rfl, rfl⟩, t_cv rfl mi_169 mok_169 rfl (fun _ => ⟨rfl, by decide +kernel⟩) (fun hs' e => by cases e; intro E n b h; cases h) (fun q fs As rest h hp hA hr => (call_V (i := i_180) (j := i_169) (C := RX6) (T := TX6) (N := 30) dX6_load_18 mok_169 rfl ⟨by decide, by decide⟩ np_169 rfl rfl wt_1290 wt_1292 ws_17 hp hA hr rfl).thr (fun _ => True.intro))⟩
theorem ok_180_3 : BkOK mi i_180 (bpf P_180) 3 (B_180.getD 3 bk0) := ⟨25, ⟨1, s_aload_n dX6_load_21 rfl, ⟨1, s_aload_n dX6_load_22 rfl, ⟨2, s_ldcS (tx := "hand") dX6_load_23 (by decide +kernel) (by decide), rfl⟩⟩⟩, t_cv rfl mi_171 mok_171 rfl (fun _ => ⟨rfl, by decide +kernel⟩) (fun hs' e => by cases e; intro E n b h; cases h) (fun q fs As rest h hp hA hr => (call_V (i := i_180) (j := i_171) (C := RX6) (T := TX6) (N := 30) dX6_load_25 mok_171 rfl ⟨by decide, by decide⟩ np_171 rfl rfl wt_1311 wt_1313 ws_22 hp hA hr rfl).thr (fun _ => True.intro))⟩
theorem ok_180_4 : BkOK mi i_180 (bpf P_180) 4 (B_180.getD 4 bk0) := ⟨28, rfl, t_cv rfl mi_173 mok_173 rfl (fun _ => ⟨rfl, by decide +kernel⟩) (fun hs' e => by cases e; intro E n b h; cases h) (fun q fs As rest h hp hA hr => (call_V (i := i_180) (j := i_173) (C := RX6) (T := TX6) (N := 30) dX6_load_28 mok_173 rfl ⟨by decide, by decide⟩ np_173 rfl rfl wt_1317 wt_1319 ws_23 hp hA hr rfl).thr (fun _ => True.intro))⟩
theorem ok_180_5 : BkOK mi i_180 (bpf P_180) 5 (B_180.getD 5 bk0) := ⟨39, ⟨1, s_aload_n dX6_load_31 rfl, ⟨3, s_get (C := RX6) (T := TX6) (N := 30) dX6_load_32 rfl (by decide) wt_1157 uw_X6, ⟨1, s_iconst dX6_load_35 rfl, ⟨1, s_aload_n dX6_load_36 rfl, ⟨2, s_ldcS (tx := "right") dX6_load_37 (by decide +kernel) (by decide), rfl⟩⟩⟩⟩⟩, t_cv rfl mi_171 mok_171 rfl (fun _ => ⟨rfl, by decide +kernel⟩) (fun hs' e => by cases e; intro E n b h; cases h) (fun q fs As rest h hp hA hr => (call_V (i := i_180) (j := i_171) (C := RX6) (T := TX6) (N := 30) dX6_load_39 mok_171 rfl ⟨by decide, by decide⟩ np_171 rfl rfl wt_1311 wt_1313 ws_22 hp hA hr rfl).thr (fun _ => True.intro))⟩
theorem ok_180_6 : BkOK mi i_180 (bpf P_180) 6 (B_180.getD 6 bk0) := ⟨42, rfl, t_eq0 dX6_load_42 (by decide) rfl⟩
theorem ok_180_7 : BkOK mi i_180 (bpf P_180) 7 (B_180.getD 7 bk0) := ⟨46, ⟨1, s_iconst dX6_load_45 rfl, rfl⟩, t_go dX6_load_46 (by decide)⟩
theorem ok_180_8 : BkOK mi i_180 (bpf P_180) 8 (B_180.getD 8 bk0) := ⟨50, ⟨1, s_iconst dX6_load_49 rfl, rfl⟩, t_fall rfl⟩
theorem ok_180_9 : BkOK mi i_180 (bpf P_180) 9 (B_180.getD 9 bk0) := ⟨55, ⟨1, s_iast dX6_load_50, ⟨1, s_aload_n dX6_load_51 rfl, ⟨1, s_aload_n dX6_load_52 rfl, ⟨2, s_ldcS (tx := "right") dX6_load_53 (by decide +kernel) (by decide), rfl⟩⟩⟩⟩, t_cv rfl mi_171 mok_171 rfl (fun _ => ⟨rfl, by decide +kernel⟩) (fun hs' e => by cases e; intro E n b h; cases h) (fun q fs As rest h hp hA hr => (call_V (i := i_180) (j := i_171) (C := RX6) (T := TX6) (N := 30) dX6_load_55 mok_171 rfl ⟨by decide, by decide⟩ np_171 rfl rfl wt_1311 wt_1313 ws_22 hp hA hr rfl).thr (fun _ => True.intro))⟩
theorem ok_180_10 : BkOK mi i_180 (bpf P_180) 10 (B_180.getD 10 bk0) := ⟨58, rfl, t_ne0 dX6_load_58 (by decide) rfl⟩
theorem ok_180_11 : BkOK mi i_180 (bpf P_180) 11 (B_180.getD 11 bk0) := ⟨64, ⟨1, s_aload_n dX6_load_61 rfl, ⟨2, s_ldcS (tx := "left") dX6_load_62 (by decide +kernel) (by decide), rfl⟩⟩, t_cv rfl mi_171 mok_171 rfl (fun _ => ⟨rfl, by decide +kernel⟩) (fun hs' e => by cases e; intro E n b h; cases h) (fun q fs As rest h hp hA hr => (call_V (i := i_180) (j := i_171) (C := RX6) (T := TX6) (N := 30) dX6_load_64 mok_171 rfl ⟨by decide, by decide⟩ np_171 rfl rfl wt_1311 wt_1313 ws_22 hp hA hr rfl).thr (fun _ => True.intro))⟩
theorem ok_180_12 : BkOK mi i_180 (bpf P_180) 12 (B_180.getD 12 bk0) := ⟨67, rfl, t_eq0 dX6_load_67 (by decide) rfl⟩
theorem ok_180_13 : BkOK mi i_180 (bpf P_180) 13 (B_180.getD 13 bk0) := ⟨71, ⟨1, s_iconst dX6_load_70 rfl, rfl⟩, t_go dX6_load_71 (by decide)⟩
theorem ok_180_14 : BkOK mi i_180 (bpf P_180) 14 (B_180.getD 14 bk0) := ⟨75, ⟨1, s_iconst dX6_load_74 rfl, rfl⟩, t_fall rfl⟩
theorem ok_180_15 : BkOK mi i_180 (bpf P_180) 15 (B_180.getD 15 bk0) := ⟨75, rfl, t_cv rfl mi_173 mok_173 rfl (fun _ => ⟨rfl, by decide +kernel⟩) (fun hs' e => by cases e; intro E n b h; cases h) (fun q fs As rest h hp hA hr => (call_V (i := i_180) (j := i_173) (C := RX6) (T := TX6) (N := 30) dX6_load_75 mok_173 rfl ⟨by decide, by decide⟩ np_173 rfl rfl wt_1317 wt_1319 ws_23 hp hA hr rfl).thr (fun _ => True.intro))⟩
theorem ok_180_16 : BkOK mi i_180 (bpf P_180) 16 (B_180.getD 16 bk0) := ⟨79, ⟨1, s_aload_n dX6_load_78 rfl, rfl⟩, t_cv rfl mi_174 mok_174 rfl (fun _ => ⟨rfl, by decide +kernel⟩) (fun hs' e => by cases e; intro E n b h; cases h) (fun q fs As rest h hp hA hr => (call_V (i := i_180) (j := i_174) (C := RX6) (T := TX6) (N := 30) dX6_load_79 mok_174 rfl ⟨by decide, by decide⟩ np_174 rfl rfl wt_1327 wt_1329 ws_25 hp hA hr rfl).thr (fun _ => True.intro))⟩
theorem ok_180_17 : BkOK mi i_180 (bpf P_180) 17 (B_180.getD 17 bk0) := ⟨85, ⟨1, s_aload_n dX6_load_82 rfl, ⟨2, s_ldcS (tx := "weight") dX6_load_83 (by decide +kernel) (by decide), rfl⟩⟩, t_cv rfl mi_171 mok_171 rfl (fun _ => ⟨rfl, by decide +kernel⟩) (fun hs' e => by cases e; intro E n b h; cases h) (fun q fs As rest h hp hA hr => (call_V (i := i_180) (j := i_171) (C := RX6) (T := TX6) (N := 30) dX6_load_85 mok_171 rfl ⟨by decide, by decide⟩ np_171 rfl rfl wt_1311 wt_1313 ws_22 hp hA hr rfl).thr (fun _ => True.intro))⟩
theorem ok_180_18 : BkOK mi i_180 (bpf P_180) 18 (B_180.getD 18 bk0) := ⟨88, rfl, t_eq0 dX6_load_88 (by decide) rfl⟩
theorem ok_180_19 : BkOK mi i_180 (bpf P_180) 19 (B_180.getD 19 bk0) := ⟨92, ⟨1, s_aload_n dX6_load_91 rfl, rfl⟩, t_cv rfl mi_177 mok_177 rfl (fun _ => ⟨rfl, by decide +kernel⟩) (fun hs' e => by cases e; intro E n b h; cases h) (fun q fs As rest h hp hA hr => (call_V (i := i_180) (j := i_177) (C := RX6) (T := TX6) (N := 30) dX6_load_92 mok_177 rfl ⟨by decide, by decide⟩ np_177 rfl rfl wt_1332 wt_1334 ws_26 hp hA hr rfl).thr (fun _ => True.intro))⟩
theorem ok_180_20 : BkOK mi i_180 (bpf P_180) 20 (B_180.getD 20 bk0) := ⟨95, rfl, t_go dX6_load_95 (by decide)⟩
theorem ok_180_21 : BkOK mi i_180 (bpf P_180) 21 (B_180.getD 21 bk0) := ⟨101, ⟨1, s_aload_n dX6_load_98 rfl, ⟨2, s_ldcS (tx := "span") dX6_load_99 (by decide +kernel) (by decide), rfl⟩⟩, t_cv rfl mi_171 mok_171 rfl (fun _ => ⟨rfl, by decide +kernel⟩) (fun hs' e => by cases e; intro E n b h; cases h) (fun q fs As rest h hp hA hr => (call_V (i := i_180) (j := i_171) (C := RX6) (T := TX6) (N := 30) dX6_load_101 mok_171 rfl ⟨by decide, by decide⟩ np_171 rfl rfl wt_1311 wt_1313 ws_22 hp hA hr rfl).thr (fun _ => True.intro))⟩
theorem ok_180_22 : BkOK mi i_180 (bpf P_180) 22 (B_180.getD 22 bk0) := ⟨104, rfl, t_eq0 dX6_load_104 (by decide) rfl⟩
theorem ok_180_23 : BkOK mi i_180 (bpf P_180) 23 (B_180.getD 23 bk0) := ⟨108, ⟨1, s_aload_n dX6_load_107 rfl, rfl⟩, t_cv rfl mi_178 mok_178 rfl (fun _ => ⟨rfl, by decide +kernel⟩) (fun hs' e => by cases e; intro E n b h; cases h) (fun q fs As rest h hp hA hr => (call_V (i := i_180) (j := i_178) (C := RX6) (T := TX6) (N := 30) dX6_load_108 mok_178 rfl ⟨by decide, by decide⟩ np_178 rfl rfl wt_1354 wt_1356 ws_28 hp hA hr rfl).thr (fun _ => True.intro))⟩
theorem ok_180_24 : BkOK mi i_180 (bpf P_180) 24 (B_180.getD 24 bk0) := ⟨111, rfl, t_go dX6_load_111 (by decide)⟩
theorem ok_180_25 : BkOK mi i_180 (bpf P_180) 25 (B_180.getD 25 bk0) := ⟨117, ⟨1, s_aload_n dX6_load_114 rfl, ⟨2, s_ldcS (tx := "play") dX6_load_115 (by decide +kernel) (by decide), rfl⟩⟩, t_cv rfl mi_171 mok_171 rfl (fun _ => ⟨rfl, by decide +kernel⟩) (fun hs' e => by cases e; intro E n b h; cases h) (fun q fs As rest h hp hA hr => (call_V (i := i_180) (j := i_171) (C := RX6) (T := TX6) (N := 30) dX6_load_117 mok_171 rfl ⟨by decide, by decide⟩ np_171 rfl rfl wt_1311 wt_1313 ws_22 hp hA hr rfl).thr (fun _ => True.intro))⟩
theorem ok_180_26 : BkOK mi i_180 (bpf P_180) 26 (B_180.getD 26 bk0) := ⟨120, rfl, t_eq0 dX6_load_120 (by decide) rfl⟩
theorem ok_180_27 : BkOK mi i_180 (bpf P_180) 27 (B_180.getD 27 bk0) := ⟨124, ⟨1, s_aload_n dX6_load_123 rfl, rfl⟩, t_cv rfl mi_179 mok_179 rfl (fun _ => ⟨rfl, by decide +kernel⟩) (fun hs' e => by cases e; intro E n b h; cases h) (fun q fs As rest h hp hA hr => (call_V (i := i_180) (j := i_179) (C := RX6) (T := TX6) (N := 30) dX6_load_124 mok_179 rfl ⟨by decide, by decide⟩ np_179 rfl rfl wt_1359 wt_1361 ws_29 hp hA hr rfl).thr (fun _ => True.intro))⟩
theorem ok_180_28 : BkOK mi i_180 (bpf P_180) 28 (B_180.getD 28 bk0) := ⟨127, rfl, t_go dX6_load_127 (by decide)⟩
theorem ok_180_29 : BkOK mi i_180 (bpf P_180) 29 (B_180.getD 29 bk0) := ⟨134, ⟨1, s_aload_n dX6_load_130 rfl, ⟨3, s_get (C := RX6) (T := TX6) (N := 30) dX6_load_131 rfl (by decide) wt_1171 uw_X6, rfl⟩⟩, t_ne0 dX6_load_134 (by decide) rfl⟩
theorem ok_180_30 : BkOK mi i_180 (bpf P_180) 30 (B_180.getD 30 bk0) := ⟨142, ⟨1, s_aload_n dX6_load_137 rfl, ⟨3, s_get (C := RX6) (T := TX6) (N := 30) dX6_load_138 rfl (by decide) wt_1169 uw_X6, ⟨1, s_iconst dX6_load_141 rfl, rfl⟩⟩⟩, t_eq dX6_load_142 (by decide) rfl⟩
theorem ok_180_31 : BkOK mi i_180 (bpf P_180) 31 (B_180.getD 31 bk0) := ⟨148, ⟨1, s_aload_n dX6_load_145 rfl, ⟨2, s_bipush dX6_load_146 rfl, rfl⟩⟩, t_cv rfl mi_172 mok_172 rfl (fun _ => ⟨rfl, by decide +kernel⟩) (fun hs' e => by cases e; intro E n b h; cases h) (fun q fs As rest h hp hA hr => (call_V (i := i_180) (j := i_172) (C := RX6) (T := TX6) (N := 30) dX6_load_148 mok_172 rfl ⟨by decide, by decide⟩ np_172 rfl rfl wt_1321 wt_1323 ws_24 hp hA hr rfl).thr (fun _ => True.intro))⟩
theorem ok_180_32 : BkOK mi i_180 (bpf P_180) 32 (B_180.getD 32 bk0) := ⟨152, ⟨1, s_aload_n dX6_load_151 rfl, rfl⟩, t_cv rfl mi_170 mok_170 rfl (fun _ => ⟨rfl, by decide +kernel⟩) (fun hs' e => by cases e; intro E n b h; cases h) (fun q fs As rest h hp hA hr => (call_V (i := i_180) (j := i_170) (C := RX6) (T := TX6) (N := 30) dX6_load_152 mok_170 rfl ⟨by decide, by decide⟩ np_170 rfl rfl wt_1365 wt_1367 ws_30 hp hA hr rfl).thr (fun _ => True.intro))⟩
theorem ok_180_33 : BkOK mi i_180 (bpf P_180) 33 (B_180.getD 33 bk0) := ⟨159, ⟨1, s_aload_n dX6_load_155 rfl, ⟨3, s_get (C := RX6) (T := TX6) (N := 30) dX6_load_156 rfl (by decide) wt_1171 uw_X6, rfl⟩⟩, t_eq0 dX6_load_159 (by decide) rfl⟩
theorem ok_180_34 : BkOK mi i_180 (bpf P_180) 34 (B_180.getD 34 bk0) := ⟨172, ⟨1, s_aload_n dX6_load_162 rfl, ⟨3, s_get (C := RX6) (T := TX6) (N := 30) dX6_load_163 rfl (by decide) wt_1157 uw_X6, ⟨1, s_iconst dX6_load_166 rfl, ⟨1, s_aload_n dX6_load_167 rfl, ⟨3, s_get (C := RX6) (T := TX6) (N := 30) dX6_load_168 rfl (by decide) wt_1158 uw_X6, ⟨1, s_iconst dX6_load_171 rfl, rfl⟩⟩⟩⟩⟩⟩, t_cs rfl mi_158 mok_158 rfl (fun As rest h hA hr => call_S dX6_load_172 mok_158 rfl ⟨by decide, by decide⟩ np_158 wt_1257 wt_1258 hA hr)⟩
theorem ok_180_35 : BkOK mi i_180 (bpf P_180) 35 (B_180.getD 35 bk0) := ⟨179, ⟨1, s_aload_n dX6_load_175 rfl, ⟨3, s_get (C := RX6) (T := TX6) (N := 30) dX6_load_176 rfl (by decide) wt_1171 uw_X6, rfl⟩⟩, t_eq0 dX6_load_179 (by decide) rfl⟩
theorem ok_180_36 : BkOK mi i_180 (bpf P_180) 36 (B_180.getD 36 bk0) := ⟨186, ⟨1, s_aload_n dX6_load_182 rfl, ⟨3, s_get (C := RX6) (T := TX6) (N := 30) dX6_load_183 rfl (by decide) wt_1171 uw_X6, rfl⟩⟩, t_ret dX6_load_186 rfl⟩
theorem ok_180_37 : BkOK mi i_180 (bpf P_180) 37 (B_180.getD 37 bk0) := ⟨192, ⟨1, s_aload_n dX6_load_187 rfl, ⟨1, s_aload_n dX6_load_188 rfl, ⟨3, s_get (C := RX6) (T := TX6) (N := 30) dX6_load_189 rfl (by decide) wt_1158 uw_X6, rfl⟩⟩⟩, t_cv rfl mi_159 mok_159 rfl (fun _ => ⟨rfl, by decide +kernel⟩) (fun hs' e => by cases e; intro E n b h; cases h) (fun q fs As rest h hp hA hr => (call_V (i := i_180) (j := i_159) (C := RX6) (T := TX6) (N := 30) dX6_load_192 mok_159 rfl ⟨by decide, by decide⟩ np_159 rfl rfl wt_1271 wt_1273 ws_15 hp hA hr rfl).thr (fun _ => True.intro))⟩
theorem ok_180_38 : BkOK mi i_180 (bpf P_180) 38 (B_180.getD 38 bk0) := ⟨196, ⟨1, s_aload_n dX6_load_195 rfl, rfl⟩, t_cv rfl mi_182 mok_182 rfl (fun _ => ⟨rfl, by decide +kernel⟩) (fun hs' e => by cases e; intro E n b h; cases h) (fun q fs As rest h hp hA hr => (call_V (i := i_180) (j := i_182) (C := RX6) (T := TX6) (N := 30) dX6_load_196 mok_182 rfl ⟨by decide, by decide⟩ np_182 rfl rfl wt_1275 wt_1277 ws_16 hp hA hr rfl).thr (fun _ => True.intro))⟩
theorem ok_180_39 : BkOK mi i_180 (bpf P_180) 39 (B_180.getD 39 bk0) := ⟨199, rfl, t_ret dX6_load_199 rfl⟩
theorem ok_180 : ∀ b, BkOK mi i_180 (bpf P_180) b (B_180.getD b bk0)
  | 0 => ok_180_0
  | 1 => ok_180_1
  | 2 => ok_180_2
  | 3 => ok_180_3
  | 4 => ok_180_4
  | 5 => ok_180_5
  | 6 => ok_180_6
  | 7 => ok_180_7
  | 8 => ok_180_8
  | 9 => ok_180_9
  | 10 => ok_180_10
  | 11 => ok_180_11
  | 12 => ok_180_12
  | 13 => ok_180_13
  | 14 => ok_180_14
  | 15 => ok_180_15
  | 16 => ok_180_16
  | 17 => ok_180_17
  | 18 => ok_180_18
  | 19 => ok_180_19
  | 20 => ok_180_20
  | 21 => ok_180_21
  | 22 => ok_180_22
  | 23 => ok_180_23
  | 24 => ok_180_24
  | 25 => ok_180_25
  | 26 => ok_180_26
  | 27 => ok_180_27
  | 28 => ok_180_28
  | 29 => ok_180_29
  | 30 => ok_180_30
  | 31 => ok_180_31
  | 32 => ok_180_32
  | 33 => ok_180_33
  | 34 => ok_180_34
  | 35 => ok_180_35
  | 36 => ok_180_36
  | 37 => ok_180_37
  | 38 => ok_180_38
  | 39 => ok_180_39
  | b + 40 => bk_none mi i_180 (bpf P_180) (b + 40)
theorem ok_181_0 : BkOK mi i_181 (bpf P_181) 0 (B_181.getD 0 bk0) := ⟨9, ⟨1, s_aload_n dX6_errorPosition_0 rfl, ⟨1, s_iconst dX6_errorPosition_1 rfl, ⟨3, s_put (C := RX6) (T := TX6) (N := 30) tyX6 tyX6_ok nmX6 dX6_errorPosition_2 rfl (by decide) rfl (tyX6_ok 7 (by decide)) wt_1164 uw_X6, ⟨1, s_aload_n dX6_errorPosition_5 rfl, ⟨3, s_get (C := RX6) (T := TX6) (N := 30) dX6_errorPosition_6 rfl (by decide) wt_1173 uw_X6, rfl⟩⟩⟩⟩⟩, t_ret dX6_errorPosition_9 rfl⟩
theorem ok_181 : ∀ b, BkOK mi i_181 (bpf P_181) b (B_181.getD b bk0)
  | 0 => ok_181_0
  | b + 1 => bk_none mi i_181 (bpf P_181) (b + 1)
theorem ok_182_0 : BkOK mi i_182 (bpf P_182) 0 (B_182.getD 0 bk0) := ⟨6, ⟨1, s_aload_n dX6_events_0 rfl, ⟨3, s_get (C := RX6) (T := TX6) (N := 30) dX6_events_1 rfl (by decide) wt_1157 uw_X6, ⟨1, s_iconst dX6_events_4 rfl, ⟨1, s_iald dX6_events_5, rfl⟩⟩⟩⟩, t_ret dX6_events_6 rfl⟩
theorem ok_182 : ∀ b, BkOK mi i_182 (bpf P_182) b (B_182.getD b bk0)
  | 0 => ok_182_0
  | b + 1 => bk_none mi i_182 (bpf P_182) (b + 1)
theorem ok_183_0 : BkOK mi i_183 (bpf P_183) 0 (B_183.getD 0 bk0) := ⟨12, ⟨1, s_aload_n dX6_notesOf_0 rfl, ⟨3, s_get (C := RX6) (T := TX6) (N := 30) dX6_notesOf_1 rfl (by decide) wt_1157 uw_X6, ⟨2, s_bipush dX6_notesOf_4 rfl, ⟨2, s_bipush dX6_notesOf_6 rfl, ⟨1, s_iload_n dX6_notesOf_8 rfl, ⟨1, s_imul dX6_notesOf_9, ⟨1, s_iadd dX6_notesOf_10, ⟨1, s_iald dX6_notesOf_11, rfl⟩⟩⟩⟩⟩⟩⟩⟩, t_ret dX6_notesOf_12 rfl⟩
theorem ok_183 : ∀ b, BkOK mi i_183 (bpf P_183) b (B_183.getD b bk0)
  | 0 => ok_183_0
  | b + 1 => bk_none mi i_183 (bpf P_183) (b + 1)
theorem ok_184_0 : BkOK mi i_184 (bpf P_184) 0 (B_184.getD 0 bk0) := ⟨14, ⟨1, s_aload_n dX6_restOf_0 rfl, ⟨3, s_get (C := RX6) (T := TX6) (N := 30) dX6_restOf_1 rfl (by decide) wt_1157 uw_X6, ⟨2, s_bipush dX6_restOf_4 rfl, ⟨2, s_bipush dX6_restOf_6 rfl, ⟨1, s_iload_n dX6_restOf_8 rfl, ⟨1, s_imul dX6_restOf_9, ⟨1, s_iadd dX6_restOf_10, ⟨1, s_iconst dX6_restOf_11 rfl, ⟨1, s_iadd dX6_restOf_12, ⟨1, s_iald dX6_restOf_13, rfl⟩⟩⟩⟩⟩⟩⟩⟩⟩⟩, t_ret dX6_restOf_14 rfl⟩
theorem ok_184 : ∀ b, BkOK mi i_184 (bpf P_184) b (B_184.getD b bk0)
  | 0 => ok_184_0
  | b + 1 => bk_none mi i_184 (bpf P_184) (b + 1)
theorem ok_185_0 : BkOK mi i_185 (bpf P_185) 0 (B_185.getD 0 bk0) := ⟨16, ⟨1, s_aload_n dX6_keyOf_0 rfl, ⟨3, s_get (C := RX6) (T := TX6) (N := 30) dX6_keyOf_1 rfl (by decide) wt_1157 uw_X6, ⟨2, s_bipush dX6_keyOf_4 rfl, ⟨2, s_bipush dX6_keyOf_6 rfl, ⟨1, s_iload_n dX6_keyOf_8 rfl, ⟨1, s_imul dX6_keyOf_9, ⟨1, s_iadd dX6_keyOf_10, ⟨1, s_iconst dX6_keyOf_11 rfl, ⟨1, s_iadd dX6_keyOf_12, ⟨1, s_iload_n dX6_keyOf_13 rfl, ⟨1, s_iadd dX6_keyOf_14, ⟨1, s_iald dX6_keyOf_15, rfl⟩⟩⟩⟩⟩⟩⟩⟩⟩⟩⟩⟩, t_ret dX6_keyOf_16 rfl⟩
theorem ok_185 : ∀ b, BkOK mi i_185 (bpf P_185) b (B_185.getD b bk0)
  | 0 => ok_185_0
  | b + 1 => bk_none mi i_185 (bpf P_185) (b + 1)
theorem ok_186_0 : BkOK mi i_186 (bpf P_186) 0 (B_186.getD 0 bk0) := ⟨16, ⟨1, s_aload_n dX6_setOf_0 rfl, ⟨3, s_get (C := RX6) (T := TX6) (N := 30) dX6_setOf_1 rfl (by decide) wt_1157 uw_X6, ⟨2, s_bipush dX6_setOf_4 rfl, ⟨2, s_bipush dX6_setOf_6 rfl, ⟨1, s_iload_n dX6_setOf_8 rfl, ⟨1, s_imul dX6_setOf_9, ⟨1, s_iadd dX6_setOf_10, ⟨1, s_iconst dX6_setOf_11 rfl, ⟨1, s_iadd dX6_setOf_12, ⟨1, s_iload_n dX6_setOf_13 rfl, ⟨1, s_iadd dX6_setOf_14, ⟨1, s_iald dX6_setOf_15, rfl⟩⟩⟩⟩⟩⟩⟩⟩⟩⟩⟩⟩, t_ret dX6_setOf_16 rfl⟩
theorem ok_186 : ∀ b, BkOK mi i_186 (bpf P_186) b (B_186.getD b bk0)
  | 0 => ok_186_0
  | b + 1 => bk_none mi i_186 (bpf P_186) (b + 1)
theorem ok_187_0 : BkOK mi i_187 (bpf P_187) 0 (B_187.getD 0 bk0) := ⟨8, ⟨1, s_aload_n dX6_weightOf_0 rfl, ⟨3, s_get (C := RX6) (T := TX6) (N := 30) dX6_weightOf_1 rfl (by decide) wt_1157 uw_X6, ⟨1, s_iconst dX6_weightOf_4 rfl, ⟨1, s_iload_n dX6_weightOf_5 rfl, ⟨1, s_iadd dX6_weightOf_6, ⟨1, s_iald dX6_weightOf_7, rfl⟩⟩⟩⟩⟩⟩, t_ret dX6_weightOf_8 rfl⟩
theorem ok_187 : ∀ b, BkOK mi i_187 (bpf P_187) b (B_187.getD b bk0)
  | 0 => ok_187_0
  | b + 1 => bk_none mi i_187 (bpf P_187) (b + 1)
theorem ok_188_0 : BkOK mi i_188 (bpf P_188) 0 (B_188.getD 0 bk0) := ⟨3, ⟨1, s_iload_n dX6_isEvent_0 rfl, ⟨1, s_iconst dX6_isEvent_1 rfl, ⟨1, s_aload_n dX6_isEvent_2 rfl, rfl⟩⟩⟩, t_cv rfl mi_182 mok_182 rfl (fun _ => ⟨rfl, by decide +kernel⟩) (fun hs' e => by cases e; intro E n b h; cases h) (fun q fs As rest h hp hA hr => (call_V (i := i_188) (j := i_182) (C := RX6) (T := TX6) (N := 30) dX6_isEvent_3 mok_182 rfl ⟨by decide, by decide⟩ np_182 rfl rfl wt_1275 wt_1277 ws_16 hp hA hr rfl).thr (fun _ => True.intro))⟩
theorem ok_188_1 : BkOK mi i_188 (bpf P_188) 1 (B_188.getD 1 bk0) := ⟨8, ⟨1, s_iconst dX6_isEvent_6 rfl, ⟨1, s_isub dX6_isEvent_7, rfl⟩⟩, t_cs rfl mi_157 mok_157 rfl (fun As rest h hA hr => call_S dX6_isEvent_8 mok_157 rfl ⟨by decide, by decide⟩ np_157 wt_1264 wt_1265 hA hr)⟩
theorem ok_188_2 : BkOK mi i_188 (bpf P_188) 2 (B_188.getD 2 bk0) := ⟨11, rfl, t_retZ dX6_isEvent_11 rfl⟩
theorem ok_188 : ∀ b, BkOK mi i_188 (bpf P_188) b (B_188.getD b bk0)
  | 0 => ok_188_0
  | 1 => ok_188_1
  | 2 => ok_188_2
  | b + 3 => bk_none mi i_188 (bpf P_188) (b + 3)
theorem ok_189_0 : BkOK mi i_189 (bpf P_189) 0 (B_189.getD 0 bk0) := ⟨2, ⟨1, s_aload_n dX6_isNote_0 rfl, ⟨1, s_iload_n dX6_isNote_1 rfl, rfl⟩⟩, t_cv rfl mi_188 mok_188 rfl (fun _ => ⟨rfl, by decide +kernel⟩) (fun hs' e => by cases e; intro E n b h; cases h) (fun q fs As rest h hp hA hr => (call_V (i := i_189) (j := i_188) (C := RX6) (T := TX6) (N := 30) dX6_isNote_2 mok_188 rfl ⟨by decide, by decide⟩ np_188 rfl rfl wt_1420 wt_1422 ws_40 hp hA hr rfl).thr (fun _ => True.intro))⟩
theorem ok_189_1 : BkOK mi i_189 (bpf P_189) 1 (B_189.getD 1 bk0) := ⟨5, rfl, t_eq0 dX6_isNote_5 (by decide) rfl⟩
theorem ok_189_2 : BkOK mi i_189 (bpf P_189) 2 (B_189.getD 2 bk0) := ⟨12, ⟨1, s_iload_n dX6_isNote_8 rfl, ⟨1, s_iconst dX6_isNote_9 rfl, ⟨1, s_aload_n dX6_isNote_10 rfl, ⟨1, s_iload_n dX6_isNote_11 rfl, rfl⟩⟩⟩⟩, t_cv rfl mi_183 mok_183 rfl (fun _ => ⟨rfl, by decide +kernel⟩) (fun hs' e => by cases e; intro E n b h; cases h) (fun q fs As rest h hp hA hr => (call_V (i := i_189) (j := i_183) (C := RX6) (T := TX6) (N := 30) dX6_isNote_12 mok_183 rfl ⟨by decide, by decide⟩ np_183 rfl rfl wt_1381 wt_1383 ws_32 hp hA hr rfl).thr (fun _ => True.intro))⟩
theorem ok_189_3 : BkOK mi i_189 (bpf P_189) 3 (B_189.getD 3 bk0) := ⟨17, ⟨1, s_iconst dX6_isNote_15 rfl, ⟨1, s_isub dX6_isNote_16, rfl⟩⟩, t_cs rfl mi_157 mok_157 rfl (fun As rest h hA hr => call_S dX6_isNote_17 mok_157 rfl ⟨by decide, by decide⟩ np_157 wt_1264 wt_1265 hA hr)⟩
theorem ok_189_4 : BkOK mi i_189 (bpf P_189) 4 (B_189.getD 4 bk0) := ⟨20, rfl, t_eq0 dX6_isNote_20 (by decide) rfl⟩
theorem ok_189_5 : BkOK mi i_189 (bpf P_189) 5 (B_189.getD 5 bk0) := ⟨24, ⟨1, s_iconst dX6_isNote_23 rfl, rfl⟩, t_go dX6_isNote_24 (by decide)⟩
theorem ok_189_6 : BkOK mi i_189 (bpf P_189) 6 (B_189.getD 6 bk0) := ⟨28, ⟨1, s_iconst dX6_isNote_27 rfl, rfl⟩, t_fall rfl⟩
theorem ok_189_7 : BkOK mi i_189 (bpf P_189) 7 (B_189.getD 7 bk0) := ⟨28, rfl, t_retZ dX6_isNote_28 rfl⟩
theorem ok_189 : ∀ b, BkOK mi i_189 (bpf P_189) b (B_189.getD b bk0)
  | 0 => ok_189_0
  | 1 => ok_189_1
  | 2 => ok_189_2
  | 3 => ok_189_3
  | 4 => ok_189_4
  | 5 => ok_189_5
  | 6 => ok_189_6
  | 7 => ok_189_7
  | b + 8 => bk_none mi i_189 (bpf P_189) (b + 8)
theorem ok_190_0 : BkOK mi i_190 (bpf P_190) 0 (B_190.getD 0 bk0) := ⟨3, ⟨1, s_iload_n dX6_isFinger_0 rfl, ⟨1, s_iconst dX6_isFinger_1 rfl, ⟨1, s_iconst dX6_isFinger_2 rfl, rfl⟩⟩⟩, t_cs rfl mi_157 mok_157 rfl (fun As rest h hA hr => call_S dX6_isFinger_3 mok_157 rfl ⟨by decide, by decide⟩ np_157 wt_1264 wt_1265 hA hr)⟩
theorem ok_190_1 : BkOK mi i_190 (bpf P_190) 1 (B_190.getD 1 bk0) := ⟨6, rfl, t_retZ dX6_isFinger_6 rfl⟩
theorem ok_190 : ∀ b, BkOK mi i_190 (bpf P_190) b (B_190.getD b bk0)
  | 0 => ok_190_0
  | 1 => ok_190_1
  | b + 2 => bk_none mi i_190 (bpf P_190) (b + 2)
theorem ok_191_0 : BkOK mi i_191 (bpf P_191) 0 (B_191.getD 0 bk0) := ⟨7, ⟨1, s_iload_n dX6_isBlack_0 rfl, ⟨2, s_bipush dX6_isBlack_1 rfl, ⟨1, s_irem dX6_isBlack_3, ⟨1, s_istore_n dX6_isBlack_4 rfl (by decide), ⟨1, s_iload_n dX6_isBlack_5 rfl, ⟨1, s_iconst dX6_isBlack_6 rfl, rfl⟩⟩⟩⟩⟩⟩, t_eq dX6_isBlack_7 (by decide) rfl⟩
theorem ok_191_1 : BkOK mi i_191 (bpf P_191) 1 (B_191.getD 1 bk0) := ⟨12, ⟨1, s_iload_n dX6_isBlack_10 rfl, ⟨1, s_iconst dX6_isBlack_11 rfl, rfl⟩⟩, t_eq dX6_isBlack_12 (by decide) rfl⟩
theorem ok_191_2 : BkOK mi i_191 (bpf P_191) 2 (B_191.getD 2 bk0) := ⟨18, ⟨1, s_iload_n dX6_isBlack_15 rfl, ⟨2, s_bipush dX6_isBlack_16 rfl, rfl⟩⟩, t_eq dX6_isBlack_18 (by decide) rfl⟩
theorem ok_191_3 : BkOK mi i_191 (bpf P_191) 3 (B_191.getD 3 bk0) := ⟨24, ⟨1, s_iload_n dX6_isBlack_21 rfl, ⟨2, s_bipush dX6_isBlack_22 rfl, rfl⟩⟩, t_eq dX6_isBlack_24 (by decide) rfl⟩
theorem ok_191_4 : BkOK mi i_191 (bpf P_191) 4 (B_191.getD 4 bk0) := ⟨30, ⟨1, s_iload_n dX6_isBlack_27 rfl, ⟨2, s_bipush dX6_isBlack_28 rfl, rfl⟩⟩, t_nei dX6_isBlack_30 (by decide) rfl⟩
theorem ok_191_5 : BkOK mi i_191 (bpf P_191) 5 (B_191.getD 5 bk0) := ⟨34, ⟨1, s_iconst dX6_isBlack_33 rfl, rfl⟩, t_go dX6_isBlack_34 (by decide)⟩
theorem ok_191_6 : BkOK mi i_191 (bpf P_191) 6 (B_191.getD 6 bk0) := ⟨38, ⟨1, s_iconst dX6_isBlack_37 rfl, rfl⟩, t_fall rfl⟩
theorem ok_191_7 : BkOK mi i_191 (bpf P_191) 7 (B_191.getD 7 bk0) := ⟨38, rfl, t_retZ dX6_isBlack_38 rfl⟩
theorem ok_191 : ∀ b, BkOK mi i_191 (bpf P_191) b (B_191.getD b bk0)
  | 0 => ok_191_0
  | 1 => ok_191_1
  | 2 => ok_191_2
  | 3 => ok_191_3
  | 4 => ok_191_4
  | 5 => ok_191_5
  | 6 => ok_191_6
  | 7 => ok_191_7
  | b + 8 => bk_none mi i_191 (bpf P_191) (b + 8)
theorem ok_192_0 : BkOK mi i_192 (bpf P_192) 0 (B_192.getD 0 bk0) := ⟨4, ⟨1, s_iconst dX6_allNotes_0 rfl, ⟨1, s_istore_n dX6_allNotes_1 rfl (by decide), ⟨1, s_iconst dX6_allNotes_2 rfl, ⟨1, s_istore_n dX6_allNotes_3 rfl (by decide), rfl⟩⟩⟩⟩, t_fall rfl⟩
theorem ok_192_1 : BkOK mi i_192 (bpf P_192) 1 (B_192.getD 1 bk0) := ⟨6, ⟨1, s_iload_n dX6_allNotes_4 rfl, ⟨1, s_aload_n dX6_allNotes_5 rfl, rfl⟩⟩, t_cv rfl mi_182 mok_182 rfl (fun _ => ⟨rfl, by decide +kernel⟩) (fun hs' e => by cases e; intro E n b h; cases h) (fun q fs As rest h hp hA hr => (call_V (i := i_192) (j := i_182) (C := RX6) (T := TX6) (N := 30) dX6_allNotes_6 mok_182 rfl ⟨by decide, by decide⟩ np_182 rfl rfl wt_1275 wt_1277 ws_16 hp hA hr rfl).thr (fun _ => True.intro))⟩
theorem ok_192_2 : BkOK mi i_192 (bpf P_192) 2 (B_192.getD 2 bk0) := ⟨9, rfl, t_ge dX6_allNotes_9 (by decide) rfl⟩
theorem ok_192_3 : BkOK mi i_192 (bpf P_192) 3 (B_192.getD 3 bk0) := ⟨15, ⟨1, s_iload_n dX6_allNotes_12 rfl, ⟨1, s_aload_n dX6_allNotes_13 rfl, ⟨1, s_iload_n dX6_allNotes_14 rfl, rfl⟩⟩⟩, t_cv rfl mi_183 mok_183 rfl (fun _ => ⟨rfl, by decide +kernel⟩) (fun hs' e => by cases e; intro E n b h; cases h) (fun q fs As rest h hp hA hr => (call_V (i := i_192) (j := i_183) (C := RX6) (T := TX6) (N := 30) dX6_allNotes_15 mok_183 rfl ⟨by decide, by decide⟩ np_183 rfl rfl wt_1381 wt_1383 ws_32 hp hA hr rfl).thr (fun _ => True.intro))⟩
theorem ok_192_4 : BkOK mi i_192 (bpf P_192) 4 (B_192.getD 4 bk0) := ⟨23, ⟨1, s_iadd dX6_allNotes_18, ⟨1, s_istore_n dX6_allNotes_19 rfl (by decide), ⟨3, s_iinc dX6_allNotes_20 rfl (by decide), rfl⟩⟩⟩, t_go dX6_allNotes_23 (by decide)⟩
theorem ok_192_5 : BkOK mi i_192 (bpf P_192) 5 (B_192.getD 5 bk0) := ⟨27, ⟨1, s_iload_n dX6_allNotes_26 rfl, rfl⟩, t_ret dX6_allNotes_27 rfl⟩
theorem ok_192 : ∀ b, BkOK mi i_192 (bpf P_192) b (B_192.getD b bk0)
  | 0 => ok_192_0
  | 1 => ok_192_1
  | 2 => ok_192_2
  | 3 => ok_192_3
  | 4 => ok_192_4
  | 5 => ok_192_5
  | b + 6 => bk_none mi i_192 (bpf P_192) (b + 6)
theorem ok_193_0 : BkOK mi i_193 (bpf P_193) 0 (B_193.getD 0 bk0) := ⟨2, ⟨1, s_aload_n dX6_isFree_0 rfl, ⟨1, s_iload_n dX6_isFree_1 rfl, rfl⟩⟩, t_cv rfl mi_184 mok_184 rfl (fun _ => ⟨rfl, by decide +kernel⟩) (fun hs' e => by cases e; intro E n b h; cases h) (fun q fs As rest h hp hA hr => (call_V (i := i_193) (j := i_184) (C := RX6) (T := TX6) (N := 30) dX6_isFree_2 mok_184 rfl ⟨by decide, by decide⟩ np_184 rfl rfl wt_1408 wt_1410 ws_38 hp hA hr rfl).thr (fun _ => True.intro))⟩
theorem ok_193_1 : BkOK mi i_193 (bpf P_193) 1 (B_193.getD 1 bk0) := ⟨8, ⟨1, s_aload_n dX6_isFree_5 rfl, ⟨2, s_bipush dX6_isFree_6 rfl, rfl⟩⟩, t_cv rfl mi_187 mok_187 rfl (fun _ => ⟨rfl, by decide +kernel⟩) (fun hs' e => by cases e; intro E n b h; cases h) (fun q fs As rest h hp hA hr => (call_V (i := i_193) (j := i_187) (C := RX6) (T := TX6) (N := 30) dX6_isFree_8 mok_187 rfl ⟨by decide, by decide⟩ np_187 rfl rfl wt_1412 wt_1414 ws_39 hp hA hr rfl).thr (fun _ => True.intro))⟩
theorem ok_193_2 : BkOK mi i_193 (bpf P_193) 2 (B_193.getD 2 bk0) := ⟨11, rfl, t_lt dX6_isFree_11 (by decide) rfl⟩
theorem ok_193_3 : BkOK mi i_193 (bpf P_193) 3 (B_193.getD 3 bk0) := ⟨15, ⟨1, s_iconst dX6_isFree_14 rfl, rfl⟩, t_go dX6_isFree_15 (by decide)⟩
theorem ok_193_4 : BkOK mi i_193 (bpf P_193) 4 (B_193.getD 4 bk0) := ⟨19, ⟨1, s_iconst dX6_isFree_18 rfl, rfl⟩, t_fall rfl⟩
theorem ok_193_5 : BkOK mi i_193 (bpf P_193) 5 (B_193.getD 5 bk0) := ⟨19, rfl, t_retZ dX6_isFree_19 rfl⟩
theorem ok_193 : ∀ b, BkOK mi i_193 (bpf P_193) b (B_193.getD b bk0)
  | 0 => ok_193_0
  | 1 => ok_193_1
  | 2 => ok_193_2
  | 3 => ok_193_3
  | 4 => ok_193_4
  | 5 => ok_193_5
  | b + 6 => bk_none mi i_193 (bpf P_193) (b + 6)
theorem ok_194_0 : BkOK mi i_194 (bpf P_194) 0 (B_194.getD 0 bk0) := ⟨2, ⟨1, s_iload_n dX6_offBy_0 rfl, ⟨1, s_iload_n dX6_offBy_1 rfl, rfl⟩⟩, t_cs rfl mi_155 mok_155 rfl (fun As rest h hA hr => call_S dX6_offBy_2 mok_155 rfl ⟨by decide, by decide⟩ np_155 wt_1152 wt_1153 hA hr)⟩
theorem ok_194_1 : BkOK mi i_194 (bpf P_194) 1 (B_194.getD 1 bk0) := ⟨17, ⟨2, s_istore dX6_offBy_5 (by decide), ⟨1, s_iload_n dX6_offBy_7 rfl, ⟨1, s_aload_n dX6_offBy_8 rfl, ⟨3, s_get (C := RX6) (T := TX6) (N := 30) dX6_offBy_9 rfl (by decide) wt_1157 uw_X6, ⟨2, s_iload dX6_offBy_12, ⟨1, s_iconst dX6_offBy_14 rfl, ⟨1, s_iadd dX6_offBy_15, ⟨1, s_iald dX6_offBy_16, rfl⟩⟩⟩⟩⟩⟩⟩⟩, t_le dX6_offBy_17 (by decide) rfl⟩
theorem ok_194_2 : BkOK mi i_194 (bpf P_194) 2 (B_194.getD 2 bk0) := ⟨21, ⟨1, s_iconst dX6_offBy_20 rfl, rfl⟩, t_ret dX6_offBy_21 rfl⟩
theorem ok_194_3 : BkOK mi i_194 (bpf P_194) 3 (B_194.getD 3 bk0) := ⟨30, ⟨1, s_iload_n dX6_offBy_22 rfl, ⟨1, s_aload_n dX6_offBy_23 rfl, ⟨3, s_get (C := RX6) (T := TX6) (N := 30) dX6_offBy_24 rfl (by decide) wt_1157 uw_X6, ⟨2, s_iload dX6_offBy_27, ⟨1, s_iald dX6_offBy_29, rfl⟩⟩⟩⟩⟩, t_ge dX6_offBy_30 (by decide) rfl⟩
theorem ok_194_4 : BkOK mi i_194 (bpf P_194) 4 (B_194.getD 4 bk0) := ⟨42, ⟨1, s_aload_n dX6_offBy_33 rfl, ⟨3, s_get (C := RX6) (T := TX6) (N := 30) dX6_offBy_34 rfl (by decide) wt_1157 uw_X6, ⟨2, s_iload dX6_offBy_37, ⟨1, s_iald dX6_offBy_39, ⟨1, s_iload_n dX6_offBy_40 rfl, ⟨1, s_isub dX6_offBy_41, rfl⟩⟩⟩⟩⟩⟩, t_go dX6_offBy_42 (by decide)⟩
theorem ok_194_5 : BkOK mi i_194 (bpf P_194) 5 (B_194.getD 5 bk0) := ⟨55, ⟨1, s_iload_n dX6_offBy_45 rfl, ⟨1, s_aload_n dX6_offBy_46 rfl, ⟨3, s_get (C := RX6) (T := TX6) (N := 30) dX6_offBy_47 rfl (by decide) wt_1157 uw_X6, ⟨2, s_iload dX6_offBy_50, ⟨1, s_iconst dX6_offBy_52 rfl, ⟨1, s_iadd dX6_offBy_53, ⟨1, s_iald dX6_offBy_54, rfl⟩⟩⟩⟩⟩⟩⟩, t_le dX6_offBy_55 (by decide) rfl⟩
theorem ok_194_6 : BkOK mi i_194 (bpf P_194) 6 (B_194.getD 6 bk0) := ⟨69, ⟨1, s_iload_n dX6_offBy_58 rfl, ⟨1, s_aload_n dX6_offBy_59 rfl, ⟨3, s_get (C := RX6) (T := TX6) (N := 30) dX6_offBy_60 rfl (by decide) wt_1157 uw_X6, ⟨2, s_iload dX6_offBy_63, ⟨1, s_iconst dX6_offBy_65 rfl, ⟨1, s_iadd dX6_offBy_66, ⟨1, s_iald dX6_offBy_67, ⟨1, s_isub dX6_offBy_68, rfl⟩⟩⟩⟩⟩⟩⟩⟩, t_go dX6_offBy_69 (by decide)⟩
theorem ok_194_7 : BkOK mi i_194 (bpf P_194) 7 (B_194.getD 7 bk0) := ⟨73, ⟨1, s_iconst dX6_offBy_72 rfl, rfl⟩, t_fall rfl⟩
theorem ok_194_8 : BkOK mi i_194 (bpf P_194) 8 (B_194.getD 8 bk0) := ⟨73, rfl, t_ret dX6_offBy_73 rfl⟩
theorem ok_194 : ∀ b, BkOK mi i_194 (bpf P_194) b (B_194.getD b bk0)
  | 0 => ok_194_0
  | 1 => ok_194_1
  | 2 => ok_194_2
  | 3 => ok_194_3
  | 4 => ok_194_4
  | 5 => ok_194_5
  | 6 => ok_194_6
  | 7 => ok_194_7
  | 8 => ok_194_8
  | b + 9 => bk_none mi i_194 (bpf P_194) (b + 9)
theorem ok_195_0 : BkOK mi i_195 (bpf P_195) 0 (B_195.getD 0 bk0) := ⟨7, ⟨1, s_aload_n dX6_linkOf_0 rfl, ⟨3, s_get (C := RX6) (T := TX6) (N := 30) dX6_linkOf_1 rfl (by decide) wt_1157 uw_X6, ⟨1, s_iconst dX6_linkOf_4 rfl, ⟨1, s_iald dX6_linkOf_5, ⟨1, s_iconst dX6_linkOf_6 rfl, rfl⟩⟩⟩⟩⟩, t_nei dX6_linkOf_7 (by decide) rfl⟩
theorem ok_195_1 : BkOK mi i_195 (bpf P_195) 1 (B_195.getD 1 bk0) := ⟨14, ⟨2, s_iload dX6_linkOf_10, ⟨1, s_iload_n dX6_linkOf_12 rfl, ⟨1, s_isub dX6_linkOf_13, rfl⟩⟩⟩, t_go dX6_linkOf_14 (by decide)⟩
theorem ok_195_2 : BkOK mi i_195 (bpf P_195) 2 (B_195.getD 2 bk0) := ⟨21, ⟨1, s_iload_n dX6_linkOf_17 rfl, ⟨2, s_iload dX6_linkOf_18, ⟨1, s_isub dX6_linkOf_20, rfl⟩⟩⟩, t_fall rfl⟩
theorem ok_195_3 : BkOK mi i_195 (bpf P_195) 3 (B_195.getD 3 bk0) := ⟨25, ⟨2, s_istore dX6_linkOf_21 (by decide), ⟨2, s_iload dX6_linkOf_23, rfl⟩⟩, t_ge0 dX6_linkOf_25 (by decide) rfl⟩
theorem ok_195_4 : BkOK mi i_195 (bpf P_195) 4 (B_195.getD 4 bk0) := ⟨31, ⟨2, s_iload dX6_linkOf_28, ⟨1, s_ineg dX6_linkOf_30, rfl⟩⟩, t_go dX6_linkOf_31 (by decide)⟩
theorem ok_195_5 : BkOK mi i_195 (bpf P_195) 5 (B_195.getD 5 bk0) := ⟨36, ⟨2, s_iload dX6_linkOf_34, rfl⟩, t_fall rfl⟩
theorem ok_195_6 : BkOK mi i_195 (bpf P_195) 6 (B_195.getD 6 bk0) := ⟨40, ⟨2, s_istore dX6_linkOf_36 (by decide), ⟨2, s_iload dX6_linkOf_38, rfl⟩⟩, t_ne0 dX6_linkOf_40 (by decide) rfl⟩
theorem ok_195_7 : BkOK mi i_195 (bpf P_195) 7 (B_195.getD 7 bk0) := ⟨46, ⟨1, s_aload_n dX6_linkOf_43 rfl, ⟨1, s_iload_n dX6_linkOf_44 rfl, ⟨1, s_iload_n dX6_linkOf_45 rfl, rfl⟩⟩⟩, t_nei dX6_linkOf_46 (by decide) rfl⟩
theorem ok_195_8 : BkOK mi i_195 (bpf P_195) 8 (B_195.getD 8 bk0) := ⟨50, ⟨1, s_iconst dX6_linkOf_49 rfl, rfl⟩, t_go dX6_linkOf_50 (by decide)⟩
theorem ok_195_9 : BkOK mi i_195 (bpf P_195) 9 (B_195.getD 9 bk0) := ⟨54, ⟨1, s_iconst dX6_linkOf_53 rfl, rfl⟩, t_fall rfl⟩
theorem ok_195_10 : BkOK mi i_195 (bpf P_195) 10 (B_195.getD 10 bk0) := ⟨54, rfl, t_cv rfl mi_187 mok_187 rfl (fun _ => ⟨rfl, by decide +kernel⟩) (fun hs' e => by cases e; intro E n b h; cases h) (fun q fs As rest h hp hA hr => (call_V (i := i_195) (j := i_187) (C := RX6) (T := TX6) (N := 30) dX6_linkOf_54 mok_187 rfl ⟨by decide, by decide⟩ np_187 rfl rfl wt_1412 wt_1414 ws_39 hp hA hr rfl).thr (fun _ => True.intro))⟩
theorem ok_195_11 : BkOK mi i_195 (bpf P_195) 11 (B_195.getD 11 bk0) := ⟨57, rfl, t_ret dX6_linkOf_57 rfl⟩
theorem ok_195_12 : BkOK mi i_195 (bpf P_195) 12 (B_195.getD 12 bk0) := ⟨60, ⟨1, s_iload_n dX6_linkOf_58 rfl, ⟨1, s_iload_n dX6_linkOf_59 rfl, rfl⟩⟩, t_nei dX6_linkOf_60 (by decide) rfl⟩
theorem ok_195_13 : BkOK mi i_195 (bpf P_195) 13 (B_195.getD 13 bk0) := ⟨65, ⟨1, s_aload_n dX6_linkOf_63 rfl, ⟨1, s_iconst dX6_linkOf_64 rfl, rfl⟩⟩, t_cv rfl mi_187 mok_187 rfl (fun _ => ⟨rfl, by decide +kernel⟩) (fun hs' e => by cases e; intro E n b h; cases h) (fun q fs As rest h hp hA hr => (call_V (i := i_195) (j := i_187) (C := RX6) (T := TX6) (N := 30) dX6_linkOf_65 mok_187 rfl ⟨by decide, by decide⟩ np_187 rfl rfl wt_1412 wt_1414 ws_39 hp hA hr rfl).thr (fun _ => True.intro))⟩
theorem ok_195_14 : BkOK mi i_195 (bpf P_195) 14 (B_195.getD 14 bk0) := ⟨71, ⟨2, s_iload dX6_linkOf_68, ⟨1, s_imul dX6_linkOf_70, rfl⟩⟩, t_ret dX6_linkOf_71 rfl⟩
theorem ok_195_15 : BkOK mi i_195 (bpf P_195) 15 (B_195.getD 15 bk0) := ⟨74, ⟨2, s_iload dX6_linkOf_72, rfl⟩, t_le0 dX6_linkOf_74 (by decide) rfl⟩
theorem ok_195_16 : BkOK mi i_195 (bpf P_195) 16 (B_195.getD 16 bk0) := ⟨78, ⟨1, s_iconst dX6_linkOf_77 rfl, rfl⟩, t_go dX6_linkOf_78 (by decide)⟩
theorem ok_195_17 : BkOK mi i_195 (bpf P_195) 17 (B_195.getD 17 bk0) := ⟨82, ⟨1, s_iconst dX6_linkOf_81 rfl, rfl⟩, t_fall rfl⟩
theorem ok_195_18 : BkOK mi i_195 (bpf P_195) 18 (B_195.getD 18 bk0) := ⟨84, ⟨1, s_iload_n dX6_linkOf_82 rfl, ⟨1, s_iload_n dX6_linkOf_83 rfl, rfl⟩⟩, t_le dX6_linkOf_84 (by decide) rfl⟩
theorem ok_195_19 : BkOK mi i_195 (bpf P_195) 19 (B_195.getD 19 bk0) := ⟨88, ⟨1, s_iconst dX6_linkOf_87 rfl, rfl⟩, t_go dX6_linkOf_88 (by decide)⟩
theorem ok_195_20 : BkOK mi i_195 (bpf P_195) 20 (B_195.getD 20 bk0) := ⟨92, ⟨1, s_iconst dX6_linkOf_91 rfl, rfl⟩, t_fall rfl⟩
theorem ok_195_21 : BkOK mi i_195 (bpf P_195) 21 (B_195.getD 21 bk0) := ⟨92, rfl, t_nei dX6_linkOf_92 (by decide) rfl⟩
theorem ok_195_22 : BkOK mi i_195 (bpf P_195) 22 (B_195.getD 22 bk0) := ⟨100, ⟨1, s_aload_n dX6_linkOf_95 rfl, ⟨1, s_iload_n dX6_linkOf_96 rfl, ⟨1, s_iload_n dX6_linkOf_97 rfl, ⟨2, s_iload dX6_linkOf_98, rfl⟩⟩⟩⟩, t_cv rfl mi_194 mok_194 rfl (fun _ => ⟨rfl, by decide +kernel⟩) (fun hs' e => by cases e; intro E n b h; cases h) (fun q fs As rest h hp hA hr => (call_V (i := i_195) (j := i_194) (C := RX6) (T := TX6) (N := 30) dX6_linkOf_100 mok_194 rfl ⟨by decide, by decide⟩ np_194 rfl rfl wt_1451 wt_1453 ws_47 hp hA hr rfl).thr (fun _ => True.intro))⟩
theorem ok_195_23 : BkOK mi i_195 (bpf P_195) 23 (B_195.getD 23 bk0) := ⟨108, ⟨2, s_istore dX6_linkOf_103 (by decide), ⟨2, s_iload dX6_linkOf_105, ⟨1, s_iconst dX6_linkOf_107 rfl, rfl⟩⟩⟩, t_nei dX6_linkOf_108 (by decide) rfl⟩
theorem ok_195_24 : BkOK mi i_195 (bpf P_195) 24 (B_195.getD 24 bk0) := ⟨112, ⟨1, s_iconst dX6_linkOf_111 rfl, rfl⟩, t_go dX6_linkOf_112 (by decide)⟩
theorem ok_195_25 : BkOK mi i_195 (bpf P_195) 25 (B_195.getD 25 bk0) := ⟨117, ⟨1, s_aload_n dX6_linkOf_115 rfl, ⟨1, s_iconst dX6_linkOf_116 rfl, rfl⟩⟩, t_cv rfl mi_187 mok_187 rfl (fun _ => ⟨rfl, by decide +kernel⟩) (fun hs' e => by cases e; intro E n b h; cases h) (fun q fs As rest h hp hA hr => (call_V (i := i_195) (j := i_187) (C := RX6) (T := TX6) (N := 30) dX6_linkOf_117 mok_187 rfl ⟨by decide, by decide⟩ np_187 rfl rfl wt_1412 wt_1414 ws_39 hp hA hr rfl).thr (fun _ => True.intro))⟩
theorem ok_195_26 : BkOK mi i_195 (bpf P_195) 26 (B_195.getD 26 bk0) := ⟨123, ⟨2, s_iload dX6_linkOf_120, ⟨1, s_imul dX6_linkOf_122, rfl⟩⟩, t_fall rfl⟩
theorem ok_195_27 : BkOK mi i_195 (bpf P_195) 27 (B_195.getD 27 bk0) := ⟨123, rfl, t_ret dX6_linkOf_123 rfl⟩
theorem ok_195_28 : BkOK mi i_195 (bpf P_195) 28 (B_195.getD 28 bk0) := ⟨130, ⟨1, s_iload_n dX6_linkOf_124 rfl, ⟨1, s_iload_n dX6_linkOf_125 rfl, ⟨3, s_mmin dX6_linkOf_126 wt_1155x wt_293 wt_4 wt_294 ⟨by decide, by decide⟩, ⟨1, s_iconst dX6_linkOf_129 rfl, rfl⟩⟩⟩⟩, t_nei dX6_linkOf_130 (by decide) rfl⟩
theorem ok_195_29 : BkOK mi i_195 (bpf P_195) 29 (B_195.getD 29 bk0) := ⟨139, ⟨1, s_iload_n dX6_linkOf_133 rfl, ⟨1, s_iload_n dX6_linkOf_134 rfl, ⟨3, s_mmax dX6_linkOf_135 wt_1156x wt_43 wt_4 wt_44 ⟨by decide, by decide⟩, ⟨1, s_iconst dX6_linkOf_138 rfl, rfl⟩⟩⟩⟩, t_ge dX6_linkOf_139 (by decide) rfl⟩
theorem ok_195_30 : BkOK mi i_195 (bpf P_195) 30 (B_195.getD 30 bk0) := ⟨147, ⟨2, s_iload dX6_linkOf_142, ⟨1, s_aload_n dX6_linkOf_144 rfl, ⟨2, s_bipush dX6_linkOf_145 rfl, rfl⟩⟩⟩, t_cv rfl mi_187 mok_187 rfl (fun _ => ⟨rfl, by decide +kernel⟩) (fun hs' e => by cases e; intro E n b h; cases h) (fun q fs As rest h hp hA hr => (call_V (i := i_195) (j := i_187) (C := RX6) (T := TX6) (N := 30) dX6_linkOf_147 mok_187 rfl ⟨by decide, by decide⟩ np_187 rfl rfl wt_1412 wt_1414 ws_39 hp hA hr rfl).thr (fun _ => True.intro))⟩
theorem ok_195_31 : BkOK mi i_195 (bpf P_195) 31 (B_195.getD 31 bk0) := ⟨150, rfl, t_gt dX6_linkOf_150 (by decide) rfl⟩
theorem ok_195_32 : BkOK mi i_195 (bpf P_195) 32 (B_195.getD 32 bk0) := ⟨154, ⟨1, s_iconst dX6_linkOf_153 rfl, rfl⟩, t_go dX6_linkOf_154 (by decide)⟩
theorem ok_195_33 : BkOK mi i_195 (bpf P_195) 33 (B_195.getD 33 bk0) := ⟨158, ⟨1, s_iconst dX6_linkOf_157 rfl, rfl⟩, t_fall rfl⟩
theorem ok_195_34 : BkOK mi i_195 (bpf P_195) 34 (B_195.getD 34 bk0) := ⟨162, ⟨2, s_istore dX6_linkOf_158 (by decide), ⟨2, s_iload dX6_linkOf_160, rfl⟩⟩, t_eq0 dX6_linkOf_162 (by decide) rfl⟩
theorem ok_195_35 : BkOK mi i_195 (bpf P_195) 35 (B_195.getD 35 bk0) := ⟨167, ⟨1, s_aload_n dX6_linkOf_165 rfl, ⟨1, s_iconst dX6_linkOf_166 rfl, rfl⟩⟩, t_cv rfl mi_187 mok_187 rfl (fun _ => ⟨rfl, by decide +kernel⟩) (fun hs' e => by cases e; intro E n b h; cases h) (fun q fs As rest h hp hA hr => (call_V (i := i_195) (j := i_187) (C := RX6) (T := TX6) (N := 30) dX6_linkOf_167 mok_187 rfl ⟨by decide, by decide⟩ np_187 rfl rfl wt_1412 wt_1414 ws_39 hp hA hr rfl).thr (fun _ => True.intro))⟩
theorem ok_195_36 : BkOK mi i_195 (bpf P_195) 36 (B_195.getD 36 bk0) := ⟨170, rfl, t_go dX6_linkOf_170 (by decide)⟩
theorem ok_195_37 : BkOK mi i_195 (bpf P_195) 37 (B_195.getD 37 bk0) := ⟨174, ⟨1, s_iconst dX6_linkOf_173 rfl, rfl⟩, t_fall rfl⟩
theorem ok_195_38 : BkOK mi i_195 (bpf P_195) 38 (B_195.getD 38 bk0) := ⟨174, rfl, t_ret dX6_linkOf_174 rfl⟩
theorem ok_195 : ∀ b, BkOK mi i_195 (bpf P_195) b (B_195.getD b bk0)
  | 0 => ok_195_0
  | 1 => ok_195_1
  | 2 => ok_195_2
  | 3 => ok_195_3
  | 4 => ok_195_4
  | 5 => ok_195_5
  | 6 => ok_195_6
  | 7 => ok_195_7
  | 8 => ok_195_8
  | 9 => ok_195_9
  | 10 => ok_195_10
  | 11 => ok_195_11
  | 12 => ok_195_12
  | 13 => ok_195_13
  | 14 => ok_195_14
  | 15 => ok_195_15
  | 16 => ok_195_16
  | 17 => ok_195_17
  | 18 => ok_195_18
  | 19 => ok_195_19
  | 20 => ok_195_20
  | 21 => ok_195_21
  | 22 => ok_195_22
  | 23 => ok_195_23
  | 24 => ok_195_24
  | 25 => ok_195_25
  | 26 => ok_195_26
  | 27 => ok_195_27
  | 28 => ok_195_28
  | 29 => ok_195_29
  | 30 => ok_195_30
  | 31 => ok_195_31
  | 32 => ok_195_32
  | 33 => ok_195_33
  | 34 => ok_195_34
  | 35 => ok_195_35
  | 36 => ok_195_36
  | 37 => ok_195_37
  | 38 => ok_195_38
  | b + 39 => bk_none mi i_195 (bpf P_195) (b + 39)
theorem ok_196_0 : BkOK mi i_196 (bpf P_196) 0 (B_196.getD 0 bk0) := ⟨2, ⟨1, s_iconst dX6_isInOrder_0 rfl, ⟨1, s_istore_n dX6_isInOrder_1 rfl (by decide), rfl⟩⟩, t_fall rfl⟩
theorem ok_196_1 : BkOK mi i_196 (bpf P_196) 1 (B_196.getD 1 bk0) := ⟨4, ⟨1, s_iload_n dX6_isInOrder_2 rfl, ⟨1, s_iload_n dX6_isInOrder_3 rfl, rfl⟩⟩, t_ge dX6_isInOrder_4 (by decide) rfl⟩
theorem ok_196_2 : BkOK mi i_196 (bpf P_196) 2 (B_196.getD 2 bk0) := ⟨14, ⟨1, s_aload_n dX6_isInOrder_7 rfl, ⟨3, s_get (C := RX6) (T := TX6) (N := 30) dX6_isInOrder_8 rfl (by decide) wt_1157 uw_X6, ⟨1, s_iconst dX6_isInOrder_11 rfl, ⟨1, s_iald dX6_isInOrder_12, ⟨1, s_iconst dX6_isInOrder_13 rfl, rfl⟩⟩⟩⟩⟩, t_nei dX6_isInOrder_14 (by decide) rfl⟩
theorem ok_196_3 : BkOK mi i_196 (bpf P_196) 3 (B_196.getD 3 bk0) := ⟨31, ⟨1, s_aload_n dX6_isInOrder_17 rfl, ⟨3, s_get (C := RX6) (T := TX6) (N := 30) dX6_isInOrder_18 rfl (by decide) wt_1174 uw_X6, ⟨1, s_iload_n dX6_isInOrder_21 rfl, ⟨1, s_iald dX6_isInOrder_22, ⟨1, s_aload_n dX6_isInOrder_23 rfl, ⟨3, s_get (C := RX6) (T := TX6) (N := 30) dX6_isInOrder_24 rfl (by decide) wt_1174 uw_X6, ⟨1, s_iload_n dX6_isInOrder_27 rfl, ⟨1, s_iconst dX6_isInOrder_28 rfl, ⟨1, s_isub dX6_isInOrder_29, ⟨1, s_iald dX6_isInOrder_30, rfl⟩⟩⟩⟩⟩⟩⟩⟩⟩⟩, t_gt dX6_isInOrder_31 (by decide) rfl⟩
theorem ok_196_4 : BkOK mi i_196 (bpf P_196) 4 (B_196.getD 4 bk0) := ⟨34, rfl, t_go dX6_isInOrder_34 (by decide)⟩
theorem ok_196_5 : BkOK mi i_196 (bpf P_196) 5 (B_196.getD 5 bk0) := ⟨51, ⟨1, s_aload_n dX6_isInOrder_37 rfl, ⟨3, s_get (C := RX6) (T := TX6) (N := 30) dX6_isInOrder_38 rfl (by decide) wt_1174 uw_X6, ⟨1, s_iload_n dX6_isInOrder_41 rfl, ⟨1, s_iald dX6_isInOrder_42, ⟨1, s_aload_n dX6_isInOrder_43 rfl, ⟨3, s_get (C := RX6) (T := TX6) (N := 30) dX6_isInOrder_44 rfl (by decide) wt_1174 uw_X6, ⟨1, s_iload_n dX6_isInOrder_47 rfl, ⟨1, s_iconst dX6_isInOrder_48 rfl, ⟨1, s_isub dX6_isInOrder_49, ⟨1, s_iald dX6_isInOrder_50, rfl⟩⟩⟩⟩⟩⟩⟩⟩⟩⟩, t_lt dX6_isInOrder_51 (by decide) rfl⟩
theorem ok_196_6 : BkOK mi i_196 (bpf P_196) 6 (B_196.getD 6 bk0) := ⟨55, ⟨1, s_iconst dX6_isInOrder_54 rfl, rfl⟩, t_retZ dX6_isInOrder_55 rfl⟩
theorem ok_196_7 : BkOK mi i_196 (bpf P_196) 7 (B_196.getD 7 bk0) := ⟨59, ⟨3, s_iinc dX6_isInOrder_56 rfl (by decide), rfl⟩, t_go dX6_isInOrder_59 (by decide)⟩
theorem ok_196_8 : BkOK mi i_196 (bpf P_196) 8 (B_196.getD 8 bk0) := ⟨63, ⟨1, s_iconst dX6_isInOrder_62 rfl, rfl⟩, t_retZ dX6_isInOrder_63 rfl⟩
theorem ok_196 : ∀ b, BkOK mi i_196 (bpf P_196) b (B_196.getD b bk0)
  | 0 => ok_196_0
  | 1 => ok_196_1
  | 2 => ok_196_2
  | 3 => ok_196_3
  | 4 => ok_196_4
  | 5 => ok_196_5
  | 6 => ok_196_6
  | 7 => ok_196_7
  | 8 => ok_196_8
  | b + 9 => bk_none mi i_196 (bpf P_196) (b + 9)
theorem ok_197_0 : BkOK mi i_197 (bpf P_197) 0 (B_197.getD 0 bk0) := ⟨2, ⟨1, s_iconst dX6_mayPlay_0 rfl, ⟨1, s_istore_n dX6_mayPlay_1 rfl (by decide), rfl⟩⟩, t_fall rfl⟩
theorem ok_197_1 : BkOK mi i_197 (bpf P_197) 1 (B_197.getD 1 bk0) := ⟨5, ⟨1, s_iload_n dX6_mayPlay_2 rfl, ⟨1, s_aload_n dX6_mayPlay_3 rfl, ⟨1, s_iload_n dX6_mayPlay_4 rfl, rfl⟩⟩⟩, t_cv rfl mi_183 mok_183 rfl (fun _ => ⟨rfl, by decide +kernel⟩) (fun hs' e => by cases e; intro E n b h; cases h) (fun q fs As rest h hp hA hr => (call_V (i := i_197) (j := i_183) (C := RX6) (T := TX6) (N := 30) dX6_mayPlay_5 mok_183 rfl ⟨by decide, by decide⟩ np_183 rfl rfl wt_1381 wt_1383 ws_32 hp hA hr rfl).thr (fun _ => True.intro))⟩
theorem ok_197_2 : BkOK mi i_197 (bpf P_197) 2 (B_197.getD 2 bk0) := ⟨8, rfl, t_ge dX6_mayPlay_8 (by decide) rfl⟩
theorem ok_197_3 : BkOK mi i_197 (bpf P_197) 3 (B_197.getD 3 bk0) := ⟨14, ⟨1, s_aload_n dX6_mayPlay_11 rfl, ⟨1, s_iload_n dX6_mayPlay_12 rfl, ⟨1, s_iload_n dX6_mayPlay_13 rfl, rfl⟩⟩⟩, t_cv rfl mi_186 mok_186 rfl (fun _ => ⟨rfl, by decide +kernel⟩) (fun hs' e => by cases e; intro E n b h; cases h) (fun q fs As rest h hp hA hr => (call_V (i := i_197) (j := i_186) (C := RX6) (T := TX6) (N := 30) dX6_mayPlay_14 mok_186 rfl ⟨by decide, by decide⟩ np_186 rfl rfl wt_1447 wt_1449 ws_46 hp hA hr rfl).thr (fun _ => True.intro))⟩
theorem ok_197_4 : BkOK mi i_197 (bpf P_197) 4 (B_197.getD 4 bk0) := ⟨28, ⟨1, s_aload_n dX6_mayPlay_17 rfl, ⟨3, s_get (C := RX6) (T := TX6) (N := 30) dX6_mayPlay_18 rfl (by decide) wt_1174 uw_X6, ⟨1, s_iload_n dX6_mayPlay_21 rfl, ⟨1, s_iald dX6_mayPlay_22, ⟨1, s_iconst dX6_mayPlay_23 rfl, ⟨1, s_isub dX6_mayPlay_24, ⟨1, s_ishr dX6_mayPlay_25, ⟨1, s_iconst dX6_mayPlay_26 rfl, ⟨1, s_iand dX6_mayPlay_27, rfl⟩⟩⟩⟩⟩⟩⟩⟩⟩, t_ne0 dX6_mayPlay_28 (by decide) rfl⟩
theorem ok_197_5 : BkOK mi i_197 (bpf P_197) 5 (B_197.getD 5 bk0) := ⟨32, ⟨1, s_iconst dX6_mayPlay_31 rfl, rfl⟩, t_retZ dX6_mayPlay_32 rfl⟩
theorem ok_197_6 : BkOK mi i_197 (bpf P_197) 6 (B_197.getD 6 bk0) := ⟨36, ⟨3, s_iinc dX6_mayPlay_33 rfl (by decide), rfl⟩, t_go dX6_mayPlay_36 (by decide)⟩
theorem ok_197_7 : BkOK mi i_197 (bpf P_197) 7 (B_197.getD 7 bk0) := ⟨40, ⟨1, s_iconst dX6_mayPlay_39 rfl, rfl⟩, t_retZ dX6_mayPlay_40 rfl⟩
theorem ok_197 : ∀ b, BkOK mi i_197 (bpf P_197) b (B_197.getD b bk0)
  | 0 => ok_197_0
  | 1 => ok_197_1
  | 2 => ok_197_2
  | 3 => ok_197_3
  | 4 => ok_197_4
  | 5 => ok_197_5
  | 6 => ok_197_6
  | 7 => ok_197_7
  | b + 8 => bk_none mi i_197 (bpf P_197) (b + 8)
theorem ok_198_0 : BkOK mi i_198 (bpf P_198) 0 (B_198.getD 0 bk0) := ⟨2, ⟨1, s_aload_n dX6_costHere_0 rfl, ⟨1, s_iload_n dX6_costHere_1 rfl, rfl⟩⟩, t_cv rfl mi_183 mok_183 rfl (fun _ => ⟨rfl, by decide +kernel⟩) (fun hs' e => by cases e; intro E n b h; cases h) (fun q fs As rest h hp hA hr => (call_V (i := i_198) (j := i_183) (C := RX6) (T := TX6) (N := 30) dX6_costHere_2 mok_183 rfl ⟨by decide, by decide⟩ np_183 rfl rfl wt_1381 wt_1383 ws_32 hp hA hr rfl).thr (fun _ => True.intro))⟩
theorem ok_198_1 : BkOK mi i_198 (bpf P_198) 1 (B_198.getD 1 bk0) := ⟨8, ⟨1, s_istore_n dX6_costHere_5 rfl (by decide), ⟨1, s_aload_n dX6_costHere_6 rfl, ⟨1, s_iload_n dX6_costHere_7 rfl, rfl⟩⟩⟩, t_cv rfl mi_196 mok_196 rfl (fun _ => ⟨rfl, by decide +kernel⟩) (fun hs' e => by cases e; intro E n b h; cases h) (fun q fs As rest h hp hA hr => (call_V (i := i_198) (j := i_196) (C := RX6) (T := TX6) (N := 30) dX6_costHere_8 mok_196 rfl ⟨by decide, by decide⟩ np_196 rfl rfl wt_1439 wt_1441 ws_44 hp hA hr rfl).thr (fun _ => True.intro))⟩
theorem ok_198_2 : BkOK mi i_198 (bpf P_198) 2 (B_198.getD 2 bk0) := ⟨11, rfl, t_eq0 dX6_costHere_11 (by decide) rfl⟩
theorem ok_198_3 : BkOK mi i_198 (bpf P_198) 3 (B_198.getD 3 bk0) := ⟨16, ⟨1, s_aload_n dX6_costHere_14 rfl, ⟨1, s_iload_n dX6_costHere_15 rfl, rfl⟩⟩, t_cv rfl mi_197 mok_197 rfl (fun _ => ⟨rfl, by decide +kernel⟩) (fun hs' e => by cases e; intro E n b h; cases h) (fun q fs As rest h hp hA hr => (call_V (i := i_198) (j := i_197) (C := RX6) (T := TX6) (N := 30) dX6_costHere_16 mok_197 rfl ⟨by decide, by decide⟩ np_197 rfl rfl wt_1443 wt_1445 ws_45 hp hA hr rfl).thr (fun _ => True.intro))⟩
theorem ok_198_4 : BkOK mi i_198 (bpf P_198) 4 (B_198.getD 4 bk0) := ⟨19, rfl, t_ne0 dX6_costHere_19 (by decide) rfl⟩
theorem ok_198_5 : BkOK mi i_198 (bpf P_198) 5 (B_198.getD 5 bk0) := ⟨23, ⟨1, s_iconst dX6_costHere_22 rfl, rfl⟩, t_ret dX6_costHere_23 rfl⟩
theorem ok_198_6 : BkOK mi i_198 (bpf P_198) 6 (B_198.getD 6 bk0) := ⟨29, ⟨1, s_iconst dX6_costHere_24 rfl, ⟨1, s_istore_n dX6_costHere_25 rfl (by decide), ⟨1, s_iconst dX6_costHere_26 rfl, ⟨2, s_istore dX6_costHere_27 (by decide), rfl⟩⟩⟩⟩, t_fall rfl⟩
theorem ok_198_7 : BkOK mi i_198 (bpf P_198) 7 (B_198.getD 7 bk0) := ⟨32, ⟨2, s_iload dX6_costHere_29, ⟨1, s_iload_n dX6_costHere_31 rfl, rfl⟩⟩, t_ge dX6_costHere_32 (by decide) rfl⟩
theorem ok_198_8 : BkOK mi i_198 (bpf P_198) 8 (B_198.getD 8 bk0) := ⟨44, ⟨1, s_iload_n dX6_costHere_35 rfl, ⟨1, s_aload_n dX6_costHere_36 rfl, ⟨3, s_get (C := RX6) (T := TX6) (N := 30) dX6_costHere_37 rfl (by decide) wt_1174 uw_X6, ⟨2, s_iload dX6_costHere_40, ⟨1, s_iald dX6_costHere_42, ⟨1, s_iconst dX6_costHere_43 rfl, rfl⟩⟩⟩⟩⟩⟩, t_eq dX6_costHere_44 (by decide) rfl⟩
theorem ok_198_9 : BkOK mi i_198 (bpf P_198) 9 (B_198.getD 9 bk0) := ⟨55, ⟨1, s_aload_n dX6_costHere_47 rfl, ⟨3, s_get (C := RX6) (T := TX6) (N := 30) dX6_costHere_48 rfl (by decide) wt_1174 uw_X6, ⟨2, s_iload dX6_costHere_51, ⟨1, s_iald dX6_costHere_53, ⟨1, s_iconst dX6_costHere_54 rfl, rfl⟩⟩⟩⟩⟩, t_nei dX6_costHere_55 (by decide) rfl⟩
theorem ok_198_10 : BkOK mi i_198 (bpf P_198) 10 (B_198.getD 10 bk0) := ⟨62, ⟨1, s_aload_n dX6_costHere_58 rfl, ⟨1, s_iload_n dX6_costHere_59 rfl, ⟨2, s_iload dX6_costHere_60, rfl⟩⟩⟩, t_cv rfl mi_185 mok_185 rfl (fun _ => ⟨rfl, by decide +kernel⟩) (fun hs' e => by cases e; intro E n b h; cases h) (fun q fs As rest h hp hA hr => (call_V (i := i_198) (j := i_185) (C := RX6) (T := TX6) (N := 30) dX6_costHere_62 mok_185 rfl ⟨by decide, by decide⟩ np_185 rfl rfl wt_1389 wt_1391 ws_34 hp hA hr rfl).thr (fun _ => True.intro))⟩
theorem ok_198_11 : BkOK mi i_198 (bpf P_198) 11 (B_198.getD 11 bk0) := ⟨65, rfl, t_cs rfl mi_191 mok_191 rfl (fun As rest h hA hr => call_S dX6_costHere_65 mok_191 rfl ⟨by decide, by decide⟩ np_191 wt_1397 wt_1398 hA hr)⟩
theorem ok_198_12 : BkOK mi i_198 (bpf P_198) 12 (B_198.getD 12 bk0) := ⟨68, rfl, t_eq0 dX6_costHere_68 (by decide) rfl⟩
theorem ok_198_13 : BkOK mi i_198 (bpf P_198) 13 (B_198.getD 13 bk0) := ⟨73, ⟨1, s_aload_n dX6_costHere_71 rfl, ⟨1, s_iconst dX6_costHere_72 rfl, rfl⟩⟩, t_cv rfl mi_187 mok_187 rfl (fun _ => ⟨rfl, by decide +kernel⟩) (fun hs' e => by cases e; intro E n b h; cases h) (fun q fs As rest h hp hA hr => (call_V (i := i_198) (j := i_187) (C := RX6) (T := TX6) (N := 30) dX6_costHere_73 mok_187 rfl ⟨by decide, by decide⟩ np_187 rfl rfl wt_1412 wt_1414 ws_39 hp hA hr rfl).thr (fun _ => True.intro))⟩
theorem ok_198_14 : BkOK mi i_198 (bpf P_198) 14 (B_198.getD 14 bk0) := ⟨76, rfl, t_go dX6_costHere_76 (by decide)⟩
theorem ok_198_15 : BkOK mi i_198 (bpf P_198) 15 (B_198.getD 15 bk0) := ⟨80, ⟨1, s_iconst dX6_costHere_79 rfl, rfl⟩, t_fall rfl⟩
theorem ok_198_16 : BkOK mi i_198 (bpf P_198) 16 (B_198.getD 16 bk0) := ⟨91, ⟨1, s_iadd dX6_costHere_80, ⟨1, s_istore_n dX6_costHere_81 rfl (by decide), ⟨1, s_iload_n dX6_costHere_82 rfl, ⟨1, s_aload_n dX6_costHere_83 rfl, ⟨3, s_get (C := RX6) (T := TX6) (N := 30) dX6_costHere_84 rfl (by decide) wt_1174 uw_X6, ⟨2, s_iload dX6_costHere_87, ⟨1, s_iald dX6_costHere_89, ⟨1, s_iconst dX6_costHere_90 rfl, rfl⟩⟩⟩⟩⟩⟩⟩⟩, t_nei dX6_costHere_91 (by decide) rfl⟩
theorem ok_198_17 : BkOK mi i_198 (bpf P_198) 17 (B_198.getD 17 bk0) := ⟨97, ⟨1, s_aload_n dX6_costHere_94 rfl, ⟨2, s_bipush dX6_costHere_95 rfl, rfl⟩⟩, t_cv rfl mi_187 mok_187 rfl (fun _ => ⟨rfl, by decide +kernel⟩) (fun hs' e => by cases e; intro E n b h; cases h) (fun q fs As rest h hp hA hr => (call_V (i := i_198) (j := i_187) (C := RX6) (T := TX6) (N := 30) dX6_costHere_97 mok_187 rfl ⟨by decide, by decide⟩ np_187 rfl rfl wt_1412 wt_1414 ws_39 hp hA hr rfl).thr (fun _ => True.intro))⟩
theorem ok_198_18 : BkOK mi i_198 (bpf P_198) 18 (B_198.getD 18 bk0) := ⟨100, rfl, t_go dX6_costHere_100 (by decide)⟩
theorem ok_198_19 : BkOK mi i_198 (bpf P_198) 19 (B_198.getD 19 bk0) := ⟨104, ⟨1, s_iconst dX6_costHere_103 rfl, rfl⟩, t_fall rfl⟩
theorem ok_198_20 : BkOK mi i_198 (bpf P_198) 20 (B_198.getD 20 bk0) := ⟨108, ⟨1, s_iadd dX6_costHere_104, ⟨1, s_istore_n dX6_costHere_105 rfl (by decide), ⟨2, s_iload dX6_costHere_106, rfl⟩⟩⟩, t_ne0 dX6_costHere_108 (by decide) rfl⟩
theorem ok_198_21 : BkOK mi i_198 (bpf P_198) 21 (B_198.getD 21 bk0) := ⟨111, rfl, t_go dX6_costHere_111 (by decide)⟩
theorem ok_198_22 : BkOK mi i_198 (bpf P_198) 22 (B_198.getD 22 bk0) := ⟨135, ⟨1, s_aload_n dX6_costHere_114 rfl, ⟨1, s_aload_n dX6_costHere_115 rfl, ⟨3, s_get (C := RX6) (T := TX6) (N := 30) dX6_costHere_116 rfl (by decide) wt_1174 uw_X6, ⟨2, s_iload dX6_costHere_119, ⟨1, s_iconst dX6_costHere_121 rfl, ⟨1, s_isub dX6_costHere_122, ⟨1, s_iald dX6_costHere_123, ⟨1, s_aload_n dX6_costHere_124 rfl, ⟨3, s_get (C := RX6) (T := TX6) (N := 30) dX6_costHere_125 rfl (by decide) wt_1174 uw_X6, ⟨2, s_iload dX6_costHere_128, ⟨1, s_iald dX6_costHere_130, ⟨1, s_aload_n dX6_costHere_131 rfl, ⟨1, s_iload_n dX6_costHere_132 rfl, ⟨2, s_iload dX6_costHere_133, rfl⟩⟩⟩⟩⟩⟩⟩⟩⟩⟩⟩⟩⟩⟩, t_cv rfl mi_185 mok_185 rfl (fun _ => ⟨rfl, by decide +kernel⟩) (fun hs' e => by cases e; intro E n b h; cases h) (fun q fs As rest h hp hA hr => (call_V (i := i_198) (j := i_185) (C := RX6) (T := TX6) (N := 30) dX6_costHere_135 mok_185 rfl ⟨by decide, by decide⟩ np_185 rfl rfl wt_1389 wt_1391 ws_34 hp hA hr rfl).thr (fun _ => True.intro))⟩
theorem ok_198_23 : BkOK mi i_198 (bpf P_198) 23 (B_198.getD 23 bk0) := ⟨144, ⟨1, s_aload_n dX6_costHere_138 rfl, ⟨1, s_iload_n dX6_costHere_139 rfl, ⟨2, s_iload dX6_costHere_140, ⟨1, s_iconst dX6_costHere_142 rfl, ⟨1, s_isub dX6_costHere_143, rfl⟩⟩⟩⟩⟩, t_cv rfl mi_185 mok_185 rfl (fun _ => ⟨rfl, by decide +kernel⟩) (fun hs' e => by cases e; intro E n b h; cases h) (fun q fs As rest h hp hA hr => (call_V (i := i_198) (j := i_185) (C := RX6) (T := TX6) (N := 30) dX6_costHere_144 mok_185 rfl ⟨by decide, by decide⟩ np_185 rfl rfl wt_1389 wt_1391 ws_34 hp hA hr rfl).thr (fun _ => True.intro))⟩
theorem ok_198_24 : BkOK mi i_198 (bpf P_198) 24 (B_198.getD 24 bk0) := ⟨148, ⟨1, s_isub dX6_costHere_147, rfl⟩, t_cv rfl mi_194 mok_194 rfl (fun _ => ⟨rfl, by decide +kernel⟩) (fun hs' e => by cases e; intro E n b h; cases h) (fun q fs As rest h hp hA hr => (call_V (i := i_198) (j := i_194) (C := RX6) (T := TX6) (N := 30) dX6_costHere_148 mok_194 rfl ⟨by decide, by decide⟩ np_194 rfl rfl wt_1451 wt_1453 ws_47 hp hA hr rfl).thr (fun _ => True.intro))⟩
theorem ok_198_25 : BkOK mi i_198 (bpf P_198) 25 (B_198.getD 25 bk0) := ⟨156, ⟨2, s_istore dX6_costHere_151 (by decide), ⟨2, s_iload dX6_costHere_153, ⟨1, s_iconst dX6_costHere_155 rfl, rfl⟩⟩⟩, t_nei dX6_costHere_156 (by decide) rfl⟩
theorem ok_198_26 : BkOK mi i_198 (bpf P_198) 26 (B_198.getD 26 bk0) := ⟨160, ⟨1, s_iconst dX6_costHere_159 rfl, rfl⟩, t_ret dX6_costHere_160 rfl⟩
theorem ok_198_27 : BkOK mi i_198 (bpf P_198) 27 (B_198.getD 27 bk0) := ⟨164, ⟨1, s_iload_n dX6_costHere_161 rfl, ⟨1, s_aload_n dX6_costHere_162 rfl, ⟨1, s_iconst dX6_costHere_163 rfl, rfl⟩⟩⟩, t_cv rfl mi_187 mok_187 rfl (fun _ => ⟨rfl, by decide +kernel⟩) (fun hs' e => by cases e; intro E n b h; cases h) (fun q fs As rest h hp hA hr => (call_V (i := i_198) (j := i_187) (C := RX6) (T := TX6) (N := 30) dX6_costHere_164 mok_187 rfl ⟨by decide, by decide⟩ np_187 rfl rfl wt_1412 wt_1414 ws_39 hp hA hr rfl).thr (fun _ => True.intro))⟩
theorem ok_198_28 : BkOK mi i_198 (bpf P_198) 28 (B_198.getD 28 bk0) := ⟨172, ⟨2, s_iload dX6_costHere_167, ⟨1, s_imul dX6_costHere_169, ⟨1, s_iadd dX6_costHere_170, ⟨1, s_istore_n dX6_costHere_171 rfl (by decide), rfl⟩⟩⟩⟩, t_fall rfl⟩
theorem ok_198_29 : BkOK mi i_198 (bpf P_198) 29 (B_198.getD 29 bk0) := ⟨175, ⟨3, s_iinc dX6_costHere_172 rfl (by decide), rfl⟩, t_go dX6_costHere_175 (by decide)⟩
theorem ok_198_30 : BkOK mi i_198 (bpf P_198) 30 (B_198.getD 30 bk0) := ⟨179, ⟨1, s_iload_n dX6_costHere_178 rfl, rfl⟩, t_ret dX6_costHere_179 rfl⟩
theorem ok_198 : ∀ b, BkOK mi i_198 (bpf P_198) b (B_198.getD b bk0)
  | 0 => ok_198_0
  | 1 => ok_198_1
  | 2 => ok_198_2
  | 3 => ok_198_3
  | 4 => ok_198_4
  | 5 => ok_198_5
  | 6 => ok_198_6
  | 7 => ok_198_7
  | 8 => ok_198_8
  | 9 => ok_198_9
  | 10 => ok_198_10
  | 11 => ok_198_11
  | 12 => ok_198_12
  | 13 => ok_198_13
  | 14 => ok_198_14
  | 15 => ok_198_15
  | 16 => ok_198_16
  | 17 => ok_198_17
  | 18 => ok_198_18
  | 19 => ok_198_19
  | 20 => ok_198_20
  | 21 => ok_198_21
  | 22 => ok_198_22
  | 23 => ok_198_23
  | 24 => ok_198_24
  | 25 => ok_198_25
  | 26 => ok_198_26
  | 27 => ok_198_27
  | 28 => ok_198_28
  | 29 => ok_198_29
  | 30 => ok_198_30
  | b + 31 => bk_none mi i_198 (bpf P_198) (b + 31)
theorem ok_199_0 : BkOK mi i_199 (bpf P_199) 0 (B_199.getD 0 bk0) := ⟨1, ⟨1, s_iload_n dX6_fingerIn_0 rfl, rfl⟩, t_ne0 dX6_fingerIn_1 (by decide) rfl⟩
theorem ok_199_1 : BkOK mi i_199 (bpf P_199) 1 (B_199.getD 1 bk0) := ⟨10, ⟨1, s_iload_n dX6_fingerIn_4 rfl, ⟨2, s_bipush dX6_fingerIn_5 rfl, ⟨1, s_idiv dX6_fingerIn_7, ⟨1, s_iconst dX6_fingerIn_8 rfl, ⟨1, s_iadd dX6_fingerIn_9, rfl⟩⟩⟩⟩⟩, t_go dX6_fingerIn_10 (by decide)⟩
theorem ok_199_2 : BkOK mi i_199 (bpf P_199) 2 (B_199.getD 2 bk0) := ⟨15, ⟨1, s_iload_n dX6_fingerIn_13 rfl, ⟨1, s_iconst dX6_fingerIn_14 rfl, rfl⟩⟩, t_nei dX6_fingerIn_15 (by decide) rfl⟩
theorem ok_199_3 : BkOK mi i_199 (bpf P_199) 3 (B_199.getD 3 bk0) := ⟨25, ⟨1, s_iload_n dX6_fingerIn_18 rfl, ⟨1, s_iconst dX6_fingerIn_19 rfl, ⟨1, s_idiv dX6_fingerIn_20, ⟨1, s_iconst dX6_fingerIn_21 rfl, ⟨1, s_irem dX6_fingerIn_22, ⟨1, s_iconst dX6_fingerIn_23 rfl, ⟨1, s_iadd dX6_fingerIn_24, rfl⟩⟩⟩⟩⟩⟩⟩, t_go dX6_fingerIn_25 (by decide)⟩
theorem ok_199_4 : BkOK mi i_199 (bpf P_199) 4 (B_199.getD 4 bk0) := ⟨33, ⟨1, s_iload_n dX6_fingerIn_28 rfl, ⟨1, s_iconst dX6_fingerIn_29 rfl, ⟨1, s_irem dX6_fingerIn_30, ⟨1, s_iconst dX6_fingerIn_31 rfl, ⟨1, s_iadd dX6_fingerIn_32, rfl⟩⟩⟩⟩⟩, t_fall rfl⟩
theorem ok_199_5 : BkOK mi i_199 (bpf P_199) 5 (B_199.getD 5 bk0) := ⟨33, rfl, t_ret dX6_fingerIn_33 rfl⟩
theorem ok_199 : ∀ b, BkOK mi i_199 (bpf P_199) b (B_199.getD b bk0)
  | 0 => ok_199_0
  | 1 => ok_199_1
  | 2 => ok_199_2
  | 3 => ok_199_3
  | 4 => ok_199_4
  | 5 => ok_199_5
  | b + 6 => bk_none mi i_199 (bpf P_199) (b + 6)
theorem ok_200_0 : BkOK mi i_200 (bpf P_200) 0 (B_200.getD 0 bk0) := ⟨2, ⟨1, s_iconst dX6_looksAt_0 rfl, ⟨1, s_istore_n dX6_looksAt_1 rfl (by decide), rfl⟩⟩, t_fall rfl⟩
theorem ok_200_1 : BkOK mi i_200 (bpf P_200) 1 (B_200.getD 1 bk0) := ⟨4, ⟨1, s_iload_n dX6_looksAt_2 rfl, ⟨1, s_iload_n dX6_looksAt_3 rfl, rfl⟩⟩, t_ge dX6_looksAt_4 (by decide) rfl⟩
theorem ok_200_2 : BkOK mi i_200 (bpf P_200) 2 (B_200.getD 2 bk0) := ⟨14, ⟨1, s_aload_n dX6_looksAt_7 rfl, ⟨3, s_get (C := RX6) (T := TX6) (N := 30) dX6_looksAt_8 rfl (by decide) wt_1174 uw_X6, ⟨1, s_iload_n dX6_looksAt_11 rfl, ⟨1, s_iload_n dX6_looksAt_12 rfl, ⟨1, s_iload_n dX6_looksAt_13 rfl, rfl⟩⟩⟩⟩⟩, t_cs rfl mi_199 mok_199 rfl (fun As rest h hA hr => call_S dX6_looksAt_14 mok_199 rfl ⟨by decide, by decide⟩ np_199 wt_1432 wt_1433 hA hr)⟩
theorem ok_200_3 : BkOK mi i_200 (bpf P_200) 3 (B_200.getD 3 bk0) := ⟨21, ⟨1, s_iast dX6_looksAt_17, ⟨3, s_iinc dX6_looksAt_18 rfl (by decide), rfl⟩⟩, t_go dX6_looksAt_21 (by decide)⟩
theorem ok_200_4 : BkOK mi i_200 (bpf P_200) 4 (B_200.getD 4 bk0) := ⟨24, rfl, t_retV dX6_looksAt_24 rfl⟩
theorem ok_200 : ∀ b, BkOK mi i_200 (bpf P_200) b (B_200.getD b bk0)
  | 0 => ok_200_0
  | 1 => ok_200_1
  | 2 => ok_200_2
  | 3 => ok_200_3
  | 4 => ok_200_4
  | b + 5 => bk_none mi i_200 (bpf P_200) (b + 5)
theorem ok_201_0 : BkOK mi i_201 (bpf P_201) 0 (B_201.getD 0 bk0) := ⟨2, ⟨1, s_iconst dX6_laysShapes_0 rfl, ⟨1, s_istore_n dX6_laysShapes_1 rfl (by decide), rfl⟩⟩, t_fall rfl⟩
theorem ok_201_1 : BkOK mi i_201 (bpf P_201) 1 (B_201.getD 1 bk0) := ⟨4, ⟨1, s_iload_n dX6_laysShapes_2 rfl, ⟨1, s_aload_n dX6_laysShapes_3 rfl, rfl⟩⟩, t_cv rfl mi_182 mok_182 rfl (fun _ => ⟨rfl, by decide +kernel⟩) (fun hs' e => by cases e; intro E n b h; cases h) (fun q fs As rest h hp hA hr => (call_V (i := i_201) (j := i_182) (C := RX6) (T := TX6) (N := 30) dX6_laysShapes_4 mok_182 rfl ⟨by decide, by decide⟩ np_182 rfl rfl wt_1275 wt_1277 ws_16 hp hA hr rfl).thr (fun _ => True.intro))⟩
theorem ok_201_2 : BkOK mi i_201 (bpf P_201) 2 (B_201.getD 2 bk0) := ⟨7, rfl, t_ge dX6_laysShapes_7 (by decide) rfl⟩
theorem ok_201_3 : BkOK mi i_201 (bpf P_201) 3 (B_201.getD 3 bk0) := ⟨19, ⟨1, s_aload_n dX6_laysShapes_10 rfl, ⟨3, s_get (C := RX6) (T := TX6) (N := 30) dX6_laysShapes_11 rfl (by decide) wt_1177 uw_X6, ⟨1, s_iload_n dX6_laysShapes_14 rfl, ⟨1, s_iconst dX6_laysShapes_15 rfl, ⟨1, s_iast dX6_laysShapes_16, ⟨1, s_aload_n dX6_laysShapes_17 rfl, ⟨1, s_iload_n dX6_laysShapes_18 rfl, rfl⟩⟩⟩⟩⟩⟩⟩, t_cv rfl mi_183 mok_183 rfl (fun _ => ⟨rfl, by decide +kernel⟩) (fun hs' e => by cases e; intro E n b h; cases h) (fun q fs As rest h hp hA hr => (call_V (i := i_201) (j := i_183) (C := RX6) (T := TX6) (N := 30) dX6_laysShapes_19 mok_183 rfl ⟨by decide, by decide⟩ np_183 rfl rfl wt_1381 wt_1383 ws_32 hp hA hr rfl).thr (fun _ => True.intro))⟩
theorem ok_201_4 : BkOK mi i_201 (bpf P_201) 4 (B_201.getD 4 bk0) := ⟨23, ⟨1, s_iconst dX6_laysShapes_22 rfl, rfl⟩, t_nei dX6_laysShapes_23 (by decide) rfl⟩
theorem ok_201_5 : BkOK mi i_201 (bpf P_201) 5 (B_201.getD 5 bk0) := ⟨28, ⟨2, s_bipush dX6_laysShapes_26 rfl, rfl⟩, t_go dX6_laysShapes_28 (by decide)⟩
theorem ok_201_6 : BkOK mi i_201 (bpf P_201) 6 (B_201.getD 6 bk0) := ⟨33, ⟨1, s_aload_n dX6_laysShapes_31 rfl, ⟨1, s_iload_n dX6_laysShapes_32 rfl, rfl⟩⟩, t_cv rfl mi_183 mok_183 rfl (fun _ => ⟨rfl, by decide +kernel⟩) (fun hs' e => by cases e; intro E n b h; cases h) (fun q fs As rest h hp hA hr => (call_V (i := i_201) (j := i_183) (C := RX6) (T := TX6) (N := 30) dX6_laysShapes_33 mok_183 rfl ⟨by decide, by decide⟩ np_183 rfl rfl wt_1381 wt_1383 ws_32 hp hA hr rfl).thr (fun _ => True.intro))⟩
theorem ok_201_7 : BkOK mi i_201 (bpf P_201) 7 (B_201.getD 7 bk0) := ⟨37, ⟨1, s_iconst dX6_laysShapes_36 rfl, rfl⟩, t_nei dX6_laysShapes_37 (by decide) rfl⟩
theorem ok_201_8 : BkOK mi i_201 (bpf P_201) 8 (B_201.getD 8 bk0) := ⟨41, ⟨1, s_iconst dX6_laysShapes_40 rfl, rfl⟩, t_go dX6_laysShapes_41 (by decide)⟩
theorem ok_201_9 : BkOK mi i_201 (bpf P_201) 9 (B_201.getD 9 bk0) := ⟨45, ⟨1, s_iconst dX6_laysShapes_44 rfl, rfl⟩, t_fall rfl⟩
theorem ok_201_10 : BkOK mi i_201 (bpf P_201) 10 (B_201.getD 10 bk0) := ⟨48, ⟨1, s_istore_n dX6_laysShapes_45 rfl (by decide), ⟨1, s_iconst dX6_laysShapes_46 rfl, ⟨1, s_istore_n dX6_laysShapes_47 rfl (by decide), rfl⟩⟩⟩, t_fall rfl⟩
theorem ok_201_11 : BkOK mi i_201 (bpf P_201) 11 (B_201.getD 11 bk0) := ⟨51, ⟨1, s_iload_n dX6_laysShapes_48 rfl, ⟨2, s_bipush dX6_laysShapes_49 rfl, rfl⟩⟩, t_ge dX6_laysShapes_51 (by decide) rfl⟩
theorem ok_201_12 : BkOK mi i_201 (bpf P_201) 12 (B_201.getD 12 bk0) := ⟨58, ⟨1, s_aload_n dX6_laysShapes_54 rfl, ⟨1, s_iload_n dX6_laysShapes_55 rfl, ⟨1, s_aload_n dX6_laysShapes_56 rfl, ⟨1, s_iload_n dX6_laysShapes_57 rfl, rfl⟩⟩⟩⟩, t_cv rfl mi_183 mok_183 rfl (fun _ => ⟨rfl, by decide +kernel⟩) (fun hs' e => by cases e; intro E n b h; cases h) (fun q fs As rest h hp hA hr => (call_V (i := i_201) (j := i_183) (C := RX6) (T := TX6) (N := 30) dX6_laysShapes_58 mok_183 rfl ⟨by decide, by decide⟩ np_183 rfl rfl wt_1381 wt_1383 ws_32 hp hA hr rfl).thr (fun _ => True.intro))⟩
theorem ok_201_13 : BkOK mi i_201 (bpf P_201) 13 (B_201.getD 13 bk0) := ⟨61, rfl, t_cv rfl mi_200 mok_200 rfl (fun _ => ⟨rfl, by decide +kernel⟩) (fun hs' e => by cases e; intro E n b h; cases h) (fun q fs As rest h hp hA hr => (call_V (i := i_201) (j := i_200) (C := RX6) (T := TX6) (N := 30) dX6_laysShapes_61 mok_200 rfl ⟨by decide, by decide⟩ np_200 rfl rfl wt_1428 wt_1430 ws_42 hp hA hr rfl).thr (fun _ => True.intro))⟩
theorem ok_201_14 : BkOK mi i_201 (bpf P_201) 14 (B_201.getD 14 bk0) := ⟨66, ⟨1, s_aload_n dX6_laysShapes_64 rfl, ⟨1, s_iload_n dX6_laysShapes_65 rfl, rfl⟩⟩, t_cv rfl mi_198 mok_198 rfl (fun _ => ⟨rfl, by decide +kernel⟩) (fun hs' e => by cases e; intro E n b h; cases h) (fun q fs As rest h hp hA hr => (call_V (i := i_201) (j := i_198) (C := RX6) (T := TX6) (N := 30) dX6_laysShapes_66 mok_198 rfl ⟨by decide, by decide⟩ np_198 rfl rfl wt_1435 wt_1437 ws_43 hp hA hr rfl).thr (fun _ => True.intro))⟩
theorem ok_201_15 : BkOK mi i_201 (bpf P_201) 15 (B_201.getD 15 bk0) := ⟨74, ⟨2, s_istore dX6_laysShapes_69 (by decide), ⟨2, s_iload dX6_laysShapes_71, ⟨1, s_iconst dX6_laysShapes_73 rfl, rfl⟩⟩⟩, t_nei dX6_laysShapes_74 (by decide) rfl⟩
theorem ok_201_16 : BkOK mi i_201 (bpf P_201) 16 (B_201.getD 16 bk0) := ⟨77, rfl, t_go dX6_laysShapes_77 (by decide)⟩
theorem ok_201_17 : BkOK mi i_201 (bpf P_201) 17 (B_201.getD 17 bk0) := ⟨125, ⟨1, s_aload_n dX6_laysShapes_80 rfl, ⟨3, s_get (C := RX6) (T := TX6) (N := 30) dX6_laysShapes_81 rfl (by decide) wt_1175 uw_X6, ⟨2, s_bipush dX6_laysShapes_84 rfl, ⟨1, s_iload_n dX6_laysShapes_86 rfl, ⟨1, s_imul dX6_laysShapes_87, ⟨1, s_aload_n dX6_laysShapes_88 rfl, ⟨3, s_get (C := RX6) (T := TX6) (N := 30) dX6_laysShapes_89 rfl (by decide) wt_1177 uw_X6, ⟨1, s_iload_n dX6_laysShapes_92 rfl, ⟨1, s_iald dX6_laysShapes_93, ⟨1, s_iadd dX6_laysShapes_94, ⟨1, s_iload_n dX6_laysShapes_95 rfl, ⟨1, s_iast dX6_laysShapes_96, ⟨1, s_aload_n dX6_laysShapes_97 rfl, ⟨3, s_get (C := RX6) (T := TX6) (N := 30) dX6_laysShapes_98 rfl (by decide) wt_1176 uw_X6, ⟨2, s_bipush dX6_laysShapes_101 rfl, ⟨1, s_iload_n dX6_laysShapes_103 rfl, ⟨1, s_imul dX6_laysShapes_104, ⟨1, s_aload_n dX6_laysShapes_105 rfl, ⟨3, s_get (C := RX6) (T := TX6) (N := 30) dX6_laysShapes_106 rfl (by decide) wt_1177 uw_X6, ⟨1, s_iload_n dX6_laysShapes_109 rfl, ⟨1, s_iald dX6_laysShapes_110, ⟨1, s_iadd dX6_laysShapes_111, ⟨2, s_iload dX6_laysShapes_112, ⟨1, s_iast dX6_laysShapes_114, ⟨1, s_aload_n dX6_laysShapes_115 rfl, ⟨3, s_get (C := RX6) (T := TX6) (N := 30) dX6_laysShapes_116 rfl (by decide) wt_1177 uw_X6, ⟨1, s_iload_n dX6_laysShapes_119 rfl, ⟨1, s_dup2 dX6_laysShapes_120, ⟨1, s_iald dX6_laysShapes_121, ⟨1, s_iconst dX6_laysShapes_122 rfl, ⟨1, s_iadd dX6_laysShapes_123, ⟨1, s_iast dX6_laysShapes_124, rfl⟩⟩⟩⟩⟩⟩⟩⟩⟩⟩⟩⟩⟩⟩⟩⟩⟩⟩⟩⟩⟩⟩⟩⟩⟩⟩⟩⟩⟩⟩⟩⟩, t_fall rfl⟩
theorem ok_201_18 : BkOK mi i_201 (bpf P_201) 18 (B_201.getD 18 bk0) := ⟨129, ⟨1, s_iload_n dX6_laysShapes_125 rfl, ⟨1, s_iload_n dX6_laysShapes_126 rfl, ⟨1, s_iadd dX6_laysShapes_127, ⟨1, s_istore_n dX6_laysShapes_128 rfl (by decide), rfl⟩⟩⟩⟩, t_go dX6_laysShapes_129 (by decide)⟩
theorem ok_201_19 : BkOK mi i_201 (bpf P_201) 19 (B_201.getD 19 bk0) := ⟨135, ⟨3, s_iinc dX6_laysShapes_132 rfl (by decide), rfl⟩, t_go dX6_laysShapes_135 (by decide)⟩
theorem ok_201_20 : BkOK mi i_201 (bpf P_201) 20 (B_201.getD 20 bk0) := ⟨138, rfl, t_retV dX6_laysShapes_138 rfl⟩
theorem ok_201 : ∀ b, BkOK mi i_201 (bpf P_201) b (B_201.getD b bk0)
  | 0 => ok_201_0
  | 1 => ok_201_1
  | 2 => ok_201_2
  | 3 => ok_201_3
  | 4 => ok_201_4
  | 5 => ok_201_5
  | 6 => ok_201_6
  | 7 => ok_201_7
  | 8 => ok_201_8
  | 9 => ok_201_9
  | 10 => ok_201_10
  | 11 => ok_201_11
  | 12 => ok_201_12
  | 13 => ok_201_13
  | 14 => ok_201_14
  | 15 => ok_201_15
  | 16 => ok_201_16
  | 17 => ok_201_17
  | 18 => ok_201_18
  | 19 => ok_201_19
  | 20 => ok_201_20
  | b + 21 => bk_none mi i_201 (bpf P_201) (b + 21)
theorem ok_202_0 : BkOK mi i_202 (bpf P_202) 0 (B_202.getD 0 bk0) := ⟨7, ⟨1, s_aload_n dX6_firstNote_0 rfl, ⟨3, s_get (C := RX6) (T := TX6) (N := 30) dX6_firstNote_1 rfl (by decide) wt_1157 uw_X6, ⟨1, s_iconst dX6_firstNote_4 rfl, ⟨1, s_iald dX6_firstNote_5, ⟨1, s_iconst dX6_firstNote_6 rfl, rfl⟩⟩⟩⟩⟩, t_nei dX6_firstNote_7 (by decide) rfl⟩
theorem ok_202_1 : BkOK mi i_202 (bpf P_202) 1 (B_202.getD 1 bk0) := ⟨11, ⟨1, s_iconst dX6_firstNote_10 rfl, rfl⟩, t_go dX6_firstNote_11 (by decide)⟩
theorem ok_202_2 : BkOK mi i_202 (bpf P_202) 2 (B_202.getD 2 bk0) := ⟨16, ⟨1, s_aload_n dX6_firstNote_14 rfl, ⟨1, s_iload_n dX6_firstNote_15 rfl, rfl⟩⟩, t_cv rfl mi_183 mok_183 rfl (fun _ => ⟨rfl, by decide +kernel⟩) (fun hs' e => by cases e; intro E n b h; cases h) (fun q fs As rest h hp hA hr => (call_V (i := i_202) (j := i_183) (C := RX6) (T := TX6) (N := 30) dX6_firstNote_16 mok_183 rfl ⟨by decide, by decide⟩ np_183 rfl rfl wt_1381 wt_1383 ws_32 hp hA hr rfl).thr (fun _ => True.intro))⟩
theorem ok_202_3 : BkOK mi i_202 (bpf P_202) 3 (B_202.getD 3 bk0) := ⟨21, ⟨1, s_iconst dX6_firstNote_19 rfl, ⟨1, s_isub dX6_firstNote_20, rfl⟩⟩, t_fall rfl⟩
theorem ok_202_4 : BkOK mi i_202 (bpf P_202) 4 (B_202.getD 4 bk0) := ⟨21, rfl, t_ret dX6_firstNote_21 rfl⟩
theorem ok_202 : ∀ b, BkOK mi i_202 (bpf P_202) b (B_202.getD b bk0)
  | 0 => ok_202_0
  | 1 => ok_202_1
  | 2 => ok_202_2
  | 3 => ok_202_3
  | 4 => ok_202_4
  | b + 5 => bk_none mi i_202 (bpf P_202) (b + 5)
theorem ok_203_0 : BkOK mi i_203 (bpf P_203) 0 (B_203.getD 0 bk0) := ⟨7, ⟨1, s_aload_n dX6_lastNote_0 rfl, ⟨3, s_get (C := RX6) (T := TX6) (N := 30) dX6_lastNote_1 rfl (by decide) wt_1157 uw_X6, ⟨1, s_iconst dX6_lastNote_4 rfl, ⟨1, s_iald dX6_lastNote_5, ⟨1, s_iconst dX6_lastNote_6 rfl, rfl⟩⟩⟩⟩⟩, t_nei dX6_lastNote_7 (by decide) rfl⟩
theorem ok_203_1 : BkOK mi i_203 (bpf P_203) 1 (B_203.getD 1 bk0) := ⟨12, ⟨1, s_aload_n dX6_lastNote_10 rfl, ⟨1, s_iload_n dX6_lastNote_11 rfl, rfl⟩⟩, t_cv rfl mi_183 mok_183 rfl (fun _ => ⟨rfl, by decide +kernel⟩) (fun hs' e => by cases e; intro E n b h; cases h) (fun q fs As rest h hp hA hr => (call_V (i := i_203) (j := i_183) (C := RX6) (T := TX6) (N := 30) dX6_lastNote_12 mok_183 rfl ⟨by decide, by decide⟩ np_183 rfl rfl wt_1381 wt_1383 ws_32 hp hA hr rfl).thr (fun _ => True.intro))⟩
theorem ok_203_2 : BkOK mi i_203 (bpf P_203) 2 (B_203.getD 2 bk0) := ⟨17, ⟨1, s_iconst dX6_lastNote_15 rfl, ⟨1, s_isub dX6_lastNote_16, rfl⟩⟩, t_go dX6_lastNote_17 (by decide)⟩
theorem ok_203_3 : BkOK mi i_203 (bpf P_203) 3 (B_203.getD 3 bk0) := ⟨21, ⟨1, s_iconst dX6_lastNote_20 rfl, rfl⟩, t_fall rfl⟩
theorem ok_203_4 : BkOK mi i_203 (bpf P_203) 4 (B_203.getD 4 bk0) := ⟨21, rfl, t_ret dX6_lastNote_21 rfl⟩
theorem ok_203 : ∀ b, BkOK mi i_203 (bpf P_203) b (B_203.getD b bk0)
  | 0 => ok_203_0
  | 1 => ok_203_1
  | 2 => ok_203_2
  | 3 => ok_203_3
  | 4 => ok_203_4
  | b + 5 => bk_none mi i_203 (bpf P_203) (b + 5)
theorem ok_204_0 : BkOK mi i_204 (bpf P_204) 0 (B_204.getD 0 bk0) := ⟨3, ⟨1, s_aload_n dX6_linkBy_0 rfl, ⟨1, s_iload_n dX6_linkBy_1 rfl, ⟨1, s_iload_n dX6_linkBy_2 rfl, rfl⟩⟩⟩, t_cs rfl mi_199 mok_199 rfl (fun As rest h hA hr => call_S dX6_linkBy_3 mok_199 rfl ⟨by decide, by decide⟩ np_199 wt_1432 wt_1433 hA hr)⟩
theorem ok_204_1 : BkOK mi i_204 (bpf P_204) 1 (B_204.getD 1 bk0) := ⟨9, ⟨1, s_aload_n dX6_linkBy_6 rfl, ⟨1, s_iload_n dX6_linkBy_7 rfl, ⟨1, s_iload_n dX6_linkBy_8 rfl, rfl⟩⟩⟩, t_cv rfl mi_185 mok_185 rfl (fun _ => ⟨rfl, by decide +kernel⟩) (fun hs' e => by cases e; intro E n b h; cases h) (fun q fs As rest h hp hA hr => (call_V (i := i_204) (j := i_185) (C := RX6) (T := TX6) (N := 30) dX6_linkBy_9 mok_185 rfl ⟨by decide, by decide⟩ np_185 rfl rfl wt_1389 wt_1391 ws_34 hp hA hr rfl).thr (fun _ => True.intro))⟩
theorem ok_204_2 : BkOK mi i_204 (bpf P_204) 2 (B_204.getD 2 bk0) := ⟨16, ⟨2, s_iload dX6_linkBy_12, ⟨2, s_iload dX6_linkBy_14, rfl⟩⟩, t_cs rfl mi_199 mok_199 rfl (fun As rest h hA hr => call_S dX6_linkBy_16 mok_199 rfl ⟨by decide, by decide⟩ np_199 wt_1432 wt_1433 hA hr)⟩
theorem ok_204_3 : BkOK mi i_204 (bpf P_204) 3 (B_204.getD 3 bk0) := ⟨25, ⟨1, s_aload_n dX6_linkBy_19 rfl, ⟨1, s_iload_n dX6_linkBy_20 rfl, ⟨1, s_iconst dX6_linkBy_21 rfl, ⟨1, s_iadd dX6_linkBy_22, ⟨2, s_iload dX6_linkBy_23, rfl⟩⟩⟩⟩⟩, t_cv rfl mi_185 mok_185 rfl (fun _ => ⟨rfl, by decide +kernel⟩) (fun hs' e => by cases e; intro E n b h; cases h) (fun q fs As rest h hp hA hr => (call_V (i := i_204) (j := i_185) (C := RX6) (T := TX6) (N := 30) dX6_linkBy_25 mok_185 rfl ⟨by decide, by decide⟩ np_185 rfl rfl wt_1389 wt_1391 ws_34 hp hA hr rfl).thr (fun _ => True.intro))⟩
theorem ok_204_4 : BkOK mi i_204 (bpf P_204) 4 (B_204.getD 4 bk0) := ⟨28, rfl, t_cv rfl mi_195 mok_195 rfl (fun _ => ⟨rfl, by decide +kernel⟩) (fun hs' e => by cases e; intro E n b h; cases h) (fun q fs As rest h hp hA hr => (call_V (i := i_204) (j := i_195) (C := RX6) (T := TX6) (N := 30) dX6_linkBy_28 mok_195 rfl ⟨by decide, by decide⟩ np_195 rfl rfl wt_1481 wt_1483 ws_49 hp hA hr rfl).thr (fun _ => True.intro))⟩
theorem ok_204_5 : BkOK mi i_204 (bpf P_204) 5 (B_204.getD 5 bk0) := ⟨31, rfl, t_ret dX6_linkBy_31 rfl⟩
theorem ok_204 : ∀ b, BkOK mi i_204 (bpf P_204) b (B_204.getD b bk0)
  | 0 => ok_204_0
  | 1 => ok_204_1
  | 2 => ok_204_2
  | 3 => ok_204_3
  | 4 => ok_204_4
  | 5 => ok_204_5
  | b + 6 => bk_none mi i_204 (bpf P_204) (b + 6)
theorem ok_205_0 : BkOK mi i_205 (bpf P_205) 0 (B_205.getD 0 bk0) := ⟨2, ⟨1, s_aload_n dX6_passage_0 rfl, ⟨1, s_iload_n dX6_passage_1 rfl, rfl⟩⟩, t_cv rfl mi_193 mok_193 rfl (fun _ => ⟨rfl, by decide +kernel⟩) (fun hs' e => by cases e; intro E n b h; cases h) (fun q fs As rest h hp hA hr => (call_V (i := i_205) (j := i_193) (C := RX6) (T := TX6) (N := 30) dX6_passage_2 mok_193 rfl ⟨by decide, by decide⟩ np_193 rfl rfl wt_1404 wt_1406 ws_37 hp hA hr rfl).thr (fun _ => True.intro))⟩
theorem ok_205_1 : BkOK mi i_205 (bpf P_205) 1 (B_205.getD 1 bk0) := ⟨5, rfl, t_eq0 dX6_passage_5 (by decide) rfl⟩
theorem ok_205_2 : BkOK mi i_205 (bpf P_205) 2 (B_205.getD 2 bk0) := ⟨9, ⟨1, s_iconst dX6_passage_8 rfl, rfl⟩, t_ret dX6_passage_9 rfl⟩
theorem ok_205_3 : BkOK mi i_205 (bpf P_205) 3 (B_205.getD 3 bk0) := ⟨15, ⟨1, s_aload_n dX6_passage_10 rfl, ⟨1, s_iload_n dX6_passage_11 rfl, ⟨1, s_iload_n dX6_passage_12 rfl, ⟨1, s_aload_n dX6_passage_13 rfl, ⟨1, s_iload_n dX6_passage_14 rfl, rfl⟩⟩⟩⟩⟩, t_cv rfl mi_202 mok_202 rfl (fun _ => ⟨rfl, by decide +kernel⟩) (fun hs' e => by cases e; intro E n b h; cases h) (fun q fs As rest h hp hA hr => (call_V (i := i_205) (j := i_202) (C := RX6) (T := TX6) (N := 30) dX6_passage_15 mok_202 rfl ⟨by decide, by decide⟩ np_202 rfl rfl wt_1506 wt_1508 ws_54 hp hA hr rfl).thr (fun _ => True.intro))⟩
theorem ok_205_4 : BkOK mi i_205 (bpf P_205) 4 (B_205.getD 4 bk0) := ⟨23, ⟨1, s_iload_n dX6_passage_18 rfl, ⟨1, s_aload_n dX6_passage_19 rfl, ⟨1, s_iload_n dX6_passage_20 rfl, ⟨1, s_iconst dX6_passage_21 rfl, ⟨1, s_iadd dX6_passage_22, rfl⟩⟩⟩⟩⟩, t_cv rfl mi_202 mok_202 rfl (fun _ => ⟨rfl, by decide +kernel⟩) (fun hs' e => by cases e; intro E n b h; cases h) (fun q fs As rest h hp hA hr => (call_V (i := i_205) (j := i_202) (C := RX6) (T := TX6) (N := 30) dX6_passage_23 mok_202 rfl ⟨by decide, by decide⟩ np_202 rfl rfl wt_1506 wt_1508 ws_54 hp hA hr rfl).thr (fun _ => True.intro))⟩
theorem ok_205_5 : BkOK mi i_205 (bpf P_205) 5 (B_205.getD 5 bk0) := ⟨26, rfl, t_cv rfl mi_204 mok_204 rfl (fun _ => ⟨rfl, by decide +kernel⟩) (fun hs' e => by cases e; intro E n b h; cases h) (fun q fs As rest h hp hA hr => (call_V (i := i_205) (j := i_204) (C := RX6) (T := TX6) (N := 30) dX6_passage_26 mok_204 rfl ⟨by decide, by decide⟩ np_204 rfl rfl wt_1510 wt_1512 ws_55 hp hA hr rfl).thr (fun _ => True.intro))⟩
theorem ok_205_6 : BkOK mi i_205 (bpf P_205) 6 (B_205.getD 6 bk0) := ⟨33, ⟨2, s_istore dX6_passage_29 (by decide), ⟨1, s_aload_n dX6_passage_31 rfl, ⟨1, s_iload_n dX6_passage_32 rfl, rfl⟩⟩⟩, t_cv rfl mi_183 mok_183 rfl (fun _ => ⟨rfl, by decide +kernel⟩) (fun hs' e => by cases e; intro E n b h; cases h) (fun q fs As rest h hp hA hr => (call_V (i := i_205) (j := i_183) (C := RX6) (T := TX6) (N := 30) dX6_passage_33 mok_183 rfl ⟨by decide, by decide⟩ np_183 rfl rfl wt_1381 wt_1383 ws_32 hp hA hr rfl).thr (fun _ => True.intro))⟩
theorem ok_205_7 : BkOK mi i_205 (bpf P_205) 7 (B_205.getD 7 bk0) := ⟨40, ⟨1, s_aload_n dX6_passage_36 rfl, ⟨1, s_iload_n dX6_passage_37 rfl, ⟨1, s_iconst dX6_passage_38 rfl, ⟨1, s_iadd dX6_passage_39, rfl⟩⟩⟩⟩, t_cv rfl mi_183 mok_183 rfl (fun _ => ⟨rfl, by decide +kernel⟩) (fun hs' e => by cases e; intro E n b h; cases h) (fun q fs As rest h hp hA hr => (call_V (i := i_205) (j := i_183) (C := RX6) (T := TX6) (N := 30) dX6_passage_40 mok_183 rfl ⟨by decide, by decide⟩ np_183 rfl rfl wt_1381 wt_1383 ws_32 hp hA hr rfl).thr (fun _ => True.intro))⟩
theorem ok_205_8 : BkOK mi i_205 (bpf P_205) 8 (B_205.getD 8 bk0) := ⟨45, ⟨1, s_iadd dX6_passage_43, ⟨1, s_iconst dX6_passage_44 rfl, rfl⟩⟩, t_nei dX6_passage_45 (by decide) rfl⟩
theorem ok_205_9 : BkOK mi i_205 (bpf P_205) 9 (B_205.getD 9 bk0) := ⟨49, ⟨1, s_iconst dX6_passage_48 rfl, rfl⟩, t_go dX6_passage_49 (by decide)⟩
theorem ok_205_10 : BkOK mi i_205 (bpf P_205) 10 (B_205.getD 10 bk0) := ⟨57, ⟨1, s_aload_n dX6_passage_52 rfl, ⟨1, s_iload_n dX6_passage_53 rfl, ⟨1, s_iload_n dX6_passage_54 rfl, ⟨1, s_aload_n dX6_passage_55 rfl, ⟨1, s_iload_n dX6_passage_56 rfl, rfl⟩⟩⟩⟩⟩, t_cv rfl mi_203 mok_203 rfl (fun _ => ⟨rfl, by decide +kernel⟩) (fun hs' e => by cases e; intro E n b h; cases h) (fun q fs As rest h hp hA hr => (call_V (i := i_205) (j := i_203) (C := RX6) (T := TX6) (N := 30) dX6_passage_57 mok_203 rfl ⟨by decide, by decide⟩ np_203 rfl rfl wt_1514 wt_1516 ws_56 hp hA hr rfl).thr (fun _ => True.intro))⟩
theorem ok_205_11 : BkOK mi i_205 (bpf P_205) 11 (B_205.getD 11 bk0) := ⟨65, ⟨1, s_iload_n dX6_passage_60 rfl, ⟨1, s_aload_n dX6_passage_61 rfl, ⟨1, s_iload_n dX6_passage_62 rfl, ⟨1, s_iconst dX6_passage_63 rfl, ⟨1, s_iadd dX6_passage_64, rfl⟩⟩⟩⟩⟩, t_cv rfl mi_203 mok_203 rfl (fun _ => ⟨rfl, by decide +kernel⟩) (fun hs' e => by cases e; intro E n b h; cases h) (fun q fs As rest h hp hA hr => (call_V (i := i_205) (j := i_203) (C := RX6) (T := TX6) (N := 30) dX6_passage_65 mok_203 rfl ⟨by decide, by decide⟩ np_203 rfl rfl wt_1514 wt_1516 ws_56 hp hA hr rfl).thr (fun _ => True.intro))⟩
theorem ok_205_12 : BkOK mi i_205 (bpf P_205) 12 (B_205.getD 12 bk0) := ⟨68, rfl, t_cv rfl mi_204 mok_204 rfl (fun _ => ⟨rfl, by decide +kernel⟩) (fun hs' e => by cases e; intro E n b h; cases h) (fun q fs As rest h hp hA hr => (call_V (i := i_205) (j := i_204) (C := RX6) (T := TX6) (N := 30) dX6_passage_68 mok_204 rfl ⟨by decide, by decide⟩ np_204 rfl rfl wt_1510 wt_1512 ws_55 hp hA hr rfl).thr (fun _ => True.intro))⟩
theorem ok_205_13 : BkOK mi i_205 (bpf P_205) 13 (B_205.getD 13 bk0) := ⟨76, ⟨2, s_istore dX6_passage_71 (by decide), ⟨2, s_iload dX6_passage_73, ⟨1, s_iconst dX6_passage_75 rfl, rfl⟩⟩⟩, t_eq dX6_passage_76 (by decide) rfl⟩
theorem ok_205_14 : BkOK mi i_205 (bpf P_205) 14 (B_205.getD 14 bk0) := ⟨82, ⟨2, s_iload dX6_passage_79, ⟨1, s_iconst dX6_passage_81 rfl, rfl⟩⟩, t_nei dX6_passage_82 (by decide) rfl⟩
theorem ok_205_15 : BkOK mi i_205 (bpf P_205) 15 (B_205.getD 15 bk0) := ⟨86, ⟨1, s_iconst dX6_passage_85 rfl, rfl⟩, t_ret dX6_passage_86 rfl⟩
theorem ok_205_16 : BkOK mi i_205 (bpf P_205) 16 (B_205.getD 16 bk0) := ⟨96, ⟨1, s_iconst dX6_passage_87 rfl, ⟨2, s_iload dX6_passage_88, ⟨2, s_iload dX6_passage_90, ⟨1, s_iadd dX6_passage_92, ⟨1, s_aload_n dX6_passage_93 rfl, ⟨2, s_bipush dX6_passage_94 rfl, rfl⟩⟩⟩⟩⟩⟩, t_cv rfl mi_187 mok_187 rfl (fun _ => ⟨rfl, by decide +kernel⟩) (fun hs' e => by cases e; intro E n b h; cases h) (fun q fs As rest h hp hA hr => (call_V (i := i_205) (j := i_187) (C := RX6) (T := TX6) (N := 30) dX6_passage_96 mok_187 rfl ⟨by decide, by decide⟩ np_187 rfl rfl wt_1412 wt_1414 ws_39 hp hA hr rfl).thr (fun _ => True.intro))⟩
theorem ok_205_17 : BkOK mi i_205 (bpf P_205) 17 (B_205.getD 17 bk0) := ⟨101, ⟨1, s_aload_n dX6_passage_99 rfl, ⟨1, s_iload_n dX6_passage_100 rfl, rfl⟩⟩, t_cv rfl mi_184 mok_184 rfl (fun _ => ⟨rfl, by decide +kernel⟩) (fun hs' e => by cases e; intro E n b h; cases h) (fun q fs As rest h hp hA hr => (call_V (i := i_205) (j := i_184) (C := RX6) (T := TX6) (N := 30) dX6_passage_101 mok_184 rfl ⟨by decide, by decide⟩ np_184 rfl rfl wt_1408 wt_1410 ws_38 hp hA hr rfl).thr (fun _ => True.intro))⟩
theorem ok_205_18 : BkOK mi i_205 (bpf P_205) 18 (B_205.getD 18 bk0) := ⟨109, ⟨1, s_imul dX6_passage_104, ⟨1, s_isub dX6_passage_105, ⟨3, s_mmax dX6_passage_106 wt_1156x wt_43 wt_4 wt_44 ⟨by decide, by decide⟩, rfl⟩⟩⟩, t_ret dX6_passage_109 rfl⟩
theorem ok_205 : ∀ b, BkOK mi i_205 (bpf P_205) b (B_205.getD b bk0)
  | 0 => ok_205_0
  | 1 => ok_205_1
  | 2 => ok_205_2
  | 3 => ok_205_3
  | 4 => ok_205_4
  | 5 => ok_205_5
  | 6 => ok_205_6
  | 7 => ok_205_7
  | 8 => ok_205_8
  | 9 => ok_205_9
  | 10 => ok_205_10
  | 11 => ok_205_11
  | 12 => ok_205_12
  | 13 => ok_205_13
  | 14 => ok_205_14
  | 15 => ok_205_15
  | 16 => ok_205_16
  | 17 => ok_205_17
  | 18 => ok_205_18
  | b + 19 => bk_none mi i_205 (bpf P_205) (b + 19)
theorem ok_206_0 : BkOK mi i_206 (bpf P_206) 0 (B_206.getD 0 bk0) := ⟨2, ⟨1, s_iload_n dX6_isCrossing_0 rfl, ⟨1, s_iload_n dX6_isCrossing_1 rfl, rfl⟩⟩, t_cs rfl mi_199 mok_199 rfl (fun As rest h hA hr => call_S dX6_isCrossing_2 mok_199 rfl ⟨by decide, by decide⟩ np_199 wt_1432 wt_1433 hA hr)⟩
theorem ok_206_1 : BkOK mi i_206 (bpf P_206) 1 (B_206.getD 1 bk0) := ⟨11, ⟨2, s_istore dX6_isCrossing_5 (by decide), ⟨2, s_iload dX6_isCrossing_7, ⟨2, s_iload dX6_isCrossing_9, rfl⟩⟩⟩, t_cs rfl mi_199 mok_199 rfl (fun As rest h hA hr => call_S dX6_isCrossing_11 mok_199 rfl ⟨by decide, by decide⟩ np_199 wt_1432 wt_1433 hA hr)⟩
theorem ok_206_2 : BkOK mi i_206 (bpf P_206) 2 (B_206.getD 2 bk0) := ⟨23, ⟨2, s_istore dX6_isCrossing_14 (by decide), ⟨1, s_aload_n dX6_isCrossing_16 rfl, ⟨3, s_get (C := RX6) (T := TX6) (N := 30) dX6_isCrossing_17 rfl (by decide) wt_1157 uw_X6, ⟨1, s_iconst dX6_isCrossing_20 rfl, ⟨1, s_iald dX6_isCrossing_21, ⟨1, s_iconst dX6_isCrossing_22 rfl, rfl⟩⟩⟩⟩⟩⟩, t_nei dX6_isCrossing_23 (by decide) rfl⟩
theorem ok_206_3 : BkOK mi i_206 (bpf P_206) 3 (B_206.getD 3 bk0) := ⟨32, ⟨1, s_aload_n dX6_isCrossing_26 rfl, ⟨1, s_iload_n dX6_isCrossing_27 rfl, ⟨1, s_iconst dX6_isCrossing_28 rfl, ⟨1, s_iadd dX6_isCrossing_29, ⟨2, s_iload dX6_isCrossing_30, rfl⟩⟩⟩⟩⟩, t_cv rfl mi_185 mok_185 rfl (fun _ => ⟨rfl, by decide +kernel⟩) (fun hs' e => by cases e; intro E n b h; cases h) (fun q fs As rest h hp hA hr => (call_V (i := i_206) (j := i_185) (C := RX6) (T := TX6) (N := 30) dX6_isCrossing_32 mok_185 rfl ⟨by decide, by decide⟩ np_185 rfl rfl wt_1389 wt_1391 ws_34 hp hA hr rfl).thr (fun _ => True.intro))⟩
theorem ok_206_4 : BkOK mi i_206 (bpf P_206) 4 (B_206.getD 4 bk0) := ⟨38, ⟨1, s_aload_n dX6_isCrossing_35 rfl, ⟨1, s_iload_n dX6_isCrossing_36 rfl, ⟨1, s_iload_n dX6_isCrossing_37 rfl, rfl⟩⟩⟩, t_cv rfl mi_185 mok_185 rfl (fun _ => ⟨rfl, by decide +kernel⟩) (fun hs' e => by cases e; intro E n b h; cases h) (fun q fs As rest h hp hA hr => (call_V (i := i_206) (j := i_185) (C := RX6) (T := TX6) (N := 30) dX6_isCrossing_38 mok_185 rfl ⟨by decide, by decide⟩ np_185 rfl rfl wt_1389 wt_1391 ws_34 hp hA hr rfl).thr (fun _ => True.intro))⟩
theorem ok_206_5 : BkOK mi i_206 (bpf P_206) 5 (B_206.getD 5 bk0) := ⟨42, ⟨1, s_isub dX6_isCrossing_41, rfl⟩, t_go dX6_isCrossing_42 (by decide)⟩
theorem ok_206_6 : BkOK mi i_206 (bpf P_206) 6 (B_206.getD 6 bk0) := ⟨48, ⟨1, s_aload_n dX6_isCrossing_45 rfl, ⟨1, s_iload_n dX6_isCrossing_46 rfl, ⟨1, s_iload_n dX6_isCrossing_47 rfl, rfl⟩⟩⟩, t_cv rfl mi_185 mok_185 rfl (fun _ => ⟨rfl, by decide +kernel⟩) (fun hs' e => by cases e; intro E n b h; cases h) (fun q fs As rest h hp hA hr => (call_V (i := i_206) (j := i_185) (C := RX6) (T := TX6) (N := 30) dX6_isCrossing_48 mok_185 rfl ⟨by decide, by decide⟩ np_185 rfl rfl wt_1389 wt_1391 ws_34 hp hA hr rfl).thr (fun _ => True.intro))⟩
theorem ok_206_7 : BkOK mi i_206 (bpf P_206) 7 (B_206.getD 7 bk0) := ⟨57, ⟨1, s_aload_n dX6_isCrossing_51 rfl, ⟨1, s_iload_n dX6_isCrossing_52 rfl, ⟨1, s_iconst dX6_isCrossing_53 rfl, ⟨1, s_iadd dX6_isCrossing_54, ⟨2, s_iload dX6_isCrossing_55, rfl⟩⟩⟩⟩⟩, t_cv rfl mi_185 mok_185 rfl (fun _ => ⟨rfl, by decide +kernel⟩) (fun hs' e => by cases e; intro E n b h; cases h) (fun q fs As rest h hp hA hr => (call_V (i := i_206) (j := i_185) (C := RX6) (T := TX6) (N := 30) dX6_isCrossing_57 mok_185 rfl ⟨by decide, by decide⟩ np_185 rfl rfl wt_1389 wt_1391 ws_34 hp hA hr rfl).thr (fun _ => True.intro))⟩
theorem ok_206_8 : BkOK mi i_206 (bpf P_206) 8 (B_206.getD 8 bk0) := ⟨61, ⟨1, s_isub dX6_isCrossing_60, rfl⟩, t_fall rfl⟩
theorem ok_206_9 : BkOK mi i_206 (bpf P_206) 9 (B_206.getD 9 bk0) := ⟨65, ⟨2, s_istore dX6_isCrossing_61 (by decide), ⟨2, s_iload dX6_isCrossing_63, rfl⟩⟩, t_eq0 dX6_isCrossing_65 (by decide) rfl⟩
theorem ok_206_10 : BkOK mi i_206 (bpf P_206) 10 (B_206.getD 10 bk0) := ⟨72, ⟨2, s_iload dX6_isCrossing_68, ⟨2, s_iload dX6_isCrossing_70, rfl⟩⟩, t_eq dX6_isCrossing_72 (by decide) rfl⟩
theorem ok_206_11 : BkOK mi i_206 (bpf P_206) 11 (B_206.getD 11 bk0) := ⟨77, ⟨2, s_iload dX6_isCrossing_75, rfl⟩, t_le0 dX6_isCrossing_77 (by decide) rfl⟩
theorem ok_206_12 : BkOK mi i_206 (bpf P_206) 12 (B_206.getD 12 bk0) := ⟨81, ⟨1, s_iconst dX6_isCrossing_80 rfl, rfl⟩, t_go dX6_isCrossing_81 (by decide)⟩
theorem ok_206_13 : BkOK mi i_206 (bpf P_206) 13 (B_206.getD 13 bk0) := ⟨85, ⟨1, s_iconst dX6_isCrossing_84 rfl, rfl⟩, t_fall rfl⟩
theorem ok_206_14 : BkOK mi i_206 (bpf P_206) 14 (B_206.getD 14 bk0) := ⟨89, ⟨2, s_iload dX6_isCrossing_85, ⟨2, s_iload dX6_isCrossing_87, rfl⟩⟩, t_le dX6_isCrossing_89 (by decide) rfl⟩
theorem ok_206_15 : BkOK mi i_206 (bpf P_206) 15 (B_206.getD 15 bk0) := ⟨93, ⟨1, s_iconst dX6_isCrossing_92 rfl, rfl⟩, t_go dX6_isCrossing_93 (by decide)⟩
theorem ok_206_16 : BkOK mi i_206 (bpf P_206) 16 (B_206.getD 16 bk0) := ⟨97, ⟨1, s_iconst dX6_isCrossing_96 rfl, rfl⟩, t_fall rfl⟩
theorem ok_206_17 : BkOK mi i_206 (bpf P_206) 17 (B_206.getD 17 bk0) := ⟨97, rfl, t_eq dX6_isCrossing_97 (by decide) rfl⟩
theorem ok_206_18 : BkOK mi i_206 (bpf P_206) 18 (B_206.getD 18 bk0) := ⟨101, ⟨1, s_iconst dX6_isCrossing_100 rfl, rfl⟩, t_go dX6_isCrossing_101 (by decide)⟩
theorem ok_206_19 : BkOK mi i_206 (bpf P_206) 19 (B_206.getD 19 bk0) := ⟨105, ⟨1, s_iconst dX6_isCrossing_104 rfl, rfl⟩, t_fall rfl⟩
theorem ok_206_20 : BkOK mi i_206 (bpf P_206) 20 (B_206.getD 20 bk0) := ⟨105, rfl, t_retZ dX6_isCrossing_105 rfl⟩
theorem ok_206 : ∀ b, BkOK mi i_206 (bpf P_206) b (B_206.getD b bk0)
  | 0 => ok_206_0
  | 1 => ok_206_1
  | 2 => ok_206_2
  | 3 => ok_206_3
  | 4 => ok_206_4
  | 5 => ok_206_5
  | 6 => ok_206_6
  | 7 => ok_206_7
  | 8 => ok_206_8
  | 9 => ok_206_9
  | 10 => ok_206_10
  | 11 => ok_206_11
  | 12 => ok_206_12
  | 13 => ok_206_13
  | 14 => ok_206_14
  | 15 => ok_206_15
  | 16 => ok_206_16
  | 17 => ok_206_17
  | 18 => ok_206_18
  | 19 => ok_206_19
  | 20 => ok_206_20
  | b + 21 => bk_none mi i_206 (bpf P_206) (b + 21)
theorem ok_207_0 : BkOK mi i_207 (bpf P_207) 0 (B_207.getD 0 bk0) := ⟨2, ⟨1, s_aload_n dX6_crossings_0 rfl, ⟨1, s_iload_n dX6_crossings_1 rfl, rfl⟩⟩, t_cv rfl mi_193 mok_193 rfl (fun _ => ⟨rfl, by decide +kernel⟩) (fun hs' e => by cases e; intro E n b h; cases h) (fun q fs As rest h hp hA hr => (call_V (i := i_207) (j := i_193) (C := RX6) (T := TX6) (N := 30) dX6_crossings_2 mok_193 rfl ⟨by decide, by decide⟩ np_193 rfl rfl wt_1404 wt_1406 ws_37 hp hA hr rfl).thr (fun _ => True.intro))⟩
theorem ok_207_1 : BkOK mi i_207 (bpf P_207) 1 (B_207.getD 1 bk0) := ⟨5, rfl, t_eq0 dX6_crossings_5 (by decide) rfl⟩
theorem ok_207_2 : BkOK mi i_207 (bpf P_207) 2 (B_207.getD 2 bk0) := ⟨9, ⟨1, s_iconst dX6_crossings_8 rfl, rfl⟩, t_ret dX6_crossings_9 rfl⟩
theorem ok_207_3 : BkOK mi i_207 (bpf P_207) 3 (B_207.getD 3 bk0) := ⟨15, ⟨1, s_aload_n dX6_crossings_10 rfl, ⟨1, s_iload_n dX6_crossings_11 rfl, ⟨1, s_iload_n dX6_crossings_12 rfl, ⟨1, s_aload_n dX6_crossings_13 rfl, ⟨1, s_iload_n dX6_crossings_14 rfl, rfl⟩⟩⟩⟩⟩, t_cv rfl mi_202 mok_202 rfl (fun _ => ⟨rfl, by decide +kernel⟩) (fun hs' e => by cases e; intro E n b h; cases h) (fun q fs As rest h hp hA hr => (call_V (i := i_207) (j := i_202) (C := RX6) (T := TX6) (N := 30) dX6_crossings_15 mok_202 rfl ⟨by decide, by decide⟩ np_202 rfl rfl wt_1506 wt_1508 ws_54 hp hA hr rfl).thr (fun _ => True.intro))⟩
theorem ok_207_4 : BkOK mi i_207 (bpf P_207) 4 (B_207.getD 4 bk0) := ⟨23, ⟨1, s_iload_n dX6_crossings_18 rfl, ⟨1, s_aload_n dX6_crossings_19 rfl, ⟨1, s_iload_n dX6_crossings_20 rfl, ⟨1, s_iconst dX6_crossings_21 rfl, ⟨1, s_iadd dX6_crossings_22, rfl⟩⟩⟩⟩⟩, t_cv rfl mi_202 mok_202 rfl (fun _ => ⟨rfl, by decide +kernel⟩) (fun hs' e => by cases e; intro E n b h; cases h) (fun q fs As rest h hp hA hr => (call_V (i := i_207) (j := i_202) (C := RX6) (T := TX6) (N := 30) dX6_crossings_23 mok_202 rfl ⟨by decide, by decide⟩ np_202 rfl rfl wt_1506 wt_1508 ws_54 hp hA hr rfl).thr (fun _ => True.intro))⟩
theorem ok_207_5 : BkOK mi i_207 (bpf P_207) 5 (B_207.getD 5 bk0) := ⟨26, rfl, t_cv rfl mi_206 mok_206 rfl (fun _ => ⟨rfl, by decide +kernel⟩) (fun hs' e => by cases e; intro E n b h; cases h) (fun q fs As rest h hp hA hr => (call_V (i := i_207) (j := i_206) (C := RX6) (T := TX6) (N := 30) dX6_crossings_26 mok_206 rfl ⟨by decide, by decide⟩ np_206 rfl rfl wt_1547 wt_1549 ws_61 hp hA hr rfl).thr (fun _ => True.intro))⟩
theorem ok_207_6 : BkOK mi i_207 (bpf P_207) 6 (B_207.getD 6 bk0) := ⟨29, rfl, t_eq0 dX6_crossings_29 (by decide) rfl⟩
theorem ok_207_7 : BkOK mi i_207 (bpf P_207) 7 (B_207.getD 7 bk0) := ⟨33, ⟨1, s_iconst dX6_crossings_32 rfl, rfl⟩, t_go dX6_crossings_33 (by decide)⟩
theorem ok_207_8 : BkOK mi i_207 (bpf P_207) 8 (B_207.getD 8 bk0) := ⟨37, ⟨1, s_iconst dX6_crossings_36 rfl, rfl⟩, t_fall rfl⟩
theorem ok_207_9 : BkOK mi i_207 (bpf P_207) 9 (B_207.getD 9 bk0) := ⟨41, ⟨2, s_istore dX6_crossings_37 (by decide), ⟨1, s_aload_n dX6_crossings_39 rfl, ⟨1, s_iload_n dX6_crossings_40 rfl, rfl⟩⟩⟩, t_cv rfl mi_183 mok_183 rfl (fun _ => ⟨rfl, by decide +kernel⟩) (fun hs' e => by cases e; intro E n b h; cases h) (fun q fs As rest h hp hA hr => (call_V (i := i_207) (j := i_183) (C := RX6) (T := TX6) (N := 30) dX6_crossings_41 mok_183 rfl ⟨by decide, by decide⟩ np_183 rfl rfl wt_1381 wt_1383 ws_32 hp hA hr rfl).thr (fun _ => True.intro))⟩
theorem ok_207_10 : BkOK mi i_207 (bpf P_207) 10 (B_207.getD 10 bk0) := ⟨48, ⟨1, s_aload_n dX6_crossings_44 rfl, ⟨1, s_iload_n dX6_crossings_45 rfl, ⟨1, s_iconst dX6_crossings_46 rfl, ⟨1, s_iadd dX6_crossings_47, rfl⟩⟩⟩⟩, t_cv rfl mi_183 mok_183 rfl (fun _ => ⟨rfl, by decide +kernel⟩) (fun hs' e => by cases e; intro E n b h; cases h) (fun q fs As rest h hp hA hr => (call_V (i := i_207) (j := i_183) (C := RX6) (T := TX6) (N := 30) dX6_crossings_48 mok_183 rfl ⟨by decide, by decide⟩ np_183 rfl rfl wt_1381 wt_1383 ws_32 hp hA hr rfl).thr (fun _ => True.intro))⟩
theorem ok_207_11 : BkOK mi i_207 (bpf P_207) 11 (B_207.getD 11 bk0) := ⟨53, ⟨1, s_iadd dX6_crossings_51, ⟨1, s_iconst dX6_crossings_52 rfl, rfl⟩⟩, t_le dX6_crossings_53 (by decide) rfl⟩
theorem ok_207_12 : BkOK mi i_207 (bpf P_207) 12 (B_207.getD 12 bk0) := ⟨57, ⟨1, s_iconst dX6_crossings_56 rfl, rfl⟩, t_go dX6_crossings_57 (by decide)⟩
theorem ok_207_13 : BkOK mi i_207 (bpf P_207) 13 (B_207.getD 13 bk0) := ⟨61, ⟨1, s_iconst dX6_crossings_60 rfl, rfl⟩, t_fall rfl⟩
theorem ok_207_14 : BkOK mi i_207 (bpf P_207) 14 (B_207.getD 14 bk0) := ⟨67, ⟨2, s_istore dX6_crossings_61 (by decide), ⟨2, s_iload dX6_crossings_63, ⟨2, s_iload dX6_crossings_65, rfl⟩⟩⟩, t_eq0 dX6_crossings_67 (by decide) rfl⟩
theorem ok_207_15 : BkOK mi i_207 (bpf P_207) 15 (B_207.getD 15 bk0) := ⟨75, ⟨1, s_aload_n dX6_crossings_70 rfl, ⟨1, s_iload_n dX6_crossings_71 rfl, ⟨1, s_iload_n dX6_crossings_72 rfl, ⟨1, s_aload_n dX6_crossings_73 rfl, ⟨1, s_iload_n dX6_crossings_74 rfl, rfl⟩⟩⟩⟩⟩, t_cv rfl mi_203 mok_203 rfl (fun _ => ⟨rfl, by decide +kernel⟩) (fun hs' e => by cases e; intro E n b h; cases h) (fun q fs As rest h hp hA hr => (call_V (i := i_207) (j := i_203) (C := RX6) (T := TX6) (N := 30) dX6_crossings_75 mok_203 rfl ⟨by decide, by decide⟩ np_203 rfl rfl wt_1514 wt_1516 ws_56 hp hA hr rfl).thr (fun _ => True.intro))⟩
theorem ok_207_16 : BkOK mi i_207 (bpf P_207) 16 (B_207.getD 16 bk0) := ⟨83, ⟨1, s_iload_n dX6_crossings_78 rfl, ⟨1, s_aload_n dX6_crossings_79 rfl, ⟨1, s_iload_n dX6_crossings_80 rfl, ⟨1, s_iconst dX6_crossings_81 rfl, ⟨1, s_iadd dX6_crossings_82, rfl⟩⟩⟩⟩⟩, t_cv rfl mi_203 mok_203 rfl (fun _ => ⟨rfl, by decide +kernel⟩) (fun hs' e => by cases e; intro E n b h; cases h) (fun q fs As rest h hp hA hr => (call_V (i := i_207) (j := i_203) (C := RX6) (T := TX6) (N := 30) dX6_crossings_83 mok_203 rfl ⟨by decide, by decide⟩ np_203 rfl rfl wt_1514 wt_1516 ws_56 hp hA hr rfl).thr (fun _ => True.intro))⟩
theorem ok_207_17 : BkOK mi i_207 (bpf P_207) 17 (B_207.getD 17 bk0) := ⟨86, rfl, t_cv rfl mi_206 mok_206 rfl (fun _ => ⟨rfl, by decide +kernel⟩) (fun hs' e => by cases e; intro E n b h; cases h) (fun q fs As rest h hp hA hr => (call_V (i := i_207) (j := i_206) (C := RX6) (T := TX6) (N := 30) dX6_crossings_86 mok_206 rfl ⟨by decide, by decide⟩ np_206 rfl rfl wt_1547 wt_1549 ws_61 hp hA hr rfl).thr (fun _ => True.intro))⟩
theorem ok_207_18 : BkOK mi i_207 (bpf P_207) 18 (B_207.getD 18 bk0) := ⟨89, rfl, t_eq0 dX6_crossings_89 (by decide) rfl⟩
theorem ok_207_19 : BkOK mi i_207 (bpf P_207) 19 (B_207.getD 19 bk0) := ⟨93, ⟨1, s_iconst dX6_crossings_92 rfl, rfl⟩, t_go dX6_crossings_93 (by decide)⟩
theorem ok_207_20 : BkOK mi i_207 (bpf P_207) 20 (B_207.getD 20 bk0) := ⟨97, ⟨1, s_iconst dX6_crossings_96 rfl, rfl⟩, t_fall rfl⟩
theorem ok_207_21 : BkOK mi i_207 (bpf P_207) 21 (B_207.getD 21 bk0) := ⟨98, ⟨1, s_iadd dX6_crossings_97, rfl⟩, t_ret dX6_crossings_98 rfl⟩
theorem ok_207 : ∀ b, BkOK mi i_207 (bpf P_207) b (B_207.getD b bk0)
  | 0 => ok_207_0
  | 1 => ok_207_1
  | 2 => ok_207_2
  | 3 => ok_207_3
  | 4 => ok_207_4
  | 5 => ok_207_5
  | 6 => ok_207_6
  | 7 => ok_207_7
  | 8 => ok_207_8
  | 9 => ok_207_9
  | 10 => ok_207_10
  | 11 => ok_207_11
  | 12 => ok_207_12
  | 13 => ok_207_13
  | 14 => ok_207_14
  | 15 => ok_207_15
  | 16 => ok_207_16
  | 17 => ok_207_17
  | 18 => ok_207_18
  | 19 => ok_207_19
  | 20 => ok_207_20
  | 21 => ok_207_21
  | b + 22 => bk_none mi i_207 (bpf P_207) (b + 22)
theorem ok_208_0 : BkOK mi i_208 (bpf P_208) 0 (B_208.getD 0 bk0) := ⟨1, ⟨1, s_aload_n dX6_laysLeast_0 rfl, rfl⟩, t_cv rfl mi_201 mok_201 rfl (fun _ => ⟨rfl, by decide +kernel⟩) (fun hs' e => by cases e; intro E n b h; cases h) (fun q fs As rest h hp hA hr => (call_V (i := i_208) (j := i_201) (C := RX6) (T := TX6) (N := 30) dX6_laysLeast_1 mok_201 rfl ⟨by decide, by decide⟩ np_201 rfl rfl wt_1424 wt_1426 ws_41 hp hA hr rfl).thr (fun _ => True.intro))⟩
theorem ok_208_1 : BkOK mi i_208 (bpf P_208) 1 (B_208.getD 1 bk0) := ⟨5, ⟨1, s_aload_n dX6_laysLeast_4 rfl, rfl⟩, t_cv rfl mi_182 mok_182 rfl (fun _ => ⟨rfl, by decide +kernel⟩) (fun hs' e => by cases e; intro E n b h; cases h) (fun q fs As rest h hp hA hr => (call_V (i := i_208) (j := i_182) (C := RX6) (T := TX6) (N := 30) dX6_laysLeast_5 mok_182 rfl ⟨by decide, by decide⟩ np_182 rfl rfl wt_1275 wt_1277 ws_16 hp hA hr rfl).thr (fun _ => True.intro))⟩
theorem ok_208_2 : BkOK mi i_208 (bpf P_208) 2 (B_208.getD 2 bk0) := ⟨11, ⟨1, s_iconst dX6_laysLeast_8 rfl, ⟨1, s_isub dX6_laysLeast_9, ⟨1, s_istore_n dX6_laysLeast_10 rfl (by decide), rfl⟩⟩⟩, t_fall rfl⟩
theorem ok_208_3 : BkOK mi i_208 (bpf P_208) 3 (B_208.getD 3 bk0) := ⟨12, ⟨1, s_iload_n dX6_laysLeast_11 rfl, rfl⟩, t_lt0 dX6_laysLeast_12 (by decide) rfl⟩
theorem ok_208_4 : BkOK mi i_208 (bpf P_208) 4 (B_208.getD 4 bk0) := ⟨20, ⟨2, s_bipush dX6_laysLeast_15 rfl, ⟨1, s_iload_n dX6_laysLeast_17 rfl, ⟨1, s_imul dX6_laysLeast_18, ⟨1, s_istore_n dX6_laysLeast_19 rfl (by decide), rfl⟩⟩⟩⟩, t_fall rfl⟩
theorem ok_208_5 : BkOK mi i_208 (bpf P_208) 5 (B_208.getD 5 bk0) := ⟨32, ⟨1, s_iload_n dX6_laysLeast_20 rfl, ⟨2, s_bipush dX6_laysLeast_21 rfl, ⟨1, s_iload_n dX6_laysLeast_23 rfl, ⟨1, s_imul dX6_laysLeast_24, ⟨1, s_aload_n dX6_laysLeast_25 rfl, ⟨3, s_get (C := RX6) (T := TX6) (N := 30) dX6_laysLeast_26 rfl (by decide) wt_1177 uw_X6, ⟨1, s_iload_n dX6_laysLeast_29 rfl, ⟨1, s_iald dX6_laysLeast_30, ⟨1, s_iadd dX6_laysLeast_31, rfl⟩⟩⟩⟩⟩⟩⟩⟩⟩, t_ge dX6_laysLeast_32 (by decide) rfl⟩
theorem ok_208_6 : BkOK mi i_208 (bpf P_208) 6 (B_208.getD 6 bk0) := ⟨38, ⟨1, s_aload_n dX6_laysLeast_35 rfl, ⟨1, s_iload_n dX6_laysLeast_36 rfl, ⟨1, s_iload_n dX6_laysLeast_37 rfl, rfl⟩⟩⟩, t_cv rfl mi_209 mok_209 rfl (fun _ => ⟨rfl, by decide +kernel⟩) (fun hs' e => by cases e; intro E n b h; cases h) (fun q fs As rest h hp hA hr => (call_V (i := i_208) (j := i_209) (C := RX6) (T := TX6) (N := 30) dX6_laysLeast_38 mok_209 rfl ⟨by decide, by decide⟩ np_209 rfl rfl wt_1497 wt_1499 ws_52 hp hA hr rfl).thr (fun _ => True.intro))⟩
theorem ok_208_7 : BkOK mi i_208 (bpf P_208) 7 (B_208.getD 7 bk0) := ⟨44, ⟨3, s_iinc dX6_laysLeast_41 rfl (by decide), rfl⟩, t_go dX6_laysLeast_44 (by decide)⟩
theorem ok_208_8 : BkOK mi i_208 (bpf P_208) 8 (B_208.getD 8 bk0) := ⟨50, ⟨3, s_iinc dX6_laysLeast_47 rfl (by decide), rfl⟩, t_go dX6_laysLeast_50 (by decide)⟩
theorem ok_208_9 : BkOK mi i_208 (bpf P_208) 9 (B_208.getD 9 bk0) := ⟨53, rfl, t_retV dX6_laysLeast_53 rfl⟩
theorem ok_208 : ∀ b, BkOK mi i_208 (bpf P_208) b (B_208.getD b bk0)
  | 0 => ok_208_0
  | 1 => ok_208_1
  | 2 => ok_208_2
  | 3 => ok_208_3
  | 4 => ok_208_4
  | 5 => ok_208_5
  | 6 => ok_208_6
  | 7 => ok_208_7
  | 8 => ok_208_8
  | 9 => ok_208_9
  | b + 10 => bk_none mi i_208 (bpf P_208) (b + 10)
theorem ok_209_0 : BkOK mi i_209 (bpf P_209) 0 (B_209.getD 0 bk0) := ⟨2, ⟨1, s_iload_n dX6_laysFrom_0 rfl, ⟨1, s_aload_n dX6_laysFrom_1 rfl, rfl⟩⟩, t_cv rfl mi_182 mok_182 rfl (fun _ => ⟨rfl, by decide +kernel⟩) (fun hs' e => by cases e; intro E n b h; cases h) (fun q fs As rest h hp hA hr => (call_V (i := i_209) (j := i_182) (C := RX6) (T := TX6) (N := 30) dX6_laysFrom_2 mok_182 rfl ⟨by decide, by decide⟩ np_182 rfl rfl wt_1275 wt_1277 ws_16 hp hA hr rfl).thr (fun _ => True.intro))⟩
theorem ok_209_1 : BkOK mi i_209 (bpf P_209) 1 (B_209.getD 1 bk0) := ⟨7, ⟨1, s_iconst dX6_laysFrom_5 rfl, ⟨1, s_isub dX6_laysFrom_6, rfl⟩⟩, t_nei dX6_laysFrom_7 (by decide) rfl⟩
theorem ok_209_2 : BkOK mi i_209 (bpf P_209) 2 (B_209.getD 2 bk0) := ⟨11, ⟨1, s_iconst dX6_laysFrom_10 rfl, rfl⟩, t_go dX6_laysFrom_11 (by decide)⟩
theorem ok_209_3 : BkOK mi i_209 (bpf P_209) 3 (B_209.getD 3 bk0) := ⟨15, ⟨1, s_iconst dX6_laysFrom_14 rfl, rfl⟩, t_fall rfl⟩
theorem ok_209_4 : BkOK mi i_209 (bpf P_209) 4 (B_209.getD 4 bk0) := ⟨17, ⟨1, s_istore_n dX6_laysFrom_15 rfl (by decide), ⟨1, s_iload_n dX6_laysFrom_16 rfl, rfl⟩⟩, t_eq0 dX6_laysFrom_17 (by decide) rfl⟩
theorem ok_209_5 : BkOK mi i_209 (bpf P_209) 5 (B_209.getD 5 bk0) := ⟨21, ⟨1, s_iconst dX6_laysFrom_20 rfl, rfl⟩, t_go dX6_laysFrom_21 (by decide)⟩
theorem ok_209_6 : BkOK mi i_209 (bpf P_209) 6 (B_209.getD 6 bk0) := ⟨27, ⟨3, s_ldcw dX6_laysFrom_24 wt_1501, rfl⟩, t_fall rfl⟩
theorem ok_209_7 : BkOK mi i_209 (bpf P_209) 7 (B_209.getD 7 bk0) := ⟨35, ⟨2, s_istore dX6_laysFrom_27 (by decide), ⟨1, s_aload_n dX6_laysFrom_29 rfl, ⟨3, s_get (C := RX6) (T := TX6) (N := 30) dX6_laysFrom_30 rfl (by decide) wt_1181 uw_X6, ⟨1, s_iload_n dX6_laysFrom_33 rfl, ⟨1, s_iload_n dX6_laysFrom_34 rfl, rfl⟩⟩⟩⟩⟩, t_eq0 dX6_laysFrom_35 (by decide) rfl⟩
theorem ok_209_8 : BkOK mi i_209 (bpf P_209) 8 (B_209.getD 8 bk0) := ⟨39, ⟨1, s_lconst dX6_laysFrom_38 rfl, rfl⟩, t_go dX6_laysFrom_39 (by decide)⟩
theorem ok_209_9 : BkOK mi i_209 (bpf P_209) 9 (B_209.getD 9 bk0) := ⟨43, ⟨1, s_lconst dX6_laysFrom_42 rfl, rfl⟩, t_fall rfl⟩
theorem ok_209_10 : BkOK mi i_209 (bpf P_209) 10 (B_209.getD 10 bk0) := ⟨50, ⟨1, s_last dX6_laysFrom_43, ⟨1, s_aload_n dX6_laysFrom_44 rfl, ⟨3, s_get (C := RX6) (T := TX6) (N := 30) dX6_laysFrom_45 rfl (by decide) wt_1182 uw_X6, ⟨1, s_iload_n dX6_laysFrom_48 rfl, ⟨1, s_iload_n dX6_laysFrom_49 rfl, rfl⟩⟩⟩⟩⟩, t_eq0 dX6_laysFrom_50 (by decide) rfl⟩
theorem ok_209_11 : BkOK mi i_209 (bpf P_209) 11 (B_209.getD 11 bk0) := ⟨54, ⟨1, s_lconst dX6_laysFrom_53 rfl, rfl⟩, t_go dX6_laysFrom_54 (by decide)⟩
theorem ok_209_12 : BkOK mi i_209 (bpf P_209) 12 (B_209.getD 12 bk0) := ⟨58, ⟨1, s_lconst dX6_laysFrom_57 rfl, rfl⟩, t_fall rfl⟩
theorem ok_209_13 : BkOK mi i_209 (bpf P_209) 13 (B_209.getD 13 bk0) := ⟨67, ⟨1, s_last dX6_laysFrom_58, ⟨2, s_bipush dX6_laysFrom_59 rfl, ⟨1, s_iload_n dX6_laysFrom_61 rfl, ⟨1, s_iconst dX6_laysFrom_62 rfl, ⟨1, s_iadd dX6_laysFrom_63, ⟨1, s_imul dX6_laysFrom_64, ⟨2, s_istore dX6_laysFrom_65 (by decide), rfl⟩⟩⟩⟩⟩⟩⟩, t_fall rfl⟩
theorem ok_209_14 : BkOK mi i_209 (bpf P_209) 14 (B_209.getD 14 bk0) := ⟨68, ⟨1, s_iload_n dX6_laysFrom_67 rfl, rfl⟩, t_ne0 dX6_laysFrom_68 (by decide) rfl⟩
theorem ok_209_15 : BkOK mi i_209 (bpf P_209) 15 (B_209.getD 15 bk0) := ⟨88, ⟨2, s_iload dX6_laysFrom_71, ⟨2, s_bipush dX6_laysFrom_73 rfl, ⟨1, s_iload_n dX6_laysFrom_75 rfl, ⟨1, s_iconst dX6_laysFrom_76 rfl, ⟨1, s_iadd dX6_laysFrom_77, ⟨1, s_imul dX6_laysFrom_78, ⟨1, s_aload_n dX6_laysFrom_79 rfl, ⟨3, s_get (C := RX6) (T := TX6) (N := 30) dX6_laysFrom_80 rfl (by decide) wt_1177 uw_X6, ⟨1, s_iload_n dX6_laysFrom_83 rfl, ⟨1, s_iconst dX6_laysFrom_84 rfl, ⟨1, s_iadd dX6_laysFrom_85, ⟨1, s_iald dX6_laysFrom_86, ⟨1, s_iadd dX6_laysFrom_87, rfl⟩⟩⟩⟩⟩⟩⟩⟩⟩⟩⟩⟩⟩, t_ge dX6_laysFrom_88 (by decide) rfl⟩
theorem ok_209_16 : BkOK mi i_209 (bpf P_209) 16 (B_209.getD 16 bk0) := ⟨106, ⟨1, s_aload_n dX6_laysFrom_91 rfl, ⟨1, s_iload_n dX6_laysFrom_92 rfl, ⟨1, s_aload_n dX6_laysFrom_93 rfl, ⟨3, s_get (C := RX6) (T := TX6) (N := 30) dX6_laysFrom_94 rfl (by decide) wt_1175 uw_X6, ⟨1, s_iload_n dX6_laysFrom_97 rfl, ⟨1, s_iald dX6_laysFrom_98, ⟨1, s_aload_n dX6_laysFrom_99 rfl, ⟨3, s_get (C := RX6) (T := TX6) (N := 30) dX6_laysFrom_100 rfl (by decide) wt_1175 uw_X6, ⟨2, s_iload dX6_laysFrom_103, ⟨1, s_iald dX6_laysFrom_105, rfl⟩⟩⟩⟩⟩⟩⟩⟩⟩⟩, t_cv rfl mi_205 mok_205 rfl (fun _ => ⟨rfl, by decide +kernel⟩) (fun hs' e => by cases e; intro E n b h; cases h) (fun q fs As rest h hp hA hr => (call_V (i := i_209) (j := i_205) (C := RX6) (T := TX6) (N := 30) dX6_laysFrom_106 mok_205 rfl ⟨by decide, by decide⟩ np_205 rfl rfl wt_1502 wt_1504 ws_53 hp hA hr rfl).thr (fun _ => True.intro))⟩
theorem ok_209_17 : BkOK mi i_209 (bpf P_209) 17 (B_209.getD 17 bk0) := ⟨114, ⟨2, s_istore dX6_laysFrom_109 (by decide), ⟨2, s_iload dX6_laysFrom_111, ⟨1, s_iconst dX6_laysFrom_113 rfl, rfl⟩⟩⟩, t_eq dX6_laysFrom_114 (by decide) rfl⟩
theorem ok_209_18 : BkOK mi i_209 (bpf P_209) 18 (B_209.getD 18 bk0) := ⟨127, ⟨1, s_aload_n dX6_laysFrom_117 rfl, ⟨3, s_get (C := RX6) (T := TX6) (N := 30) dX6_laysFrom_118 rfl (by decide) wt_1179 uw_X6, ⟨2, s_iload dX6_laysFrom_121, ⟨1, s_iald dX6_laysFrom_123, ⟨3, s_ldcw dX6_laysFrom_124 wt_1501, rfl⟩⟩⟩⟩⟩, t_lt dX6_laysFrom_127 (by decide) rfl⟩
theorem ok_209_19 : BkOK mi i_209 (bpf P_209) 19 (B_209.getD 19 bk0) := ⟨130, rfl, t_go dX6_laysFrom_130 (by decide)⟩
theorem ok_209_20 : BkOK mi i_209 (bpf P_209) 20 (B_209.getD 20 bk0) := ⟨171, ⟨1, s_aload_n dX6_laysFrom_133 rfl, ⟨3, s_get (C := RX6) (T := TX6) (N := 30) dX6_laysFrom_134 rfl (by decide) wt_1181 uw_X6, ⟨1, s_iload_n dX6_laysFrom_137 rfl, ⟨3, s_ldc2 dX6_laysFrom_138 wt_1518, ⟨1, s_aload_n dX6_laysFrom_141 rfl, ⟨3, s_get (C := RX6) (T := TX6) (N := 30) dX6_laysFrom_142 rfl (by decide) wt_1181 uw_X6, ⟨1, s_iload_n dX6_laysFrom_145 rfl, ⟨1, s_laload dX6_laysFrom_146, ⟨1, s_aload_n dX6_laysFrom_147 rfl, ⟨3, s_get (C := RX6) (T := TX6) (N := 30) dX6_laysFrom_148 rfl (by decide) wt_1181 uw_X6, ⟨2, s_iload dX6_laysFrom_151, ⟨1, s_laload dX6_laysFrom_153, ⟨1, s_ladd dX6_laysFrom_154, ⟨3, s_lmin dX6_laysFrom_155 wt_1519x wt_625 wt_4 wt_626 ⟨by decide, by decide⟩, ⟨1, s_last dX6_laysFrom_158, ⟨2, s_iload dX6_laysFrom_159, ⟨1, s_aload_n dX6_laysFrom_161 rfl, ⟨3, s_get (C := RX6) (T := TX6) (N := 30) dX6_laysFrom_162 rfl (by decide) wt_1179 uw_X6, ⟨2, s_iload dX6_laysFrom_165, ⟨1, s_iald dX6_laysFrom_167, ⟨1, s_iadd dX6_laysFrom_168, ⟨2, s_iload dX6_laysFrom_169, rfl⟩⟩⟩⟩⟩⟩⟩⟩⟩⟩⟩⟩⟩⟩⟩⟩⟩⟩⟩⟩⟩⟩, t_gt dX6_laysFrom_171 (by decide) rfl⟩
theorem ok_209_21 : BkOK mi i_209 (bpf P_209) 21 (B_209.getD 21 bk0) := ⟨194, ⟨1, s_aload_n dX6_laysFrom_174 rfl, ⟨3, s_get (C := RX6) (T := TX6) (N := 30) dX6_laysFrom_175 rfl (by decide) wt_1182 uw_X6, ⟨1, s_iload_n dX6_laysFrom_178 rfl, ⟨3, s_ldc2 dX6_laysFrom_179 wt_1518, ⟨2, s_iload dX6_laysFrom_182, ⟨1, s_aload_n dX6_laysFrom_184 rfl, ⟨3, s_get (C := RX6) (T := TX6) (N := 30) dX6_laysFrom_185 rfl (by decide) wt_1179 uw_X6, ⟨2, s_iload dX6_laysFrom_188, ⟨1, s_iald dX6_laysFrom_190, ⟨1, s_iadd dX6_laysFrom_191, ⟨2, s_iload dX6_laysFrom_192, rfl⟩⟩⟩⟩⟩⟩⟩⟩⟩⟩⟩, t_ge dX6_laysFrom_194 (by decide) rfl⟩
theorem ok_209_22 : BkOK mi i_209 (bpf P_209) 22 (B_209.getD 22 bk0) := ⟨198, ⟨1, s_lconst dX6_laysFrom_197 rfl, rfl⟩, t_go dX6_laysFrom_198 (by decide)⟩
theorem ok_209_23 : BkOK mi i_209 (bpf P_209) 23 (B_209.getD 23 bk0) := ⟨207, ⟨1, s_aload_n dX6_laysFrom_201 rfl, ⟨3, s_get (C := RX6) (T := TX6) (N := 30) dX6_laysFrom_202 rfl (by decide) wt_1182 uw_X6, ⟨1, s_iload_n dX6_laysFrom_205 rfl, ⟨1, s_laload dX6_laysFrom_206, rfl⟩⟩⟩⟩, t_fall rfl⟩
theorem ok_209_24 : BkOK mi i_209 (bpf P_209) 24 (B_209.getD 24 bk0) := ⟨219, ⟨1, s_aload_n dX6_laysFrom_207 rfl, ⟨3, s_get (C := RX6) (T := TX6) (N := 30) dX6_laysFrom_208 rfl (by decide) wt_1182 uw_X6, ⟨2, s_iload dX6_laysFrom_211, ⟨1, s_laload dX6_laysFrom_213, ⟨1, s_ladd dX6_laysFrom_214, ⟨3, s_lmin dX6_laysFrom_215 wt_1519x wt_625 wt_4 wt_626 ⟨by decide, by decide⟩, ⟨1, s_last dX6_laysFrom_218, rfl⟩⟩⟩⟩⟩⟩⟩, t_fall rfl⟩
theorem ok_209_25 : BkOK mi i_209 (bpf P_209) 25 (B_209.getD 25 bk0) := ⟨236, ⟨2, s_iload dX6_laysFrom_219, ⟨2, s_iload dX6_laysFrom_221, ⟨1, s_aload_n dX6_laysFrom_223 rfl, ⟨3, s_get (C := RX6) (T := TX6) (N := 30) dX6_laysFrom_224 rfl (by decide) wt_1179 uw_X6, ⟨2, s_iload dX6_laysFrom_227, ⟨1, s_iald dX6_laysFrom_229, ⟨1, s_iadd dX6_laysFrom_230, ⟨3, s_mmin dX6_laysFrom_231 wt_1155x wt_293 wt_4 wt_294 ⟨by decide, by decide⟩, ⟨2, s_istore dX6_laysFrom_234 (by decide), rfl⟩⟩⟩⟩⟩⟩⟩⟩⟩, t_fall rfl⟩
theorem ok_209_26 : BkOK mi i_209 (bpf P_209) 26 (B_209.getD 26 bk0) := ⟨239, ⟨3, s_iinc dX6_laysFrom_236 rfl (by decide), rfl⟩, t_go dX6_laysFrom_239 (by decide)⟩
theorem ok_209_27 : BkOK mi i_209 (bpf P_209) 27 (B_209.getD 27 bk0) := ⟨252, ⟨1, s_aload_n dX6_laysFrom_242 rfl, ⟨3, s_get (C := RX6) (T := TX6) (N := 30) dX6_laysFrom_243 rfl (by decide) wt_1179 uw_X6, ⟨1, s_iload_n dX6_laysFrom_246 rfl, ⟨2, s_iload dX6_laysFrom_247, ⟨3, s_ldcw dX6_laysFrom_249 wt_1501, rfl⟩⟩⟩⟩⟩, t_nei dX6_laysFrom_252 (by decide) rfl⟩
theorem ok_209_28 : BkOK mi i_209 (bpf P_209) 28 (B_209.getD 28 bk0) := ⟨258, ⟨3, s_ldcw dX6_laysFrom_255 wt_1501, rfl⟩, t_go dX6_laysFrom_258 (by decide)⟩
theorem ok_209_29 : BkOK mi i_209 (bpf P_209) 29 (B_209.getD 29 bk0) := ⟨270, ⟨2, s_iload dX6_laysFrom_261, ⟨1, s_aload_n dX6_laysFrom_263 rfl, ⟨3, s_get (C := RX6) (T := TX6) (N := 30) dX6_laysFrom_264 rfl (by decide) wt_1176 uw_X6, ⟨1, s_iload_n dX6_laysFrom_267 rfl, ⟨1, s_iald dX6_laysFrom_268, ⟨1, s_iadd dX6_laysFrom_269, rfl⟩⟩⟩⟩⟩⟩, t_fall rfl⟩
theorem ok_209_30 : BkOK mi i_209 (bpf P_209) 30 (B_209.getD 30 bk0) := ⟨271, ⟨1, s_iast dX6_laysFrom_270, rfl⟩, t_retV dX6_laysFrom_271 rfl⟩
theorem ok_209 : ∀ b, BkOK mi i_209 (bpf P_209) b (B_209.getD b bk0)
  | 0 => ok_209_0
  | 1 => ok_209_1
  | 2 => ok_209_2
  | 3 => ok_209_3
  | 4 => ok_209_4
  | 5 => ok_209_5
  | 6 => ok_209_6
  | 7 => ok_209_7
  | 8 => ok_209_8
  | 9 => ok_209_9
  | 10 => ok_209_10
  | 11 => ok_209_11
  | 12 => ok_209_12
  | 13 => ok_209_13
  | 14 => ok_209_14
  | 15 => ok_209_15
  | 16 => ok_209_16
  | 17 => ok_209_17
  | 18 => ok_209_18
  | 19 => ok_209_19
  | 20 => ok_209_20
  | 21 => ok_209_21
  | 22 => ok_209_22
  | 23 => ok_209_23
  | 24 => ok_209_24
  | 25 => ok_209_25
  | 26 => ok_209_26
  | 27 => ok_209_27
  | 28 => ok_209_28
  | 29 => ok_209_29
  | 30 => ok_209_30
  | b + 31 => bk_none mi i_209 (bpf P_209) (b + 31)
theorem ok_210_0 : BkOK mi i_210 (bpf P_210) 0 (B_210.getD 0 bk0) := ⟨2, ⟨1, s_iconst dX6_laysUpTo_0 rfl, ⟨1, s_istore_n dX6_laysUpTo_1 rfl (by decide), rfl⟩⟩, t_fall rfl⟩
theorem ok_210_1 : BkOK mi i_210 (bpf P_210) 1 (B_210.getD 1 bk0) := ⟨4, ⟨1, s_iload_n dX6_laysUpTo_2 rfl, ⟨1, s_aload_n dX6_laysUpTo_3 rfl, rfl⟩⟩, t_cv rfl mi_182 mok_182 rfl (fun _ => ⟨rfl, by decide +kernel⟩) (fun hs' e => by cases e; intro E n b h; cases h) (fun q fs As rest h hp hA hr => (call_V (i := i_210) (j := i_182) (C := RX6) (T := TX6) (N := 30) dX6_laysUpTo_4 mok_182 rfl ⟨by decide, by decide⟩ np_182 rfl rfl wt_1275 wt_1277 ws_16 hp hA hr rfl).thr (fun _ => True.intro))⟩
theorem ok_210_2 : BkOK mi i_210 (bpf P_210) 2 (B_210.getD 2 bk0) := ⟨7, rfl, t_ge dX6_laysUpTo_7 (by decide) rfl⟩
theorem ok_210_3 : BkOK mi i_210 (bpf P_210) 3 (B_210.getD 3 bk0) := ⟨15, ⟨2, s_bipush dX6_laysUpTo_10 rfl, ⟨1, s_iload_n dX6_laysUpTo_12 rfl, ⟨1, s_imul dX6_laysUpTo_13, ⟨1, s_istore_n dX6_laysUpTo_14 rfl (by decide), rfl⟩⟩⟩⟩, t_fall rfl⟩
theorem ok_210_4 : BkOK mi i_210 (bpf P_210) 4 (B_210.getD 4 bk0) := ⟨27, ⟨1, s_iload_n dX6_laysUpTo_15 rfl, ⟨2, s_bipush dX6_laysUpTo_16 rfl, ⟨1, s_iload_n dX6_laysUpTo_18 rfl, ⟨1, s_imul dX6_laysUpTo_19, ⟨1, s_aload_n dX6_laysUpTo_20 rfl, ⟨3, s_get (C := RX6) (T := TX6) (N := 30) dX6_laysUpTo_21 rfl (by decide) wt_1177 uw_X6, ⟨1, s_iload_n dX6_laysUpTo_24 rfl, ⟨1, s_iald dX6_laysUpTo_25, ⟨1, s_iadd dX6_laysUpTo_26, rfl⟩⟩⟩⟩⟩⟩⟩⟩⟩, t_ge dX6_laysUpTo_27 (by decide) rfl⟩
theorem ok_210_5 : BkOK mi i_210 (bpf P_210) 5 (B_210.getD 5 bk0) := ⟨31, ⟨1, s_iload_n dX6_laysUpTo_30 rfl, rfl⟩, t_ne0 dX6_laysUpTo_31 (by decide) rfl⟩
theorem ok_210_6 : BkOK mi i_210 (bpf P_210) 6 (B_210.getD 6 bk0) := ⟨35, ⟨1, s_iconst dX6_laysUpTo_34 rfl, rfl⟩, t_go dX6_laysUpTo_35 (by decide)⟩
theorem ok_210_7 : BkOK mi i_210 (bpf P_210) 7 (B_210.getD 7 bk0) := ⟨41, ⟨3, s_ldcw dX6_laysUpTo_38 wt_1501, rfl⟩, t_fall rfl⟩
theorem ok_210_8 : BkOK mi i_210 (bpf P_210) 8 (B_210.getD 8 bk0) := ⟨50, ⟨1, s_istore_n dX6_laysUpTo_41 rfl (by decide), ⟨2, s_bipush dX6_laysUpTo_42 rfl, ⟨1, s_iload_n dX6_laysUpTo_44 rfl, ⟨1, s_iconst dX6_laysUpTo_45 rfl, ⟨1, s_isub dX6_laysUpTo_46, ⟨1, s_imul dX6_laysUpTo_47, ⟨2, s_istore dX6_laysUpTo_48 (by decide), rfl⟩⟩⟩⟩⟩⟩⟩, t_fall rfl⟩
theorem ok_210_9 : BkOK mi i_210 (bpf P_210) 9 (B_210.getD 9 bk0) := ⟨51, ⟨1, s_iload_n dX6_laysUpTo_50 rfl, rfl⟩, t_le0 dX6_laysUpTo_51 (by decide) rfl⟩
theorem ok_210_10 : BkOK mi i_210 (bpf P_210) 10 (B_210.getD 10 bk0) := ⟨71, ⟨2, s_iload dX6_laysUpTo_54, ⟨2, s_bipush dX6_laysUpTo_56 rfl, ⟨1, s_iload_n dX6_laysUpTo_58 rfl, ⟨1, s_iconst dX6_laysUpTo_59 rfl, ⟨1, s_isub dX6_laysUpTo_60, ⟨1, s_imul dX6_laysUpTo_61, ⟨1, s_aload_n dX6_laysUpTo_62 rfl, ⟨3, s_get (C := RX6) (T := TX6) (N := 30) dX6_laysUpTo_63 rfl (by decide) wt_1177 uw_X6, ⟨1, s_iload_n dX6_laysUpTo_66 rfl, ⟨1, s_iconst dX6_laysUpTo_67 rfl, ⟨1, s_isub dX6_laysUpTo_68, ⟨1, s_iald dX6_laysUpTo_69, ⟨1, s_iadd dX6_laysUpTo_70, rfl⟩⟩⟩⟩⟩⟩⟩⟩⟩⟩⟩⟩⟩, t_ge dX6_laysUpTo_71 (by decide) rfl⟩
theorem ok_210_11 : BkOK mi i_210 (bpf P_210) 11 (B_210.getD 11 bk0) := ⟨91, ⟨1, s_aload_n dX6_laysUpTo_74 rfl, ⟨1, s_iload_n dX6_laysUpTo_75 rfl, ⟨1, s_iconst dX6_laysUpTo_76 rfl, ⟨1, s_isub dX6_laysUpTo_77, ⟨1, s_aload_n dX6_laysUpTo_78 rfl, ⟨3, s_get (C := RX6) (T := TX6) (N := 30) dX6_laysUpTo_79 rfl (by decide) wt_1175 uw_X6, ⟨2, s_iload dX6_laysUpTo_82, ⟨1, s_iald dX6_laysUpTo_84, ⟨1, s_aload_n dX6_laysUpTo_85 rfl, ⟨3, s_get (C := RX6) (T := TX6) (N := 30) dX6_laysUpTo_86 rfl (by decide) wt_1175 uw_X6, ⟨1, s_iload_n dX6_laysUpTo_89 rfl, ⟨1, s_iald dX6_laysUpTo_90, rfl⟩⟩⟩⟩⟩⟩⟩⟩⟩⟩⟩⟩, t_cv rfl mi_205 mok_205 rfl (fun _ => ⟨rfl, by decide +kernel⟩) (fun hs' e => by cases e; intro E n b h; cases h) (fun q fs As rest h hp hA hr => (call_V (i := i_210) (j := i_205) (C := RX6) (T := TX6) (N := 30) dX6_laysUpTo_91 mok_205 rfl ⟨by decide, by decide⟩ np_205 rfl rfl wt_1502 wt_1504 ws_53 hp hA hr rfl).thr (fun _ => True.intro))⟩
theorem ok_210_12 : BkOK mi i_210 (bpf P_210) 12 (B_210.getD 12 bk0) := ⟨99, ⟨2, s_istore dX6_laysUpTo_94 (by decide), ⟨2, s_iload dX6_laysUpTo_96, ⟨1, s_iconst dX6_laysUpTo_98 rfl, rfl⟩⟩⟩, t_eq dX6_laysUpTo_99 (by decide) rfl⟩
theorem ok_210_13 : BkOK mi i_210 (bpf P_210) 13 (B_210.getD 13 bk0) := ⟨112, ⟨1, s_aload_n dX6_laysUpTo_102 rfl, ⟨3, s_get (C := RX6) (T := TX6) (N := 30) dX6_laysUpTo_103 rfl (by decide) wt_1180 uw_X6, ⟨2, s_iload dX6_laysUpTo_106, ⟨1, s_iald dX6_laysUpTo_108, ⟨3, s_ldcw dX6_laysUpTo_109 wt_1501, rfl⟩⟩⟩⟩⟩, t_ge dX6_laysUpTo_112 (by decide) rfl⟩
theorem ok_210_14 : BkOK mi i_210 (bpf P_210) 14 (B_210.getD 14 bk0) := ⟨130, ⟨1, s_iload_n dX6_laysUpTo_115 rfl, ⟨1, s_aload_n dX6_laysUpTo_116 rfl, ⟨3, s_get (C := RX6) (T := TX6) (N := 30) dX6_laysUpTo_117 rfl (by decide) wt_1180 uw_X6, ⟨2, s_iload dX6_laysUpTo_120, ⟨1, s_iald dX6_laysUpTo_122, ⟨2, s_iload dX6_laysUpTo_123, ⟨1, s_iadd dX6_laysUpTo_125, ⟨3, s_mmin dX6_laysUpTo_126 wt_1155x wt_293 wt_4 wt_294 ⟨by decide, by decide⟩, ⟨1, s_istore_n dX6_laysUpTo_129 rfl (by decide), rfl⟩⟩⟩⟩⟩⟩⟩⟩⟩, t_fall rfl⟩
theorem ok_210_15 : BkOK mi i_210 (bpf P_210) 15 (B_210.getD 15 bk0) := ⟨133, ⟨3, s_iinc dX6_laysUpTo_130 rfl (by decide), rfl⟩, t_go dX6_laysUpTo_133 (by decide)⟩
theorem ok_210_16 : BkOK mi i_210 (bpf P_210) 16 (B_210.getD 16 bk0) := ⟨145, ⟨1, s_aload_n dX6_laysUpTo_136 rfl, ⟨3, s_get (C := RX6) (T := TX6) (N := 30) dX6_laysUpTo_137 rfl (by decide) wt_1180 uw_X6, ⟨1, s_iload_n dX6_laysUpTo_140 rfl, ⟨1, s_iload_n dX6_laysUpTo_141 rfl, ⟨3, s_ldcw dX6_laysUpTo_142 wt_1501, rfl⟩⟩⟩⟩⟩, t_nei dX6_laysUpTo_145 (by decide) rfl⟩
theorem ok_210_17 : BkOK mi i_210 (bpf P_210) 17 (B_210.getD 17 bk0) := ⟨151, ⟨3, s_ldcw dX6_laysUpTo_148 wt_1501, rfl⟩, t_go dX6_laysUpTo_151 (by decide)⟩
theorem ok_210_18 : BkOK mi i_210 (bpf P_210) 18 (B_210.getD 18 bk0) := ⟨162, ⟨1, s_iload_n dX6_laysUpTo_154 rfl, ⟨1, s_aload_n dX6_laysUpTo_155 rfl, ⟨3, s_get (C := RX6) (T := TX6) (N := 30) dX6_laysUpTo_156 rfl (by decide) wt_1176 uw_X6, ⟨1, s_iload_n dX6_laysUpTo_159 rfl, ⟨1, s_iald dX6_laysUpTo_160, ⟨1, s_iadd dX6_laysUpTo_161, rfl⟩⟩⟩⟩⟩⟩, t_fall rfl⟩
theorem ok_210_19 : BkOK mi i_210 (bpf P_210) 19 (B_210.getD 19 bk0) := ⟨166, ⟨1, s_iast dX6_laysUpTo_162, ⟨3, s_iinc dX6_laysUpTo_163 rfl (by decide), rfl⟩⟩, t_go dX6_laysUpTo_166 (by decide)⟩
theorem ok_210_20 : BkOK mi i_210 (bpf P_210) 20 (B_210.getD 20 bk0) := ⟨172, ⟨3, s_iinc dX6_laysUpTo_169 rfl (by decide), rfl⟩, t_go dX6_laysUpTo_172 (by decide)⟩
theorem ok_210_21 : BkOK mi i_210 (bpf P_210) 21 (B_210.getD 21 bk0) := ⟨175, rfl, t_retV dX6_laysUpTo_175 rfl⟩
theorem ok_210 : ∀ b, BkOK mi i_210 (bpf P_210) b (B_210.getD b bk0)
  | 0 => ok_210_0
  | 1 => ok_210_1
  | 2 => ok_210_2
  | 3 => ok_210_3
  | 4 => ok_210_4
  | 5 => ok_210_5
  | 6 => ok_210_6
  | 7 => ok_210_7
  | 8 => ok_210_8
  | 9 => ok_210_9
  | 10 => ok_210_10
  | 11 => ok_210_11
  | 12 => ok_210_12
  | 13 => ok_210_13
  | 14 => ok_210_14
  | 15 => ok_210_15
  | 16 => ok_210_16
  | 17 => ok_210_17
  | 18 => ok_210_18
  | 19 => ok_210_19
  | 20 => ok_210_20
  | 21 => ok_210_21
  | b + 22 => bk_none mi i_210 (bpf P_210) (b + 22)
theorem ok_211_0 : BkOK mi i_211 (bpf P_211) 0 (B_211.getD 0 bk0) := ⟨1, ⟨1, s_aload_n dX6_bestLaid_0 rfl, rfl⟩, t_cv rfl mi_182 mok_182 rfl (fun _ => ⟨rfl, by decide +kernel⟩) (fun hs' e => by cases e; intro E n b h; cases h) (fun q fs As rest h hp hA hr => (call_V (i := i_211) (j := i_182) (C := RX6) (T := TX6) (N := 30) dX6_bestLaid_1 mok_182 rfl ⟨by decide, by decide⟩ np_182 rfl rfl wt_1275 wt_1277 ws_16 hp hA hr rfl).thr (fun _ => True.intro))⟩
theorem ok_211_1 : BkOK mi i_211 (bpf P_211) 1 (B_211.getD 1 bk0) := ⟨4, rfl, t_ne0 dX6_bestLaid_4 (by decide) rfl⟩
theorem ok_211_2 : BkOK mi i_211 (bpf P_211) 2 (B_211.getD 2 bk0) := ⟨8, ⟨1, s_iconst dX6_bestLaid_7 rfl, rfl⟩, t_ret dX6_bestLaid_8 rfl⟩
theorem ok_211_3 : BkOK mi i_211 (bpf P_211) 3 (B_211.getD 3 bk0) := ⟨15, ⟨3, s_ldcw dX6_bestLaid_9 wt_1501, ⟨1, s_istore_n dX6_bestLaid_12 rfl (by decide), ⟨1, s_iconst dX6_bestLaid_13 rfl, ⟨1, s_istore_n dX6_bestLaid_14 rfl (by decide), rfl⟩⟩⟩⟩, t_fall rfl⟩
theorem ok_211_4 : BkOK mi i_211 (bpf P_211) 4 (B_211.getD 4 bk0) := ⟨22, ⟨1, s_iload_n dX6_bestLaid_15 rfl, ⟨1, s_aload_n dX6_bestLaid_16 rfl, ⟨3, s_get (C := RX6) (T := TX6) (N := 30) dX6_bestLaid_17 rfl (by decide) wt_1177 uw_X6, ⟨1, s_iconst dX6_bestLaid_20 rfl, ⟨1, s_iald dX6_bestLaid_21, rfl⟩⟩⟩⟩⟩, t_ge dX6_bestLaid_22 (by decide) rfl⟩
theorem ok_211_5 : BkOK mi i_211 (bpf P_211) 5 (B_211.getD 5 bk0) := ⟨39, ⟨1, s_iload_n dX6_bestLaid_25 rfl, ⟨1, s_aload_n dX6_bestLaid_26 rfl, ⟨3, s_get (C := RX6) (T := TX6) (N := 30) dX6_bestLaid_27 rfl (by decide) wt_1179 uw_X6, ⟨1, s_iload_n dX6_bestLaid_30 rfl, ⟨1, s_iald dX6_bestLaid_31, ⟨3, s_mmin dX6_bestLaid_32 wt_1155x wt_293 wt_4 wt_294 ⟨by decide, by decide⟩, ⟨1, s_istore_n dX6_bestLaid_35 rfl (by decide), ⟨3, s_iinc dX6_bestLaid_36 rfl (by decide), rfl⟩⟩⟩⟩⟩⟩⟩⟩, t_go dX6_bestLaid_39 (by decide)⟩
theorem ok_211_6 : BkOK mi i_211 (bpf P_211) 6 (B_211.getD 6 bk0) := ⟨43, ⟨1, s_iload_n dX6_bestLaid_42 rfl, rfl⟩, t_ret dX6_bestLaid_43 rfl⟩
theorem ok_211 : ∀ b, BkOK mi i_211 (bpf P_211) b (B_211.getD b bk0)
  | 0 => ok_211_0
  | 1 => ok_211_1
  | 2 => ok_211_2
  | 3 => ok_211_3
  | 4 => ok_211_4
  | 5 => ok_211_5
  | 6 => ok_211_6
  | b + 7 => bk_none mi i_211 (bpf P_211) (b + 7)
theorem ok_212_0 : BkOK mi i_212 (bpf P_212) 0 (B_212.getD 0 bk0) := ⟨1, ⟨1, s_aload_n dX6_bestNow_0 rfl, rfl⟩, t_cv rfl mi_208 mok_208 rfl (fun _ => ⟨rfl, by decide +kernel⟩) (fun hs' e => by cases e; intro E n b h; cases h) (fun q fs As rest h hp hA hr => (call_V (i := i_212) (j := i_208) (C := RX6) (T := TX6) (N := 30) dX6_bestNow_1 mok_208 rfl ⟨by decide, by decide⟩ np_208 rfl rfl wt_1493 wt_1495 ws_51 hp hA hr rfl).thr (fun _ => True.intro))⟩
theorem ok_212_1 : BkOK mi i_212 (bpf P_212) 1 (B_212.getD 1 bk0) := ⟨5, ⟨1, s_aload_n dX6_bestNow_4 rfl, rfl⟩, t_cv rfl mi_211 mok_211 rfl (fun _ => ⟨rfl, by decide +kernel⟩) (fun hs' e => by cases e; intro E n b h; cases h) (fun q fs As rest h hp hA hr => (call_V (i := i_212) (j := i_211) (C := RX6) (T := TX6) (N := 30) dX6_bestNow_5 mok_211 rfl ⟨by decide, by decide⟩ np_211 rfl rfl wt_1520 wt_1522 ws_57 hp hA hr rfl).thr (fun _ => True.intro))⟩
theorem ok_212_2 : BkOK mi i_212 (bpf P_212) 2 (B_212.getD 2 bk0) := ⟨8, rfl, t_ret dX6_bestNow_8 rfl⟩
theorem ok_212 : ∀ b, BkOK mi i_212 (bpf P_212) b (B_212.getD b bk0)
  | 0 => ok_212_0
  | 1 => ok_212_1
  | 2 => ok_212_2
  | b + 3 => bk_none mi i_212 (bpf P_212) (b + 3)
theorem ok_213_0 : BkOK mi i_213 (bpf P_213) 0 (B_213.getD 0 bk0) := ⟨4, ⟨1, s_iload_n dX6_orNone_0 rfl, ⟨3, s_ldcw dX6_orNone_1 wt_1501, rfl⟩⟩, t_lt dX6_orNone_4 (by decide) rfl⟩
theorem ok_213_1 : BkOK mi i_213 (bpf P_213) 1 (B_213.getD 1 bk0) := ⟨8, ⟨1, s_iconst dX6_orNone_7 rfl, rfl⟩, t_go dX6_orNone_8 (by decide)⟩
theorem ok_213_2 : BkOK mi i_213 (bpf P_213) 2 (B_213.getD 2 bk0) := ⟨12, ⟨1, s_iload_n dX6_orNone_11 rfl, rfl⟩, t_fall rfl⟩
theorem ok_213_3 : BkOK mi i_213 (bpf P_213) 3 (B_213.getD 3 bk0) := ⟨12, rfl, t_ret dX6_orNone_12 rfl⟩
theorem ok_213 : ∀ b, BkOK mi i_213 (bpf P_213) b (B_213.getD b bk0)
  | 0 => ok_213_0
  | 1 => ok_213_1
  | 2 => ok_213_2
  | 3 => ok_213_3
  | b + 4 => bk_none mi i_213 (bpf P_213) (b + 4)
