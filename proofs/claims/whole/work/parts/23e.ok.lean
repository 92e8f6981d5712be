theorem ok_140_0 : BkOK mi i_140 (bpf P_140) 0 (B_140.getD 0 bk0) := ⟨1, ⟨1, s_iload_n dX5_toldPassageCost_0 rfl, rfl⟩, t_ne0 dX5_toldPassageCost_1 (by decide) rfl⟩
theorem ok_140_1 : BkOK mi i_140 (bpf P_140) 1 (B_140.getD 1 bk0) := ⟨5, ⟨1, s_iconst dX5_toldPassageCost_4 rfl, rfl⟩, t_ret dX5_toldPassageCost_5 rfl⟩
theorem ok_140_2 : BkOK mi i_140 (bpf P_140) 2 (B_140.getD 2 bk0) := ⟨16, ⟨1, s_aload_n dX5_toldPassageCost_6 rfl, ⟨3, s_get (C := RX5) (T := TX5) (N := 12) dX5_toldPassageCost_7 rfl (by decide) wt_223 uw_X5, ⟨3, s_getN (C := RX0) (T := TX0) (N := 10) dX5_toldPassageCost_10 rfl (by decide) wt_81 uw_X0, ⟨1, s_iload_n dX5_toldPassageCost_13 rfl, ⟨1, s_iconst dX5_toldPassageCost_14 rfl, ⟨1, s_isub dX5_toldPassageCost_15, rfl⟩⟩⟩⟩⟩⟩, t_cv rfl mi_62 mok_62 rfl (fun _ => ⟨rfl, by decide +kernel⟩) (fun hs' e => by cases e; intro E n b h; cases h) (fun q fs As rest h hp hA hr => (call_V (i := i_140) (j := i_62) (C := RX2) (T := TX2) (N := 1) dX5_toldPassageCost_16 mok_62 rfl ⟨by decide, by decide⟩ np_62 rfl rfl wt_661 wt_277 wt_278 hp hA hr rfl).thr (fun _ => True.intro))⟩
theorem ok_140_3 : BkOK mi i_140 (bpf P_140) 3 (B_140.getD 3 bk0) := ⟨36, ⟨1, s_istore_n dX5_toldPassageCost_19 rfl (by decide), ⟨1, s_aload_n dX5_toldPassageCost_20 rfl, ⟨3, s_get (C := RX5) (T := TX5) (N := 12) dX5_toldPassageCost_21 rfl (by decide) wt_223 uw_X5, ⟨1, s_iload_n dX5_toldPassageCost_24 rfl, ⟨1, s_iconst dX5_toldPassageCost_25 rfl, ⟨1, s_isub dX5_toldPassageCost_26, ⟨1, s_iload_n dX5_toldPassageCost_27 rfl, ⟨1, s_aload_n dX5_toldPassageCost_28 rfl, ⟨3, s_get (C := RX5) (T := TX5) (N := 12) dX5_toldPassageCost_29 rfl (by decide) wt_228 uw_X5, ⟨1, s_iload_n dX5_toldPassageCost_32 rfl, ⟨1, s_iconst dX5_toldPassageCost_33 rfl, ⟨1, s_isub dX5_toldPassageCost_34, ⟨1, s_iconst dX5_toldPassageCost_35 rfl, rfl⟩⟩⟩⟩⟩⟩⟩⟩⟩⟩⟩⟩⟩, t_cs rfl mi_146 mok_146 rfl (fun As rest h hA hr => call_S dX5_toldPassageCost_36 mok_146 rfl ⟨by decide, by decide⟩ np_146 wt_655 wt_416 hA hr)⟩
theorem ok_140_4 : BkOK mi i_140 (bpf P_140) 4 (B_140.getD 4 bk0) := ⟨41, ⟨1, s_iload_n dX5_toldPassageCost_39 rfl, ⟨1, s_iconst dX5_toldPassageCost_40 rfl, rfl⟩⟩, t_cs rfl mi_146 mok_146 rfl (fun As rest h hA hr => call_S dX5_toldPassageCost_41 mok_146 rfl ⟨by decide, by decide⟩ np_146 wt_655 wt_416 hA hr)⟩
theorem ok_140_5 : BkOK mi i_140 (bpf P_140) 5 (B_140.getD 5 bk0) := ⟨44, rfl, t_cv rfl mi_22 mok_22 rfl (fun _ => ⟨rfl, by decide +kernel⟩) (fun hs' e => by cases e; intro E n b h; cases h) (fun q fs As rest h hp hA hr => (call_V (i := i_140) (j := i_22) (C := RX0) (T := TX0) (N := 10) dX5_toldPassageCost_44 mok_22 rfl ⟨by decide, by decide⟩ np_22 rfl rfl wt_662 wt_537 wt_538 hp hA hr rfl).thr (fun _ => True.intro))⟩
theorem ok_140_6 : BkOK mi i_140 (bpf P_140) 6 (B_140.getD 6 bk0) := ⟨47, rfl, t_ret dX5_toldPassageCost_47 rfl⟩
theorem ok_140 : ∀ b, BkOK mi i_140 (bpf P_140) b (B_140.getD b bk0)
  | 0 => ok_140_0
  | 1 => ok_140_1
  | 2 => ok_140_2
  | 3 => ok_140_3
  | 4 => ok_140_4
  | 5 => ok_140_5
  | 6 => ok_140_6
  | b + 7 => bk_none mi i_140 (bpf P_140) (b + 7)
theorem ok_141_0 : BkOK mi i_141 (bpf P_141) 0 (B_141.getD 0 bk0) := ⟨9, ⟨1, s_aload_n dX5_write_0 rfl, ⟨3, s_get (C := RX5) (T := TX5) (N := 12) dX5_write_1 rfl (by decide) wt_229 uw_X5, ⟨1, s_aload_n dX5_write_4 rfl, ⟨3, s_get (C := RX5) (T := TX5) (N := 12) dX5_write_5 rfl (by decide) wt_230 uw_X5, ⟨1, s_iload_n dX5_write_8 rfl, rfl⟩⟩⟩⟩⟩, t_cv rfl mi_63 mok_63 rfl (fun _ => ⟨rfl, by decide +kernel⟩) (fun hs' e => by cases e; intro E n b h; cases h) (fun q fs As rest h hp hA hr => (call_V (i := i_141) (j := i_63) (C := RX2) (T := TX2) (N := 1) dX5_write_9 mok_63 rfl ⟨by decide, by decide⟩ np_63 rfl rfl wt_1022 wt_57 wt_58 hp hA hr rfl).thr (fun _ => True.intro))⟩
theorem ok_141_1 : BkOK mi i_141 (bpf P_141) 1 (B_141.getD 1 bk0) := ⟨22, ⟨1, s_aload_n dX5_write_12 rfl, ⟨1, s_dup dX5_write_13, ⟨3, s_get (C := RX5) (T := TX5) (N := 12) dX5_write_14 rfl (by decide) wt_230 uw_X5, ⟨1, s_iconst dX5_write_17 rfl, ⟨1, s_iadd dX5_write_18, ⟨3, s_put (C := RX5) (T := TX5) (N := 12) tyX5 tyX5_ok nmX5 dX5_write_19 rfl (by decide) rfl (tyX5_ok 7 (by decide)) wt_230 uw_X5, rfl⟩⟩⟩⟩⟩⟩, t_retV dX5_write_22 rfl⟩
theorem ok_141 : ∀ b, BkOK mi i_141 (bpf P_141) b (B_141.getD b bk0)
  | 0 => ok_141_0
  | 1 => ok_141_1
  | b + 2 => bk_none mi i_141 (bpf P_141) (b + 2)
theorem ok_142_0 : BkOK mi i_142 (bpf P_142) 0 (B_142.getD 0 bk0) := ⟨2, ⟨1, s_iload_n dX5_isWithin_0 rfl, ⟨1, s_iload_n dX5_isWithin_1 rfl, rfl⟩⟩, t_lt dX5_isWithin_2 (by decide) rfl⟩
theorem ok_142_1 : BkOK mi i_142 (bpf P_142) 1 (B_142.getD 1 bk0) := ⟨7, ⟨1, s_iload_n dX5_isWithin_5 rfl, ⟨1, s_iload_n dX5_isWithin_6 rfl, rfl⟩⟩, t_gt dX5_isWithin_7 (by decide) rfl⟩
theorem ok_142_2 : BkOK mi i_142 (bpf P_142) 2 (B_142.getD 2 bk0) := ⟨11, ⟨1, s_iconst dX5_isWithin_10 rfl, rfl⟩, t_go dX5_isWithin_11 (by decide)⟩
theorem ok_142_3 : BkOK mi i_142 (bpf P_142) 3 (B_142.getD 3 bk0) := ⟨15, ⟨1, s_iconst dX5_isWithin_14 rfl, rfl⟩, t_fall rfl⟩
theorem ok_142_4 : BkOK mi i_142 (bpf P_142) 4 (B_142.getD 4 bk0) := ⟨15, rfl, t_retZ dX5_isWithin_15 rfl⟩
theorem ok_142 : ∀ b, BkOK mi i_142 (bpf P_142) b (B_142.getD b bk0)
  | 0 => ok_142_0
  | 1 => ok_142_1
  | 2 => ok_142_2
  | 3 => ok_142_3
  | 4 => ok_142_4
  | b + 5 => bk_none mi i_142 (bpf P_142) (b + 5)
theorem ok_143_0 : BkOK mi i_143 (bpf P_143) 0 (B_143.getD 0 bk0) := ⟨5, ⟨1, s_iload_n dX5_areKeys_0 rfl, ⟨2, s_bipush dX5_areKeys_1 rfl, ⟨2, s_bipush dX5_areKeys_3 rfl, rfl⟩⟩⟩, t_cs rfl mi_142 mok_142 rfl (fun As rest h hA hr => call_S dX5_areKeys_5 mok_142 rfl ⟨by decide, by decide⟩ np_142 wt_819 wt_285 hA hr)⟩
theorem ok_143_1 : BkOK mi i_143 (bpf P_143) 1 (B_143.getD 1 bk0) := ⟨8, rfl, t_ne0 dX5_areKeys_8 (by decide) rfl⟩
theorem ok_143_2 : BkOK mi i_143 (bpf P_143) 2 (B_143.getD 2 bk0) := ⟨12, ⟨1, s_iconst dX5_areKeys_11 rfl, rfl⟩, t_retZ dX5_areKeys_12 rfl⟩
theorem ok_143_3 : BkOK mi i_143 (bpf P_143) 3 (B_143.getD 3 bk0) := ⟨14, ⟨1, s_iload_n dX5_areKeys_13 rfl, rfl⟩, t_ne0 dX5_areKeys_14 (by decide) rfl⟩
theorem ok_143_4 : BkOK mi i_143 (bpf P_143) 4 (B_143.getD 4 bk0) := ⟨18, ⟨1, s_iload_n dX5_areKeys_17 rfl, rfl⟩, t_ne0 dX5_areKeys_18 (by decide) rfl⟩
theorem ok_143_5 : BkOK mi i_143 (bpf P_143) 5 (B_143.getD 5 bk0) := ⟨22, ⟨1, s_iconst dX5_areKeys_21 rfl, rfl⟩, t_go dX5_areKeys_22 (by decide)⟩
theorem ok_143_6 : BkOK mi i_143 (bpf P_143) 6 (B_143.getD 6 bk0) := ⟨26, ⟨1, s_iconst dX5_areKeys_25 rfl, rfl⟩, t_fall rfl⟩
theorem ok_143_7 : BkOK mi i_143 (bpf P_143) 7 (B_143.getD 7 bk0) := ⟨26, rfl, t_retZ dX5_areKeys_26 rfl⟩
theorem ok_143_8 : BkOK mi i_143 (bpf P_143) 8 (B_143.getD 8 bk0) := ⟨33, ⟨1, s_iload_n dX5_areKeys_27 rfl, ⟨1, s_iload_n dX5_areKeys_28 rfl, ⟨1, s_iconst dX5_areKeys_29 rfl, ⟨1, s_iadd dX5_areKeys_30, ⟨2, s_bipush dX5_areKeys_31 rfl, rfl⟩⟩⟩⟩⟩, t_cs rfl mi_142 mok_142 rfl (fun As rest h hA hr => call_S dX5_areKeys_33 mok_142 rfl ⟨by decide, by decide⟩ np_142 wt_819 wt_285 hA hr)⟩
theorem ok_143_9 : BkOK mi i_143 (bpf P_143) 9 (B_143.getD 9 bk0) := ⟨36, rfl, t_eq0 dX5_areKeys_36 (by decide) rfl⟩
theorem ok_143_10 : BkOK mi i_143 (bpf P_143) 10 (B_143.getD 10 bk0) := ⟨40, ⟨1, s_iload_n dX5_areKeys_39 rfl, rfl⟩, t_eq0 dX5_areKeys_40 (by decide) rfl⟩
theorem ok_143_11 : BkOK mi i_143 (bpf P_143) 11 (B_143.getD 11 bk0) := ⟨49, ⟨1, s_iload_n dX5_areKeys_43 rfl, ⟨1, s_iload_n dX5_areKeys_44 rfl, ⟨1, s_iconst dX5_areKeys_45 rfl, ⟨1, s_iadd dX5_areKeys_46, ⟨2, s_bipush dX5_areKeys_47 rfl, rfl⟩⟩⟩⟩⟩, t_cs rfl mi_142 mok_142 rfl (fun As rest h hA hr => call_S dX5_areKeys_49 mok_142 rfl ⟨by decide, by decide⟩ np_142 wt_819 wt_285 hA hr)⟩
theorem ok_143_12 : BkOK mi i_143 (bpf P_143) 12 (B_143.getD 12 bk0) := ⟨52, rfl, t_eq0 dX5_areKeys_52 (by decide) rfl⟩
theorem ok_143_13 : BkOK mi i_143 (bpf P_143) 13 (B_143.getD 13 bk0) := ⟨56, ⟨1, s_iconst dX5_areKeys_55 rfl, rfl⟩, t_go dX5_areKeys_56 (by decide)⟩
theorem ok_143_14 : BkOK mi i_143 (bpf P_143) 14 (B_143.getD 14 bk0) := ⟨60, ⟨1, s_iconst dX5_areKeys_59 rfl, rfl⟩, t_fall rfl⟩
theorem ok_143_15 : BkOK mi i_143 (bpf P_143) 15 (B_143.getD 15 bk0) := ⟨60, rfl, t_retZ dX5_areKeys_60 rfl⟩
theorem ok_143 : ∀ b, BkOK mi i_143 (bpf P_143) b (B_143.getD b bk0)
  | 0 => ok_143_0
  | 1 => ok_143_1
  | 2 => ok_143_2
  | 3 => ok_143_3
  | 4 => ok_143_4
  | 5 => ok_143_5
  | 6 => ok_143_6
  | 7 => ok_143_7
  | 8 => ok_143_8
  | 9 => ok_143_9
  | 10 => ok_143_10
  | 11 => ok_143_11
  | 12 => ok_143_12
  | 13 => ok_143_13
  | 14 => ok_143_14
  | 15 => ok_143_15
  | b + 16 => bk_none mi i_143 (bpf P_143) (b + 16)
theorem ok_144_0 : BkOK mi i_144 (bpf P_144) 0 (B_144.getD 0 bk0) := ⟨7, ⟨1, s_iload_n dX5_isBlack_0 rfl, ⟨2, s_bipush dX5_isBlack_1 rfl, ⟨1, s_irem dX5_isBlack_3, ⟨1, s_istore_n dX5_isBlack_4 rfl (by decide), ⟨1, s_iload_n dX5_isBlack_5 rfl, ⟨1, s_iconst dX5_isBlack_6 rfl, rfl⟩⟩⟩⟩⟩⟩, t_eq dX5_isBlack_7 (by decide) rfl⟩
theorem ok_144_1 : BkOK mi i_144 (bpf P_144) 1 (B_144.getD 1 bk0) := ⟨12, ⟨1, s_iload_n dX5_isBlack_10 rfl, ⟨1, s_iconst dX5_isBlack_11 rfl, rfl⟩⟩, t_eq dX5_isBlack_12 (by decide) rfl⟩
theorem ok_144_2 : BkOK mi i_144 (bpf P_144) 2 (B_144.getD 2 bk0) := ⟨18, ⟨1, s_iload_n dX5_isBlack_15 rfl, ⟨2, s_bipush dX5_isBlack_16 rfl, rfl⟩⟩, t_eq dX5_isBlack_18 (by decide) rfl⟩
theorem ok_144_3 : BkOK mi i_144 (bpf P_144) 3 (B_144.getD 3 bk0) := ⟨24, ⟨1, s_iload_n dX5_isBlack_21 rfl, ⟨2, s_bipush dX5_isBlack_22 rfl, rfl⟩⟩, t_eq dX5_isBlack_24 (by decide) rfl⟩
theorem ok_144_4 : BkOK mi i_144 (bpf P_144) 4 (B_144.getD 4 bk0) := ⟨30, ⟨1, s_iload_n dX5_isBlack_27 rfl, ⟨2, s_bipush dX5_isBlack_28 rfl, rfl⟩⟩, t_nei dX5_isBlack_30 (by decide) rfl⟩
theorem ok_144_5 : BkOK mi i_144 (bpf P_144) 5 (B_144.getD 5 bk0) := ⟨34, ⟨1, s_iconst dX5_isBlack_33 rfl, rfl⟩, t_go dX5_isBlack_34 (by decide)⟩
theorem ok_144_6 : BkOK mi i_144 (bpf P_144) 6 (B_144.getD 6 bk0) := ⟨38, ⟨1, s_iconst dX5_isBlack_37 rfl, rfl⟩, t_fall rfl⟩
theorem ok_144_7 : BkOK mi i_144 (bpf P_144) 7 (B_144.getD 7 bk0) := ⟨38, rfl, t_retZ dX5_isBlack_38 rfl⟩
theorem ok_144 : ∀ b, BkOK mi i_144 (bpf P_144) b (B_144.getD b bk0)
  | 0 => ok_144_0
  | 1 => ok_144_1
  | 2 => ok_144_2
  | 3 => ok_144_3
  | 4 => ok_144_4
  | 5 => ok_144_5
  | 6 => ok_144_6
  | 7 => ok_144_7
  | b + 8 => bk_none mi i_144 (bpf P_144) (b + 8)
theorem ok_145_0 : BkOK mi i_145 (bpf P_145) 0 (B_145.getD 0 bk0) := ⟨2, ⟨1, s_iload_n dX5_bitOf_0 rfl, ⟨1, s_iconst dX5_bitOf_1 rfl, rfl⟩⟩, t_lt dX5_bitOf_2 (by decide) rfl⟩
theorem ok_145_1 : BkOK mi i_145 (bpf P_145) 1 (B_145.getD 1 bk0) := ⟨7, ⟨1, s_iload_n dX5_bitOf_5 rfl, ⟨1, s_iconst dX5_bitOf_6 rfl, rfl⟩⟩, t_gt dX5_bitOf_7 (by decide) rfl⟩
theorem ok_145_2 : BkOK mi i_145 (bpf P_145) 2 (B_145.getD 2 bk0) := ⟨15, ⟨1, s_iconst dX5_bitOf_10 rfl, ⟨1, s_iload_n dX5_bitOf_11 rfl, ⟨1, s_iconst dX5_bitOf_12 rfl, ⟨1, s_isub dX5_bitOf_13, ⟨1, s_ishl dX5_bitOf_14, rfl⟩⟩⟩⟩⟩, t_go dX5_bitOf_15 (by decide)⟩
theorem ok_145_3 : BkOK mi i_145 (bpf P_145) 3 (B_145.getD 3 bk0) := ⟨19, ⟨1, s_iconst dX5_bitOf_18 rfl, rfl⟩, t_fall rfl⟩
theorem ok_145_4 : BkOK mi i_145 (bpf P_145) 4 (B_145.getD 4 bk0) := ⟨19, rfl, t_ret dX5_bitOf_19 rfl⟩
theorem ok_145 : ∀ b, BkOK mi i_145 (bpf P_145) b (B_145.getD b bk0)
  | 0 => ok_145_0
  | 1 => ok_145_1
  | 2 => ok_145_2
  | 3 => ok_145_3
  | 4 => ok_145_4
  | b + 5 => bk_none mi i_145 (bpf P_145) (b + 5)
theorem ok_146_0 : BkOK mi i_146 (bpf P_146) 0 (B_146.getD 0 bk0) := ⟨5, ⟨1, s_iload_n dX5_placeOf_0 rfl, ⟨1, s_iconst dX5_placeOf_1 rfl, ⟨1, s_imul dX5_placeOf_2, ⟨1, s_iload_n dX5_placeOf_3 rfl, ⟨1, s_iadd dX5_placeOf_4, rfl⟩⟩⟩⟩⟩, t_ret dX5_placeOf_5 rfl⟩
theorem ok_146 : ∀ b, BkOK mi i_146 (bpf P_146) b (B_146.getD b bk0)
  | 0 => ok_146_0
  | b + 1 => bk_none mi i_146 (bpf P_146) (b + 1)
theorem ok_147_0 : BkOK mi i_147 (bpf P_147) 0 (B_147.getD 0 bk0) := ⟨9, ⟨1, s_iload_n dX5_pairOf_0 rfl, ⟨1, s_iconst dX5_pairOf_1 rfl, ⟨1, s_isub dX5_pairOf_2, ⟨1, s_iconst dX5_pairOf_3 rfl, ⟨1, s_imul dX5_pairOf_4, ⟨1, s_iload_n dX5_pairOf_5 rfl, ⟨1, s_iadd dX5_pairOf_6, ⟨1, s_iconst dX5_pairOf_7 rfl, ⟨1, s_isub dX5_pairOf_8, rfl⟩⟩⟩⟩⟩⟩⟩⟩⟩, t_ret dX5_pairOf_9 rfl⟩
theorem ok_147 : ∀ b, BkOK mi i_147 (bpf P_147) b (B_147.getD b bk0)
  | 0 => ok_147_0
  | b + 1 => bk_none mi i_147 (bpf P_147) (b + 1)
theorem ok_148_0 : BkOK mi i_148 (bpf P_148) 0 (B_148.getD 0 bk0) := ⟨2, ⟨1, s_iload_n dX5_sumOf_0 rfl, ⟨1, s_iconst dX5_sumOf_1 rfl, rfl⟩⟩, t_eq dX5_sumOf_2 (by decide) rfl⟩
theorem ok_148_1 : BkOK mi i_148 (bpf P_148) 1 (B_148.getD 1 bk0) := ⟨7, ⟨1, s_iload_n dX5_sumOf_5 rfl, ⟨1, s_iconst dX5_sumOf_6 rfl, rfl⟩⟩, t_nei dX5_sumOf_7 (by decide) rfl⟩
theorem ok_148_2 : BkOK mi i_148 (bpf P_148) 2 (B_148.getD 2 bk0) := ⟨11, ⟨1, s_iconst dX5_sumOf_10 rfl, rfl⟩, t_go dX5_sumOf_11 (by decide)⟩
theorem ok_148_3 : BkOK mi i_148 (bpf P_148) 3 (B_148.getD 3 bk0) := ⟨17, ⟨1, s_iload_n dX5_sumOf_14 rfl, ⟨1, s_iload_n dX5_sumOf_15 rfl, ⟨1, s_iadd dX5_sumOf_16, rfl⟩⟩⟩, t_fall rfl⟩
theorem ok_148_4 : BkOK mi i_148 (bpf P_148) 4 (B_148.getD 4 bk0) := ⟨17, rfl, t_ret dX5_sumOf_17 rfl⟩
theorem ok_148 : ∀ b, BkOK mi i_148 (bpf P_148) b (B_148.getD b bk0)
  | 0 => ok_148_0
  | 1 => ok_148_1
  | 2 => ok_148_2
  | 3 => ok_148_3
  | 4 => ok_148_4
  | b + 5 => bk_none mi i_148 (bpf P_148) (b + 5)
theorem ok_149_0 : BkOK mi i_149 (bpf P_149) 0 (B_149.getD 0 bk0) := ⟨2, ⟨1, s_iload_n dX5_lesserOf_0 rfl, ⟨1, s_iconst dX5_lesserOf_1 rfl, rfl⟩⟩, t_eq dX5_lesserOf_2 (by decide) rfl⟩
theorem ok_149_1 : BkOK mi i_149 (bpf P_149) 1 (B_149.getD 1 bk0) := ⟨7, ⟨1, s_iload_n dX5_lesserOf_5 rfl, ⟨1, s_iconst dX5_lesserOf_6 rfl, rfl⟩⟩, t_nei dX5_lesserOf_7 (by decide) rfl⟩
theorem ok_149_2 : BkOK mi i_149 (bpf P_149) 2 (B_149.getD 2 bk0) := ⟨12, ⟨1, s_iload_n dX5_lesserOf_10 rfl, ⟨1, s_iconst dX5_lesserOf_11 rfl, rfl⟩⟩, t_nei dX5_lesserOf_12 (by decide) rfl⟩
theorem ok_149_3 : BkOK mi i_149 (bpf P_149) 3 (B_149.getD 3 bk0) := ⟨16, ⟨1, s_iload_n dX5_lesserOf_15 rfl, rfl⟩, t_go dX5_lesserOf_16 (by decide)⟩
theorem ok_149_4 : BkOK mi i_149 (bpf P_149) 4 (B_149.getD 4 bk0) := ⟨20, ⟨1, s_iload_n dX5_lesserOf_19 rfl, rfl⟩, t_fall rfl⟩
theorem ok_149_5 : BkOK mi i_149 (bpf P_149) 5 (B_149.getD 5 bk0) := ⟨20, rfl, t_ret dX5_lesserOf_20 rfl⟩
theorem ok_149_6 : BkOK mi i_149 (bpf P_149) 6 (B_149.getD 6 bk0) := ⟨26, ⟨1, s_iload_n dX5_lesserOf_21 rfl, ⟨1, s_iload_n dX5_lesserOf_22 rfl, ⟨3, s_mmin dX5_lesserOf_23 wt_578x wt_293 wt_4 wt_294 ⟨by decide, by decide⟩, rfl⟩⟩⟩, t_ret dX5_lesserOf_26 rfl⟩
theorem ok_149 : ∀ b, BkOK mi i_149 (bpf P_149) b (B_149.getD b bk0)
  | 0 => ok_149_0
  | 1 => ok_149_1
  | 2 => ok_149_2
  | 3 => ok_149_3
  | 4 => ok_149_4
  | 5 => ok_149_5
  | 6 => ok_149_6
  | b + 7 => bk_none mi i_149 (bpf P_149) (b + 7)
theorem ok_150_0 : BkOK mi i_150 (bpf P_150) 0 (B_150.getD 0 bk0) := ⟨5, ⟨1, s_iconst dX5_bytesIn_0 rfl, ⟨1, s_istore_n dX5_bytesIn_1 rfl (by decide), ⟨2, s_bipush dX5_bytesIn_2 rfl, ⟨1, s_istore_n dX5_bytesIn_4 rfl (by decide), rfl⟩⟩⟩⟩, t_fall rfl⟩
theorem ok_150_1 : BkOK mi i_150 (bpf P_150) 1 (B_150.getD 1 bk0) := ⟨6, ⟨1, s_iload_n dX5_bytesIn_5 rfl, rfl⟩, t_lt0 dX5_bytesIn_6 (by decide) rfl⟩
theorem ok_150_2 : BkOK mi i_150 (bpf P_150) 2 (B_150.getD 2 bk0) := ⟨17, ⟨1, s_iload_n dX5_bytesIn_9 rfl, ⟨1, s_iload_n dX5_bytesIn_10 rfl, ⟨1, s_iload_n dX5_bytesIn_11 rfl, ⟨1, s_iushr dX5_bytesIn_12, ⟨3, s_sipush dX5_bytesIn_13 rfl, ⟨1, s_iand dX5_bytesIn_16, rfl⟩⟩⟩⟩⟩⟩, t_eq0 dX5_bytesIn_17 (by decide) rfl⟩
theorem ok_150_3 : BkOK mi i_150 (bpf P_150) 3 (B_150.getD 3 bk0) := ⟨21, ⟨1, s_iconst dX5_bytesIn_20 rfl, rfl⟩, t_go dX5_bytesIn_21 (by decide)⟩
theorem ok_150_4 : BkOK mi i_150 (bpf P_150) 4 (B_150.getD 4 bk0) := ⟨25, ⟨1, s_iconst dX5_bytesIn_24 rfl, rfl⟩, t_fall rfl⟩
theorem ok_150_5 : BkOK mi i_150 (bpf P_150) 5 (B_150.getD 5 bk0) := ⟨30, ⟨1, s_iadd dX5_bytesIn_25, ⟨1, s_istore_n dX5_bytesIn_26 rfl (by decide), ⟨3, s_iinc dX5_bytesIn_27 rfl (by decide), rfl⟩⟩⟩, t_go dX5_bytesIn_30 (by decide)⟩
theorem ok_150_6 : BkOK mi i_150 (bpf P_150) 6 (B_150.getD 6 bk0) := ⟨34, ⟨1, s_iload_n dX5_bytesIn_33 rfl, rfl⟩, t_ret dX5_bytesIn_34 rfl⟩
theorem ok_150 : ∀ b, BkOK mi i_150 (bpf P_150) b (B_150.getD b bk0)
  | 0 => ok_150_0
  | 1 => ok_150_1
  | 2 => ok_150_2
  | 3 => ok_150_3
  | 4 => ok_150_4
  | 5 => ok_150_5
  | 6 => ok_150_6
  | b + 7 => bk_none mi i_150 (bpf P_150) (b + 7)
theorem ok_151_0 : BkOK mi i_151 (bpf P_151) 0 (B_151.getD 0 bk0) := ⟨165, ⟨1, s_aload_n dX6_init_0 rfl, ⟨3, s_obj dX6_init_1 wt_1139x wt_28 wt_29 ⟨by decide, by decide⟩, ⟨1, s_aload_n dX6_init_4 rfl, ⟨3, s_sipush dX6_init_5 rfl, ⟨2, s_newa_i dX6_init_8 wt_49, ⟨3, s_putF (C := RX6) (T := TX6) (N := 30) tyX6 tyX6_ok nmX6 dX6_init_10 rfl (by decide) rfl rfl rfl (tyX6_ok 0 (by decide)) wt_1157 uw_X6, ⟨1, s_aload_n dX6_init_13 rfl, ⟨3, s_sipush dX6_init_14 rfl, ⟨2, s_newa_i dX6_init_17 wt_49, ⟨3, s_putF (C := RX6) (T := TX6) (N := 30) tyX6 tyX6_ok nmX6 dX6_init_19 rfl (by decide) rfl rfl rfl (tyX6_ok 1 (by decide)) wt_1158 uw_X6, ⟨1, s_aload_n dX6_init_22 rfl, ⟨3, s_sipush dX6_init_23 rfl, ⟨2, s_newa_i dX6_init_26 wt_49, ⟨3, s_putF (C := RX6) (T := TX6) (N := 30) tyX6 tyX6_ok nmX6 dX6_init_28 rfl (by decide) rfl rfl rfl (tyX6_ok 2 (by decide)) wt_1159 uw_X6, ⟨1, s_aload_n dX6_init_31 rfl, ⟨3, s_sipush dX6_init_32 rfl, ⟨2, s_newa_i dX6_init_35 wt_49, ⟨3, s_putF (C := RX6) (T := TX6) (N := 30) tyX6 tyX6_ok nmX6 dX6_init_37 rfl (by decide) rfl rfl rfl (tyX6_ok 3 (by decide)) wt_1160 uw_X6, ⟨1, s_aload_n dX6_init_40 rfl, ⟨3, s_sipush dX6_init_41 rfl, ⟨2, s_newa_i dX6_init_44 wt_49, ⟨3, s_putF (C := RX6) (T := TX6) (N := 30) tyX6 tyX6_ok nmX6 dX6_init_46 rfl (by decide) rfl rfl rfl (tyX6_ok 4 (by decide)) wt_1161 uw_X6, ⟨1, s_aload_n dX6_init_49 rfl, ⟨1, s_iconst dX6_init_50 rfl, ⟨2, s_newa_z dX6_init_51 wt_1248, ⟨3, s_putF (C := RX6) (T := TX6) (N := 30) tyX6 tyX6_ok nmX6 dX6_init_53 rfl (by decide) rfl rfl rfl (tyX6_ok 5 (by decide)) wt_1162 uw_X6, ⟨1, s_aload_n dX6_init_56 rfl, ⟨3, s_sipush dX6_init_57 rfl, ⟨2, s_newa_i dX6_init_60 wt_49, ⟨3, s_putF (C := RX6) (T := TX6) (N := 30) tyX6 tyX6_ok nmX6 dX6_init_62 rfl (by decide) rfl rfl rfl (tyX6_ok 8 (by decide)) wt_1165 uw_X6, ⟨1, s_aload_n dX6_init_65 rfl, ⟨1, s_iconst dX6_init_66 rfl, ⟨3, s_put (C := RX6) (T := TX6) (N := 30) tyX6 tyX6_ok nmX6 dX6_init_67 rfl (by decide) rfl (tyX6_ok 16 (by decide)) wt_1173 uw_X6, ⟨1, s_aload_n dX6_init_70 rfl, ⟨1, s_iconst dX6_init_71 rfl, ⟨2, s_newa_i dX6_init_72 wt_49, ⟨3, s_putF (C := RX6) (T := TX6) (N := 30) tyX6 tyX6_ok nmX6 dX6_init_74 rfl (by decide) rfl rfl rfl (tyX6_ok 17 (by decide)) wt_1174 uw_X6, ⟨1, s_aload_n dX6_init_77 rfl, ⟨3, s_sipush dX6_init_78 rfl, ⟨2, s_newa_i dX6_init_81 wt_49, ⟨3, s_putF (C := RX6) (T := TX6) (N := 30) tyX6 tyX6_ok nmX6 dX6_init_83 rfl (by decide) rfl rfl rfl (tyX6_ok 18 (by decide)) wt_1175 uw_X6, ⟨1, s_aload_n dX6_init_86 rfl, ⟨3, s_sipush dX6_init_87 rfl, ⟨2, s_newa_i dX6_init_90 wt_49, ⟨3, s_putF (C := RX6) (T := TX6) (N := 30) tyX6 tyX6_ok nmX6 dX6_init_92 rfl (by decide) rfl rfl rfl (tyX6_ok 19 (by decide)) wt_1176 uw_X6, ⟨1, s_aload_n dX6_init_95 rfl, ⟨2, s_bipush dX6_init_96 rfl, ⟨2, s_newa_i dX6_init_98 wt_49, ⟨3, s_putF (C := RX6) (T := TX6) (N := 30) tyX6 tyX6_ok nmX6 dX6_init_100 rfl (by decide) rfl rfl rfl (tyX6_ok 20 (by decide)) wt_1177 uw_X6, ⟨1, s_aload_n dX6_init_103 rfl, ⟨2, s_bipush dX6_init_104 rfl, ⟨2, s_newa_i dX6_init_106 wt_49, ⟨3, s_putF (C := RX6) (T := TX6) (N := 30) tyX6 tyX6_ok nmX6 dX6_init_108 rfl (by decide) rfl rfl rfl (tyX6_ok 21 (by decide)) wt_1178 uw_X6, ⟨1, s_aload_n dX6_init_111 rfl, ⟨3, s_sipush dX6_init_112 rfl, ⟨2, s_newa_i dX6_init_115 wt_49, ⟨3, s_putF (C := RX6) (T := TX6) (N := 30) tyX6 tyX6_ok nmX6 dX6_init_117 rfl (by decide) rfl rfl rfl (tyX6_ok 22 (by decide)) wt_1179 uw_X6, ⟨1, s_aload_n dX6_init_120 rfl, ⟨3, s_sipush dX6_init_121 rfl, ⟨2, s_newa_i dX6_init_124 wt_49, ⟨3, s_putF (C := RX6) (T := TX6) (N := 30) tyX6 tyX6_ok nmX6 dX6_init_126 rfl (by decide) rfl rfl rfl (tyX6_ok 23 (by decide)) wt_1180 uw_X6, ⟨1, s_aload_n dX6_init_129 rfl, ⟨3, s_sipush dX6_init_130 rfl, ⟨2, s_newa_l dX6_init_133 wt_168, ⟨3, s_putF (C := RX6) (T := TX6) (N := 30) tyX6 tyX6_ok nmX6 dX6_init_135 rfl (by decide) rfl rfl rfl (tyX6_ok 24 (by decide)) wt_1181 uw_X6, ⟨1, s_aload_n dX6_init_138 rfl, ⟨3, s_sipush dX6_init_139 rfl, ⟨2, s_newa_l dX6_init_142 wt_168, ⟨3, s_putF (C := RX6) (T := TX6) (N := 30) tyX6 tyX6_ok nmX6 dX6_init_144 rfl (by decide) rfl rfl rfl (tyX6_ok 25 (by decide)) wt_1182 uw_X6, ⟨1, s_aload_n dX6_init_147 rfl, ⟨2, s_bipush dX6_init_148 rfl, ⟨2, s_newa_i dX6_init_150 wt_49, ⟨3, s_putF (C := RX6) (T := TX6) (N := 30) tyX6 tyX6_ok nmX6 dX6_init_152 rfl (by decide) rfl rfl rfl (tyX6_ok 26 (by decide)) wt_1183 uw_X6, ⟨1, s_aload_n dX6_init_155 rfl, ⟨3, s_sipush dX6_init_156 rfl, ⟨2, s_newa_i dX6_init_159 wt_49, ⟨3, s_putF (C := RX6) (T := TX6) (N := 30) tyX6 tyX6_ok nmX6 dX6_init_161 rfl (by decide) rfl rfl rfl (tyX6_ok 28 (by decide)) wt_1185 uw_X6, ⟨1, s_aload_n dX6_init_164 rfl, rfl⟩⟩⟩⟩⟩⟩⟩⟩⟩⟩⟩⟩⟩⟩⟩⟩⟩⟩⟩⟩⟩⟩⟩⟩⟩⟩⟩⟩⟩⟩⟩⟩⟩⟩⟩⟩⟩⟩⟩⟩⟩⟩⟩⟩⟩⟩⟩⟩⟩⟩⟩⟩⟩⟩⟩⟩⟩⟩⟩⟩⟩⟩⟩⟩⟩⟩⟩⟩⟩⟩⟩⟩⟩⟩⟩⟩⟩⟩, t_cv rfl mi_154 mok_154 rfl (fun _ => ⟨rfl, by decide +kernel⟩) (fun hs' e => by cases e; intro E n b h; cases h) (fun q fs As rest h hp hA hr => (call_V (i := i_151) (j := i_154) (C := RX6) (T := TX6) (N := 30) dX6_init_165 mok_154 rfl ⟨by decide, by decide⟩ np_154 rfl rfl wt_1140 wt_1142 ws_12 hp hA hr rfl).thr (fun _ => True.intro))⟩
theorem ok_151_1 : BkOK mi i_151 (bpf P_151) 1 (B_151.getD 1 bk0) := ⟨168, rfl, t_retV dX6_init_168 rfl⟩
theorem ok_151 : ∀ b, BkOK mi i_151 (bpf P_151) b (B_151.getD b bk0)
  | 0 => ok_151_0
  | 1 => ok_151_1
  | b + 2 => bk_none mi i_151 (bpf P_151) (b + 2)
theorem ok_152_0 : BkOK mi i_152 (bpf P_152) 0 (B_152.getD 0 bk0) := ⟨70, ⟨1, s_aload_n dX6_putsWeights_0 rfl, ⟨3, s_get (C := RX6) (T := TX6) (N := 30) dX6_putsWeights_1 rfl (by decide) wt_1157 uw_X6, ⟨1, s_iconst dX6_putsWeights_4 rfl, ⟨1, s_aload_n dX6_putsWeights_5 rfl, ⟨3, s_get (C := RX6) (T := TX6) (N := 30) dX6_putsWeights_6 rfl (by decide) wt_1167 uw_X6, ⟨1, s_iadd dX6_putsWeights_9, ⟨1, s_iload_n dX6_putsWeights_10 rfl, ⟨1, s_iast dX6_putsWeights_11, ⟨1, s_aload_n dX6_putsWeights_12 rfl, ⟨3, s_get (C := RX6) (T := TX6) (N := 30) dX6_putsWeights_13 rfl (by decide) wt_1157 uw_X6, ⟨1, s_iconst dX6_putsWeights_16 rfl, ⟨1, s_aload_n dX6_putsWeights_17 rfl, ⟨3, s_get (C := RX6) (T := TX6) (N := 30) dX6_putsWeights_18 rfl (by decide) wt_1167 uw_X6, ⟨1, s_iadd dX6_putsWeights_21, ⟨1, s_iconst dX6_putsWeights_22 rfl, ⟨1, s_iadd dX6_putsWeights_23, ⟨1, s_iload_n dX6_putsWeights_24 rfl, ⟨1, s_iast dX6_putsWeights_25, ⟨1, s_aload_n dX6_putsWeights_26 rfl, ⟨3, s_get (C := RX6) (T := TX6) (N := 30) dX6_putsWeights_27 rfl (by decide) wt_1157 uw_X6, ⟨1, s_iconst dX6_putsWeights_30 rfl, ⟨1, s_aload_n dX6_putsWeights_31 rfl, ⟨3, s_get (C := RX6) (T := TX6) (N := 30) dX6_putsWeights_32 rfl (by decide) wt_1167 uw_X6, ⟨1, s_iadd dX6_putsWeights_35, ⟨1, s_iconst dX6_putsWeights_36 rfl, ⟨1, s_iadd dX6_putsWeights_37, ⟨1, s_iload_n dX6_putsWeights_38 rfl, ⟨1, s_iast dX6_putsWeights_39, ⟨1, s_aload_n dX6_putsWeights_40 rfl, ⟨3, s_get (C := RX6) (T := TX6) (N := 30) dX6_putsWeights_41 rfl (by decide) wt_1157 uw_X6, ⟨1, s_iconst dX6_putsWeights_44 rfl, ⟨1, s_aload_n dX6_putsWeights_45 rfl, ⟨3, s_get (C := RX6) (T := TX6) (N := 30) dX6_putsWeights_46 rfl (by decide) wt_1167 uw_X6, ⟨1, s_iadd dX6_putsWeights_49, ⟨1, s_iconst dX6_putsWeights_50 rfl, ⟨1, s_iadd dX6_putsWeights_51, ⟨2, s_iload dX6_putsWeights_52, ⟨1, s_iast dX6_putsWeights_54, ⟨1, s_aload_n dX6_putsWeights_55 rfl, ⟨3, s_get (C := RX6) (T := TX6) (N := 30) dX6_putsWeights_56 rfl (by decide) wt_1157 uw_X6, ⟨1, s_iconst dX6_putsWeights_59 rfl, ⟨1, s_aload_n dX6_putsWeights_60 rfl, ⟨3, s_get (C := RX6) (T := TX6) (N := 30) dX6_putsWeights_61 rfl (by decide) wt_1167 uw_X6, ⟨1, s_iadd dX6_putsWeights_64, ⟨1, s_iconst dX6_putsWeights_65 rfl, ⟨1, s_iadd dX6_putsWeights_66, ⟨2, s_iload dX6_putsWeights_67, ⟨1, s_iast dX6_putsWeights_69, rfl⟩⟩⟩⟩⟩⟩⟩⟩⟩⟩⟩⟩⟩⟩⟩⟩⟩⟩⟩⟩⟩⟩⟩⟩⟩⟩⟩⟩⟩⟩⟩⟩⟩⟩⟩⟩⟩⟩⟩⟩⟩⟩⟩⟩⟩⟩⟩⟩, t_retV dX6_putsWeights_70 rfl⟩
theorem ok_152 : ∀ b, BkOK mi i_152 (bpf P_152) b (B_152.getD b bk0)
  | 0 => ok_152_0
  | b + 1 => bk_none mi i_152 (bpf P_152) (b + 1)
theorem ok_153_0 : BkOK mi i_153 (bpf P_153) 0 (B_153.getD 0 bk0) := ⟨2, ⟨1, s_iload_n dX6_putsSpan_0 rfl, ⟨1, s_iload_n dX6_putsSpan_1 rfl, rfl⟩⟩, t_cs rfl mi_155 mok_155 rfl (fun As rest h hA hr => call_S dX6_putsSpan_2 mok_155 rfl ⟨by decide, by decide⟩ np_155 wt_1152 wt_1153 hA hr)⟩
theorem ok_153_1 : BkOK mi i_153 (bpf P_153) 1 (B_153.getD 1 bk0) := ⟨37, ⟨2, s_istore dX6_putsSpan_5 (by decide), ⟨1, s_aload_n dX6_putsSpan_7 rfl, ⟨3, s_get (C := RX6) (T := TX6) (N := 30) dX6_putsSpan_8 rfl (by decide) wt_1157 uw_X6, ⟨2, s_iload dX6_putsSpan_11, ⟨1, s_iload_n dX6_putsSpan_13 rfl, ⟨1, s_iast dX6_putsSpan_14, ⟨1, s_aload_n dX6_putsSpan_15 rfl, ⟨3, s_get (C := RX6) (T := TX6) (N := 30) dX6_putsSpan_16 rfl (by decide) wt_1157 uw_X6, ⟨2, s_iload dX6_putsSpan_19, ⟨1, s_iconst dX6_putsSpan_21 rfl, ⟨1, s_iadd dX6_putsSpan_22, ⟨2, s_iload dX6_putsSpan_23, ⟨1, s_iast dX6_putsSpan_25, ⟨1, s_aload_n dX6_putsSpan_26 rfl, ⟨3, s_get (C := RX6) (T := TX6) (N := 30) dX6_putsSpan_27 rfl (by decide) wt_1157 uw_X6, ⟨2, s_iload dX6_putsSpan_30, ⟨1, s_iconst dX6_putsSpan_32 rfl, ⟨1, s_iadd dX6_putsSpan_33, ⟨2, s_iload dX6_putsSpan_34, ⟨1, s_iast dX6_putsSpan_36, rfl⟩⟩⟩⟩⟩⟩⟩⟩⟩⟩⟩⟩⟩⟩⟩⟩⟩⟩⟩⟩, t_retV dX6_putsSpan_37 rfl⟩
theorem ok_153 : ∀ b, BkOK mi i_153 (bpf P_153) b (B_153.getD b bk0)
  | 0 => ok_153_0
  | 1 => ok_153_1
  | b + 2 => bk_none mi i_153 (bpf P_153) (b + 2)
theorem ok_154_0 : BkOK mi i_154 (bpf P_154) 0 (B_154.getD 0 bk0) := ⟨2, ⟨1, s_iconst dX6_begins_0 rfl, ⟨1, s_istore_n dX6_begins_1 rfl (by decide), rfl⟩⟩, t_fall rfl⟩
theorem ok_154_1 : BkOK mi i_154 (bpf P_154) 1 (B_154.getD 1 bk0) := ⟨6, ⟨1, s_iload_n dX6_begins_2 rfl, ⟨3, s_sipush dX6_begins_3 rfl, rfl⟩⟩, t_ge dX6_begins_6 (by decide) rfl⟩
theorem ok_154_2 : BkOK mi i_154 (bpf P_154) 2 (B_154.getD 2 bk0) := ⟨19, ⟨1, s_aload_n dX6_begins_9 rfl, ⟨3, s_get (C := RX6) (T := TX6) (N := 30) dX6_begins_10 rfl (by decide) wt_1157 uw_X6, ⟨1, s_iload_n dX6_begins_13 rfl, ⟨1, s_iconst dX6_begins_14 rfl, ⟨1, s_iast dX6_begins_15, ⟨3, s_iinc dX6_begins_16 rfl (by decide), rfl⟩⟩⟩⟩⟩⟩, t_go dX6_begins_19 (by decide)⟩
theorem ok_154_3 : BkOK mi i_154 (bpf P_154) 3 (B_154.getD 3 bk0) := ⟨40, ⟨1, s_aload_n dX6_begins_22 rfl, ⟨3, s_get (C := RX6) (T := TX6) (N := 30) dX6_begins_23 rfl (by decide) wt_1157 uw_X6, ⟨1, s_iconst dX6_begins_26 rfl, ⟨1, s_iconst dX6_begins_27 rfl, ⟨1, s_iast dX6_begins_28, ⟨1, s_aload_n dX6_begins_29 rfl, ⟨1, s_iconst dX6_begins_30 rfl, ⟨3, s_put (C := RX6) (T := TX6) (N := 30) tyX6 tyX6_ok nmX6 dX6_begins_31 rfl (by decide) rfl (tyX6_ok 10 (by decide)) wt_1167 uw_X6, ⟨1, s_aload_n dX6_begins_34 rfl, ⟨1, s_iconst dX6_begins_35 rfl, ⟨1, s_iconst dX6_begins_36 rfl, ⟨1, s_iconst dX6_begins_37 rfl, ⟨1, s_iconst dX6_begins_38 rfl, ⟨1, s_iconst dX6_begins_39 rfl, rfl⟩⟩⟩⟩⟩⟩⟩⟩⟩⟩⟩⟩⟩⟩, t_cv rfl mi_152 mok_152 rfl (fun _ => ⟨rfl, by decide +kernel⟩) (fun hs' e => by cases e; intro E n b h; cases h) (fun q fs As rest h hp hA hr => (call_V (i := i_154) (j := i_152) (C := RX6) (T := TX6) (N := 30) dX6_begins_40 mok_152 rfl ⟨by decide, by decide⟩ np_152 rfl rfl wt_1144 wt_1146 ws_13 hp hA hr rfl).thr (fun _ => True.intro))⟩
theorem ok_154_4 : BkOK mi i_154 (bpf P_154) 4 (B_154.getD 4 bk0) := ⟨54, ⟨1, s_aload_n dX6_begins_43 rfl, ⟨1, s_iconst dX6_begins_44 rfl, ⟨3, s_put (C := RX6) (T := TX6) (N := 30) tyX6 tyX6_ok nmX6 dX6_begins_45 rfl (by decide) rfl (tyX6_ok 10 (by decide)) wt_1167 uw_X6, ⟨1, s_aload_n dX6_begins_48 rfl, ⟨1, s_iconst dX6_begins_49 rfl, ⟨1, s_iconst dX6_begins_50 rfl, ⟨1, s_iconst dX6_begins_51 rfl, ⟨1, s_iconst dX6_begins_52 rfl, ⟨1, s_iconst dX6_begins_53 rfl, rfl⟩⟩⟩⟩⟩⟩⟩⟩⟩, t_cv rfl mi_152 mok_152 rfl (fun _ => ⟨rfl, by decide +kernel⟩) (fun hs' e => by cases e; intro E n b h; cases h) (fun q fs As rest h hp hA hr => (call_V (i := i_154) (j := i_152) (C := RX6) (T := TX6) (N := 30) dX6_begins_54 mok_152 rfl ⟨by decide, by decide⟩ np_152 rfl rfl wt_1144 wt_1146 ws_13 hp hA hr rfl).thr (fun _ => True.intro))⟩
theorem ok_154_5 : BkOK mi i_154 (bpf P_154) 5 (B_154.getD 5 bk0) := ⟨64, ⟨1, s_aload_n dX6_begins_57 rfl, ⟨1, s_iconst dX6_begins_58 rfl, ⟨1, s_iconst dX6_begins_59 rfl, ⟨1, s_iconst dX6_begins_60 rfl, ⟨1, s_iconst dX6_begins_61 rfl, ⟨2, s_bipush dX6_begins_62 rfl, rfl⟩⟩⟩⟩⟩⟩, t_cv rfl mi_153 mok_153 rfl (fun _ => ⟨rfl, by decide +kernel⟩) (fun hs' e => by cases e; intro E n b h; cases h) (fun q fs As rest h hp hA hr => (call_V (i := i_154) (j := i_153) (C := RX6) (T := TX6) (N := 30) dX6_begins_64 mok_153 rfl ⟨by decide, by decide⟩ np_153 rfl rfl wt_1148 wt_1150 ws_14 hp hA hr rfl).thr (fun _ => True.intro))⟩
theorem ok_154_6 : BkOK mi i_154 (bpf P_154) 6 (B_154.getD 6 bk0) := ⟨75, ⟨1, s_aload_n dX6_begins_67 rfl, ⟨1, s_iconst dX6_begins_68 rfl, ⟨1, s_iconst dX6_begins_69 rfl, ⟨1, s_iconst dX6_begins_70 rfl, ⟨2, s_bipush dX6_begins_71 rfl, ⟨2, s_bipush dX6_begins_73 rfl, rfl⟩⟩⟩⟩⟩⟩, t_cv rfl mi_153 mok_153 rfl (fun _ => ⟨rfl, by decide +kernel⟩) (fun hs' e => by cases e; intro E n b h; cases h) (fun q fs As rest h hp hA hr => (call_V (i := i_154) (j := i_153) (C := RX6) (T := TX6) (N := 30) dX6_begins_75 mok_153 rfl ⟨by decide, by decide⟩ np_153 rfl rfl wt_1148 wt_1150 ws_14 hp hA hr rfl).thr (fun _ => True.intro))⟩
theorem ok_154_7 : BkOK mi i_154 (bpf P_154) 7 (B_154.getD 7 bk0) := ⟨86, ⟨1, s_aload_n dX6_begins_78 rfl, ⟨1, s_iconst dX6_begins_79 rfl, ⟨1, s_iconst dX6_begins_80 rfl, ⟨1, s_iconst dX6_begins_81 rfl, ⟨2, s_bipush dX6_begins_82 rfl, ⟨2, s_bipush dX6_begins_84 rfl, rfl⟩⟩⟩⟩⟩⟩, t_cv rfl mi_153 mok_153 rfl (fun _ => ⟨rfl, by decide +kernel⟩) (fun hs' e => by cases e; intro E n b h; cases h) (fun q fs As rest h hp hA hr => (call_V (i := i_154) (j := i_153) (C := RX6) (T := TX6) (N := 30) dX6_begins_86 mok_153 rfl ⟨by decide, by decide⟩ np_153 rfl rfl wt_1148 wt_1150 ws_14 hp hA hr rfl).thr (fun _ => True.intro))⟩
theorem ok_154_8 : BkOK mi i_154 (bpf P_154) 8 (B_154.getD 8 bk0) := ⟨98, ⟨1, s_aload_n dX6_begins_89 rfl, ⟨1, s_iconst dX6_begins_90 rfl, ⟨1, s_iconst dX6_begins_91 rfl, ⟨2, s_bipush dX6_begins_92 rfl, ⟨2, s_bipush dX6_begins_94 rfl, ⟨2, s_bipush dX6_begins_96 rfl, rfl⟩⟩⟩⟩⟩⟩, t_cv rfl mi_153 mok_153 rfl (fun _ => ⟨rfl, by decide +kernel⟩) (fun hs' e => by cases e; intro E n b h; cases h) (fun q fs As rest h hp hA hr => (call_V (i := i_154) (j := i_153) (C := RX6) (T := TX6) (N := 30) dX6_begins_98 mok_153 rfl ⟨by decide, by decide⟩ np_153 rfl rfl wt_1148 wt_1150 ws_14 hp hA hr rfl).thr (fun _ => True.intro))⟩
theorem ok_154_9 : BkOK mi i_154 (bpf P_154) 9 (B_154.getD 9 bk0) := ⟨107, ⟨1, s_aload_n dX6_begins_101 rfl, ⟨1, s_iconst dX6_begins_102 rfl, ⟨1, s_iconst dX6_begins_103 rfl, ⟨1, s_iconst dX6_begins_104 rfl, ⟨1, s_iconst dX6_begins_105 rfl, ⟨1, s_iconst dX6_begins_106 rfl, rfl⟩⟩⟩⟩⟩⟩, t_cv rfl mi_153 mok_153 rfl (fun _ => ⟨rfl, by decide +kernel⟩) (fun hs' e => by cases e; intro E n b h; cases h) (fun q fs As rest h hp hA hr => (call_V (i := i_154) (j := i_153) (C := RX6) (T := TX6) (N := 30) dX6_begins_107 mok_153 rfl ⟨by decide, by decide⟩ np_153 rfl rfl wt_1148 wt_1150 ws_14 hp hA hr rfl).thr (fun _ => True.intro))⟩
theorem ok_154_10 : BkOK mi i_154 (bpf P_154) 10 (B_154.getD 10 bk0) := ⟨117, ⟨1, s_aload_n dX6_begins_110 rfl, ⟨1, s_iconst dX6_begins_111 rfl, ⟨1, s_iconst dX6_begins_112 rfl, ⟨1, s_iconst dX6_begins_113 rfl, ⟨1, s_iconst dX6_begins_114 rfl, ⟨2, s_bipush dX6_begins_115 rfl, rfl⟩⟩⟩⟩⟩⟩, t_cv rfl mi_153 mok_153 rfl (fun _ => ⟨rfl, by decide +kernel⟩) (fun hs' e => by cases e; intro E n b h; cases h) (fun q fs As rest h hp hA hr => (call_V (i := i_154) (j := i_153) (C := RX6) (T := TX6) (N := 30) dX6_begins_117 mok_153 rfl ⟨by decide, by decide⟩ np_153 rfl rfl wt_1148 wt_1150 ws_14 hp hA hr rfl).thr (fun _ => True.intro))⟩
theorem ok_154_11 : BkOK mi i_154 (bpf P_154) 11 (B_154.getD 11 bk0) := ⟨128, ⟨1, s_aload_n dX6_begins_120 rfl, ⟨1, s_iconst dX6_begins_121 rfl, ⟨1, s_iconst dX6_begins_122 rfl, ⟨1, s_iconst dX6_begins_123 rfl, ⟨2, s_bipush dX6_begins_124 rfl, ⟨2, s_bipush dX6_begins_126 rfl, rfl⟩⟩⟩⟩⟩⟩, t_cv rfl mi_153 mok_153 rfl (fun _ => ⟨rfl, by decide +kernel⟩) (fun hs' e => by cases e; intro E n b h; cases h) (fun q fs As rest h hp hA hr => (call_V (i := i_154) (j := i_153) (C := RX6) (T := TX6) (N := 30) dX6_begins_128 mok_153 rfl ⟨by decide, by decide⟩ np_153 rfl rfl wt_1148 wt_1150 ws_14 hp hA hr rfl).thr (fun _ => True.intro))⟩
theorem ok_154_12 : BkOK mi i_154 (bpf P_154) 12 (B_154.getD 12 bk0) := ⟨137, ⟨1, s_aload_n dX6_begins_131 rfl, ⟨1, s_iconst dX6_begins_132 rfl, ⟨1, s_iconst dX6_begins_133 rfl, ⟨1, s_iconst dX6_begins_134 rfl, ⟨1, s_iconst dX6_begins_135 rfl, ⟨1, s_iconst dX6_begins_136 rfl, rfl⟩⟩⟩⟩⟩⟩, t_cv rfl mi_153 mok_153 rfl (fun _ => ⟨rfl, by decide +kernel⟩) (fun hs' e => by cases e; intro E n b h; cases h) (fun q fs As rest h hp hA hr => (call_V (i := i_154) (j := i_153) (C := RX6) (T := TX6) (N := 30) dX6_begins_137 mok_153 rfl ⟨by decide, by decide⟩ np_153 rfl rfl wt_1148 wt_1150 ws_14 hp hA hr rfl).thr (fun _ => True.intro))⟩
theorem ok_154_13 : BkOK mi i_154 (bpf P_154) 13 (B_154.getD 13 bk0) := ⟨147, ⟨1, s_aload_n dX6_begins_140 rfl, ⟨1, s_iconst dX6_begins_141 rfl, ⟨1, s_iconst dX6_begins_142 rfl, ⟨1, s_iconst dX6_begins_143 rfl, ⟨1, s_iconst dX6_begins_144 rfl, ⟨2, s_bipush dX6_begins_145 rfl, rfl⟩⟩⟩⟩⟩⟩, t_cv rfl mi_153 mok_153 rfl (fun _ => ⟨rfl, by decide +kernel⟩) (fun hs' e => by cases e; intro E n b h; cases h) (fun q fs As rest h hp hA hr => (call_V (i := i_154) (j := i_153) (C := RX6) (T := TX6) (N := 30) dX6_begins_147 mok_153 rfl ⟨by decide, by decide⟩ np_153 rfl rfl wt_1148 wt_1150 ws_14 hp hA hr rfl).thr (fun _ => True.intro))⟩
theorem ok_154_14 : BkOK mi i_154 (bpf P_154) 14 (B_154.getD 14 bk0) := ⟨156, ⟨1, s_aload_n dX6_begins_150 rfl, ⟨1, s_iconst dX6_begins_151 rfl, ⟨1, s_iconst dX6_begins_152 rfl, ⟨1, s_iconst dX6_begins_153 rfl, ⟨1, s_iconst dX6_begins_154 rfl, ⟨1, s_iconst dX6_begins_155 rfl, rfl⟩⟩⟩⟩⟩⟩, t_cv rfl mi_153 mok_153 rfl (fun _ => ⟨rfl, by decide +kernel⟩) (fun hs' e => by cases e; intro E n b h; cases h) (fun q fs As rest h hp hA hr => (call_V (i := i_154) (j := i_153) (C := RX6) (T := TX6) (N := 30) dX6_begins_156 mok_153 rfl ⟨by decide, by decide⟩ np_153 rfl rfl wt_1148 wt_1150 ws_14 hp hA hr rfl).thr (fun _ => True.intro))⟩
theorem ok_154_15 : BkOK mi i_154 (bpf P_154) 15 (B_154.getD 15 bk0) := ⟨159, rfl, t_retV dX6_begins_159 rfl⟩
theorem ok_154 : ∀ b, BkOK mi i_154 (bpf P_154) b (B_154.getD b bk0)
  | 0 => ok_154_0
  | 1 => ok_154_1
  | 2 => ok_154_2
  | 3 => ok_154_3
  | 4 => ok_154_4
  | 5 => ok_154_5
  | 6 => ok_154_6
  | 7 => ok_154_7
  | 8 => ok_154_8
  | 9 => ok_154_9
  | 10 => ok_154_10
  | 11 => ok_154_11
  | 12 => ok_154_12
  | 13 => ok_154_13
  | 14 => ok_154_14
  | 15 => ok_154_15
  | b + 16 => bk_none mi i_154 (bpf P_154) (b + 16)
theorem ok_155_0 : BkOK mi i_155 (bpf P_155) 0 (B_155.getD 0 bk0) := ⟨14, ⟨1, s_iload_n dX6_pairOf_0 rfl, ⟨1, s_iload_n dX6_pairOf_1 rfl, ⟨3, s_mmin dX6_pairOf_2 wt_1155x wt_293 wt_4 wt_294 ⟨by decide, by decide⟩, ⟨1, s_istore_n dX6_pairOf_5 rfl (by decide), ⟨1, s_iload_n dX6_pairOf_6 rfl, ⟨1, s_iload_n dX6_pairOf_7 rfl, ⟨3, s_mmax dX6_pairOf_8 wt_1156x wt_43 wt_4 wt_44 ⟨by decide, by decide⟩, ⟨1, s_istore_n dX6_pairOf_11 rfl (by decide), ⟨1, s_iload_n dX6_pairOf_12 rfl, ⟨1, s_iconst dX6_pairOf_13 rfl, rfl⟩⟩⟩⟩⟩⟩⟩⟩⟩⟩, t_nei dX6_pairOf_14 (by decide) rfl⟩
theorem ok_155_1 : BkOK mi i_155 (bpf P_155) 1 (B_155.getD 1 bk0) := ⟨18, ⟨1, s_iconst dX6_pairOf_17 rfl, rfl⟩, t_go dX6_pairOf_18 (by decide)⟩
theorem ok_155_2 : BkOK mi i_155 (bpf P_155) 2 (B_155.getD 2 bk0) := ⟨23, ⟨1, s_iload_n dX6_pairOf_21 rfl, ⟨1, s_iconst dX6_pairOf_22 rfl, rfl⟩⟩, t_nei dX6_pairOf_23 (by decide) rfl⟩
theorem ok_155_3 : BkOK mi i_155 (bpf P_155) 3 (B_155.getD 3 bk0) := ⟨27, ⟨1, s_iconst dX6_pairOf_26 rfl, rfl⟩, t_go dX6_pairOf_27 (by decide)⟩
theorem ok_155_4 : BkOK mi i_155 (bpf P_155) 4 (B_155.getD 4 bk0) := ⟨32, ⟨1, s_iload_n dX6_pairOf_30 rfl, ⟨1, s_iconst dX6_pairOf_31 rfl, rfl⟩⟩, t_nei dX6_pairOf_32 (by decide) rfl⟩
theorem ok_155_5 : BkOK mi i_155 (bpf P_155) 5 (B_155.getD 5 bk0) := ⟨37, ⟨2, s_bipush dX6_pairOf_35 rfl, rfl⟩, t_go dX6_pairOf_37 (by decide)⟩
theorem ok_155_6 : BkOK mi i_155 (bpf P_155) 6 (B_155.getD 6 bk0) := ⟨42, ⟨2, s_bipush dX6_pairOf_40 rfl, rfl⟩, t_fall rfl⟩
theorem ok_155_7 : BkOK mi i_155 (bpf P_155) 7 (B_155.getD 7 bk0) := ⟨57, ⟨2, s_istore dX6_pairOf_42 (by decide), ⟨2, s_bipush dX6_pairOf_44 rfl, ⟨1, s_iconst dX6_pairOf_46 rfl, ⟨2, s_iload dX6_pairOf_47, ⟨1, s_iload_n dX6_pairOf_49 rfl, ⟨1, s_iadd dX6_pairOf_50, ⟨1, s_iload_n dX6_pairOf_51 rfl, ⟨1, s_isub dX6_pairOf_52, ⟨1, s_iconst dX6_pairOf_53 rfl, ⟨1, s_isub dX6_pairOf_54, ⟨1, s_imul dX6_pairOf_55, ⟨1, s_iadd dX6_pairOf_56, rfl⟩⟩⟩⟩⟩⟩⟩⟩⟩⟩⟩⟩, t_ret dX6_pairOf_57 rfl⟩
theorem ok_155 : ∀ b, BkOK mi i_155 (bpf P_155) b (B_155.getD b bk0)
  | 0 => ok_155_0
  | 1 => ok_155_1
  | 2 => ok_155_2
  | 3 => ok_155_3
  | 4 => ok_155_4
  | 5 => ok_155_5
  | 6 => ok_155_6
  | 7 => ok_155_7
  | b + 8 => bk_none mi i_155 (bpf P_155) (b + 8)
theorem ok_156_0 : BkOK mi i_156 (bpf P_156) 0 (B_156.getD 0 bk0) := ⟨4, ⟨1, s_aload_n dX6_thrown_0 rfl, ⟨3, s_get (C := RX6) (T := TX6) (N := 30) dX6_thrown_1 rfl (by decide) wt_1164 uw_X6, rfl⟩⟩, t_ret dX6_thrown_4 rfl⟩
theorem ok_156 : ∀ b, BkOK mi i_156 (bpf P_156) b (B_156.getD b bk0)
  | 0 => ok_156_0
  | b + 1 => bk_none mi i_156 (bpf P_156) (b + 1)
theorem ok_157_0 : BkOK mi i_157 (bpf P_157) 0 (B_157.getD 0 bk0) := ⟨2, ⟨1, s_iload_n dX6_isIn_0 rfl, ⟨1, s_iload_n dX6_isIn_1 rfl, rfl⟩⟩, t_lt dX6_isIn_2 (by decide) rfl⟩
theorem ok_157_1 : BkOK mi i_157 (bpf P_157) 1 (B_157.getD 1 bk0) := ⟨7, ⟨1, s_iload_n dX6_isIn_5 rfl, ⟨1, s_iload_n dX6_isIn_6 rfl, rfl⟩⟩, t_gt dX6_isIn_7 (by decide) rfl⟩
theorem ok_157_2 : BkOK mi i_157 (bpf P_157) 2 (B_157.getD 2 bk0) := ⟨11, ⟨1, s_iconst dX6_isIn_10 rfl, rfl⟩, t_go dX6_isIn_11 (by decide)⟩
theorem ok_157_3 : BkOK mi i_157 (bpf P_157) 3 (B_157.getD 3 bk0) := ⟨15, ⟨1, s_iconst dX6_isIn_14 rfl, rfl⟩, t_fall rfl⟩
theorem ok_157_4 : BkOK mi i_157 (bpf P_157) 4 (B_157.getD 4 bk0) := ⟨15, rfl, t_retZ dX6_isIn_15 rfl⟩
theorem ok_157 : ∀ b, BkOK mi i_157 (bpf P_157) b (B_157.getD b bk0)
  | 0 => ok_157_0
  | 1 => ok_157_1
  | 2 => ok_157_2
  | 3 => ok_157_3
  | 4 => ok_157_4
  | b + 5 => bk_none mi i_157 (bpf P_157) (b + 5)
theorem ok_158_0 : BkOK mi i_158 (bpf P_158) 0 (B_158.getD 0 bk0) := ⟨3, ⟨1, s_iconst dX6_copies_0 rfl, ⟨2, s_istore dX6_copies_1 (by decide), rfl⟩⟩, t_fall rfl⟩
theorem ok_158_1 : BkOK mi i_158 (bpf P_158) 1 (B_158.getD 1 bk0) := ⟨8, ⟨2, s_iload dX6_copies_3, ⟨3, s_sipush dX6_copies_5 rfl, rfl⟩⟩, t_ge dX6_copies_8 (by decide) rfl⟩
theorem ok_158_2 : BkOK mi i_158 (bpf P_158) 2 (B_158.getD 2 bk0) := ⟨26, ⟨1, s_aload_n dX6_copies_11 rfl, ⟨1, s_iload_n dX6_copies_12 rfl, ⟨2, s_iload dX6_copies_13, ⟨1, s_iadd dX6_copies_15, ⟨1, s_aload_n dX6_copies_16 rfl, ⟨1, s_iload_n dX6_copies_17 rfl, ⟨2, s_iload dX6_copies_18, ⟨1, s_iadd dX6_copies_20, ⟨1, s_iald dX6_copies_21, ⟨1, s_iast dX6_copies_22, ⟨3, s_iinc dX6_copies_23 rfl (by decide), rfl⟩⟩⟩⟩⟩⟩⟩⟩⟩⟩⟩, t_go dX6_copies_26 (by decide)⟩
theorem ok_158_3 : BkOK mi i_158 (bpf P_158) 3 (B_158.getD 3 bk0) := ⟨29, rfl, t_retV dX6_copies_29 rfl⟩
theorem ok_158 : ∀ b, BkOK mi i_158 (bpf P_158) b (B_158.getD b bk0)
  | 0 => ok_158_0
  | 1 => ok_158_1
  | 2 => ok_158_2
  | 3 => ok_158_3
  | b + 4 => bk_none mi i_158 (bpf P_158) (b + 4)
theorem ok_159_0 : BkOK mi i_159 (bpf P_159) 0 (B_159.getD 0 bk0) := ⟨6, ⟨1, s_aload_n dX6_keeps_0 rfl, ⟨3, s_get (C := RX6) (T := TX6) (N := 30) dX6_keeps_1 rfl (by decide) wt_1163 uw_X6, ⟨2, s_bipush dX6_keeps_4 rfl, rfl⟩⟩⟩, t_nei dX6_keeps_6 (by decide) rfl⟩
theorem ok_159_1 : BkOK mi i_159 (bpf P_159) 1 (B_159.getD 1 bk0) := ⟨11, ⟨1, s_iconst dX6_keeps_9 rfl, ⟨1, s_istore_n dX6_keeps_10 rfl (by decide), rfl⟩⟩, t_fall rfl⟩
theorem ok_159_2 : BkOK mi i_159 (bpf P_159) 2 (B_159.getD 2 bk0) := ⟨15, ⟨1, s_iload_n dX6_keeps_11 rfl, ⟨3, s_sipush dX6_keeps_12 rfl, rfl⟩⟩, t_ge dX6_keeps_15 (by decide) rfl⟩
theorem ok_159_3 : BkOK mi i_159 (bpf P_159) 3 (B_159.getD 3 bk0) := ⟨37, ⟨1, s_aload_n dX6_keeps_18 rfl, ⟨3, s_get (C := RX6) (T := TX6) (N := 30) dX6_keeps_19 rfl (by decide) wt_1160 uw_X6, ⟨1, s_iload_n dX6_keeps_22 rfl, ⟨1, s_aload_n dX6_keeps_23 rfl, ⟨3, s_get (C := RX6) (T := TX6) (N := 30) dX6_keeps_24 rfl (by decide) wt_1160 uw_X6, ⟨1, s_iload_n dX6_keeps_27 rfl, ⟨3, s_sipush dX6_keeps_28 rfl, ⟨1, s_iadd dX6_keeps_31, ⟨1, s_iald dX6_keeps_32, ⟨1, s_iast dX6_keeps_33, ⟨3, s_iinc dX6_keeps_34 rfl (by decide), rfl⟩⟩⟩⟩⟩⟩⟩⟩⟩⟩⟩, t_go dX6_keeps_37 (by decide)⟩
theorem ok_159_4 : BkOK mi i_159 (bpf P_159) 4 (B_159.getD 4 bk0) := ⟨50, ⟨1, s_aload_n dX6_keeps_40 rfl, ⟨1, s_dup dX6_keeps_41, ⟨3, s_get (C := RX6) (T := TX6) (N := 30) dX6_keeps_42 rfl (by decide) wt_1163 uw_X6, ⟨1, s_iconst dX6_keeps_45 rfl, ⟨1, s_isub dX6_keeps_46, ⟨3, s_put (C := RX6) (T := TX6) (N := 30) tyX6 tyX6_ok nmX6 dX6_keeps_47 rfl (by decide) rfl (tyX6_ok 6 (by decide)) wt_1163 uw_X6, rfl⟩⟩⟩⟩⟩⟩, t_fall rfl⟩
theorem ok_159_5 : BkOK mi i_159 (bpf P_159) 5 (B_159.getD 5 bk0) := ⟨64, ⟨1, s_aload_n dX6_keeps_50 rfl, ⟨3, s_get (C := RX6) (T := TX6) (N := 30) dX6_keeps_51 rfl (by decide) wt_1160 uw_X6, ⟨3, s_sipush dX6_keeps_54 rfl, ⟨1, s_aload_n dX6_keeps_57 rfl, ⟨3, s_get (C := RX6) (T := TX6) (N := 30) dX6_keeps_58 rfl (by decide) wt_1163 uw_X6, ⟨1, s_imul dX6_keeps_61, ⟨1, s_aload_n dX6_keeps_62 rfl, ⟨1, s_iconst dX6_keeps_63 rfl, rfl⟩⟩⟩⟩⟩⟩⟩⟩, t_cs rfl mi_158 mok_158 rfl (fun As rest h hA hr => call_S dX6_keeps_64 mok_158 rfl ⟨by decide, by decide⟩ np_158 wt_1257 wt_1258 hA hr)⟩
theorem ok_159_6 : BkOK mi i_159 (bpf P_159) 6 (B_159.getD 6 bk0) := ⟨77, ⟨1, s_aload_n dX6_keeps_67 rfl, ⟨1, s_dup dX6_keeps_68, ⟨3, s_get (C := RX6) (T := TX6) (N := 30) dX6_keeps_69 rfl (by decide) wt_1163 uw_X6, ⟨1, s_iconst dX6_keeps_72 rfl, ⟨1, s_iadd dX6_keeps_73, ⟨3, s_put (C := RX6) (T := TX6) (N := 30) tyX6 tyX6_ok nmX6 dX6_keeps_74 rfl (by decide) rfl (tyX6_ok 6 (by decide)) wt_1163 uw_X6, rfl⟩⟩⟩⟩⟩⟩, t_retV dX6_keeps_77 rfl⟩
theorem ok_159 : ∀ b, BkOK mi i_159 (bpf P_159) b (B_159.getD b bk0)
  | 0 => ok_159_0
  | 1 => ok_159_1
  | 2 => ok_159_2
  | 3 => ok_159_3
  | 4 => ok_159_4
  | 5 => ok_159_5
  | 6 => ok_159_6
  | b + 7 => bk_none mi i_159 (bpf P_159) (b + 7)
theorem ok_160_0 : BkOK mi i_160 (bpf P_160) 0 (B_160.getD 0 bk0) := ⟨5, ⟨1, s_aload_n dX6_undo_0 rfl, ⟨1, s_aload_n dX6_undo_1 rfl, ⟨3, s_get (C := RX6) (T := TX6) (N := 30) dX6_undo_2 rfl (by decide) wt_1163 uw_X6, rfl⟩⟩⟩, t_ne0 dX6_undo_5 (by decide) rfl⟩
theorem ok_160_1 : BkOK mi i_160 (bpf P_160) 1 (B_160.getD 1 bk0) := ⟨9, ⟨1, s_iconst dX6_undo_8 rfl, rfl⟩, t_go dX6_undo_9 (by decide)⟩
theorem ok_160_2 : BkOK mi i_160 (bpf P_160) 2 (B_160.getD 2 bk0) := ⟨13, ⟨1, s_iconst dX6_undo_12 rfl, rfl⟩, t_fall rfl⟩
theorem ok_160_3 : BkOK mi i_160 (bpf P_160) 3 (B_160.getD 3 bk0) := ⟨20, ⟨3, s_put (C := RX6) (T := TX6) (N := 30) tyX6 tyX6_ok nmX6 dX6_undo_13 rfl (by decide) rfl (tyX6_ok 7 (by decide)) wt_1164 uw_X6, ⟨1, s_aload_n dX6_undo_16 rfl, ⟨3, s_get (C := RX6) (T := TX6) (N := 30) dX6_undo_17 rfl (by decide) wt_1164 uw_X6, rfl⟩⟩⟩, t_le0 dX6_undo_20 (by decide) rfl⟩
theorem ok_160_4 : BkOK mi i_160 (bpf P_160) 4 (B_160.getD 4 bk0) := ⟨24, ⟨1, s_iconst dX6_undo_23 rfl, rfl⟩, t_ret dX6_undo_24 rfl⟩
theorem ok_160_5 : BkOK mi i_160 (bpf P_160) 5 (B_160.getD 5 bk0) := ⟨52, ⟨1, s_aload_n dX6_undo_25 rfl, ⟨1, s_dup dX6_undo_26, ⟨3, s_get (C := RX6) (T := TX6) (N := 30) dX6_undo_27 rfl (by decide) wt_1163 uw_X6, ⟨1, s_iconst dX6_undo_30 rfl, ⟨1, s_isub dX6_undo_31, ⟨3, s_put (C := RX6) (T := TX6) (N := 30) tyX6 tyX6_ok nmX6 dX6_undo_32 rfl (by decide) rfl (tyX6_ok 6 (by decide)) wt_1163 uw_X6, ⟨1, s_aload_n dX6_undo_35 rfl, ⟨3, s_get (C := RX6) (T := TX6) (N := 30) dX6_undo_36 rfl (by decide) wt_1157 uw_X6, ⟨1, s_iconst dX6_undo_39 rfl, ⟨1, s_aload_n dX6_undo_40 rfl, ⟨3, s_get (C := RX6) (T := TX6) (N := 30) dX6_undo_41 rfl (by decide) wt_1160 uw_X6, ⟨3, s_sipush dX6_undo_44 rfl, ⟨1, s_aload_n dX6_undo_47 rfl, ⟨3, s_get (C := RX6) (T := TX6) (N := 30) dX6_undo_48 rfl (by decide) wt_1163 uw_X6, ⟨1, s_imul dX6_undo_51, rfl⟩⟩⟩⟩⟩⟩⟩⟩⟩⟩⟩⟩⟩⟩⟩, t_cs rfl mi_158 mok_158 rfl (fun As rest h hA hr => call_S dX6_undo_52 mok_158 rfl ⟨by decide, by decide⟩ np_158 wt_1257 wt_1258 hA hr)⟩
theorem ok_160_6 : BkOK mi i_160 (bpf P_160) 6 (B_160.getD 6 bk0) := ⟨59, ⟨1, s_aload_n dX6_undo_55 rfl, ⟨3, s_get (C := RX6) (T := TX6) (N := 30) dX6_undo_56 rfl (by decide) wt_1163 uw_X6, rfl⟩⟩, t_ret dX6_undo_59 rfl⟩
theorem ok_160 : ∀ b, BkOK mi i_160 (bpf P_160) b (B_160.getD b bk0)
  | 0 => ok_160_0
  | 1 => ok_160_1
  | 2 => ok_160_2
  | 3 => ok_160_3
  | 4 => ok_160_4
  | 5 => ok_160_5
  | 6 => ok_160_6
  | b + 7 => bk_none mi i_160 (bpf P_160) (b + 7)
theorem ok_161_0 : BkOK mi i_161 (bpf P_161) 0 (B_161.getD 0 bk0) := ⟨4, ⟨1, s_aload_n dX6_save_0 rfl, ⟨1, s_iload_n dX6_save_1 rfl, ⟨1, s_iconst dX6_save_2 rfl, ⟨1, s_iconst dX6_save_3 rfl, rfl⟩⟩⟩⟩, t_cs rfl mi_157 mok_157 rfl (fun As rest h hA hr => call_S dX6_save_4 mok_157 rfl ⟨by decide, by decide⟩ np_157 wt_1264 wt_1265 hA hr)⟩
theorem ok_161_1 : BkOK mi i_161 (bpf P_161) 1 (B_161.getD 1 bk0) := ⟨7, rfl, t_eq0 dX6_save_7 (by decide) rfl⟩
theorem ok_161_2 : BkOK mi i_161 (bpf P_161) 2 (B_161.getD 2 bk0) := ⟨11, ⟨1, s_iconst dX6_save_10 rfl, rfl⟩, t_go dX6_save_11 (by decide)⟩
theorem ok_161_3 : BkOK mi i_161 (bpf P_161) 3 (B_161.getD 3 bk0) := ⟨15, ⟨1, s_iconst dX6_save_14 rfl, rfl⟩, t_fall rfl⟩
theorem ok_161_4 : BkOK mi i_161 (bpf P_161) 4 (B_161.getD 4 bk0) := ⟨22, ⟨3, s_put (C := RX6) (T := TX6) (N := 30) tyX6 tyX6_ok nmX6 dX6_save_15 rfl (by decide) rfl (tyX6_ok 7 (by decide)) wt_1164 uw_X6, ⟨1, s_aload_n dX6_save_18 rfl, ⟨3, s_get (C := RX6) (T := TX6) (N := 30) dX6_save_19 rfl (by decide) wt_1164 uw_X6, rfl⟩⟩⟩, t_le0 dX6_save_22 (by decide) rfl⟩
theorem ok_161_5 : BkOK mi i_161 (bpf P_161) 5 (B_161.getD 5 bk0) := ⟨25, rfl, t_retV dX6_save_25 rfl⟩
theorem ok_161_6 : BkOK mi i_161 (bpf P_161) 6 (B_161.getD 6 bk0) := ⟨40, ⟨1, s_aload_n dX6_save_26 rfl, ⟨3, s_get (C := RX6) (T := TX6) (N := 30) dX6_save_27 rfl (by decide) wt_1161 uw_X6, ⟨3, s_sipush dX6_save_30 rfl, ⟨1, s_iload_n dX6_save_33 rfl, ⟨1, s_imul dX6_save_34, ⟨1, s_aload_n dX6_save_35 rfl, ⟨3, s_get (C := RX6) (T := TX6) (N := 30) dX6_save_36 rfl (by decide) wt_1157 uw_X6, ⟨1, s_iconst dX6_save_39 rfl, rfl⟩⟩⟩⟩⟩⟩⟩⟩, t_cs rfl mi_158 mok_158 rfl (fun As rest h hA hr => call_S dX6_save_40 mok_158 rfl ⟨by decide, by decide⟩ np_158 wt_1257 wt_1258 hA hr)⟩
theorem ok_161_7 : BkOK mi i_161 (bpf P_161) 7 (B_161.getD 7 bk0) := ⟨50, ⟨1, s_aload_n dX6_save_43 rfl, ⟨3, s_get (C := RX6) (T := TX6) (N := 30) dX6_save_44 rfl (by decide) wt_1162 uw_X6, ⟨1, s_iload_n dX6_save_47 rfl, ⟨1, s_iconst dX6_save_48 rfl, ⟨1, s_zast dX6_save_49, rfl⟩⟩⟩⟩⟩, t_retV dX6_save_50 rfl⟩
theorem ok_161 : ∀ b, BkOK mi i_161 (bpf P_161) b (B_161.getD b bk0)
  | 0 => ok_161_0
  | 1 => ok_161_1
  | 2 => ok_161_2
  | 3 => ok_161_3
  | 4 => ok_161_4
  | 5 => ok_161_5
  | 6 => ok_161_6
  | 7 => ok_161_7
  | b + 8 => bk_none mi i_161 (bpf P_161) (b + 8)
theorem ok_162_0 : BkOK mi i_162 (bpf P_162) 0 (B_162.getD 0 bk0) := ⟨4, ⟨1, s_aload_n dX6_restore_0 rfl, ⟨1, s_iload_n dX6_restore_1 rfl, ⟨1, s_iconst dX6_restore_2 rfl, ⟨1, s_iconst dX6_restore_3 rfl, rfl⟩⟩⟩⟩, t_cs rfl mi_157 mok_157 rfl (fun As rest h hA hr => call_S dX6_restore_4 mok_157 rfl ⟨by decide, by decide⟩ np_157 wt_1264 wt_1265 hA hr)⟩
theorem ok_162_1 : BkOK mi i_162 (bpf P_162) 1 (B_162.getD 1 bk0) := ⟨7, rfl, t_ne0 dX6_restore_7 (by decide) rfl⟩
theorem ok_162_2 : BkOK mi i_162 (bpf P_162) 2 (B_162.getD 2 bk0) := ⟨11, ⟨1, s_iconst dX6_restore_10 rfl, rfl⟩, t_go dX6_restore_11 (by decide)⟩
theorem ok_162_3 : BkOK mi i_162 (bpf P_162) 3 (B_162.getD 3 bk0) := ⟨20, ⟨1, s_aload_n dX6_restore_14 rfl, ⟨3, s_get (C := RX6) (T := TX6) (N := 30) dX6_restore_15 rfl (by decide) wt_1162 uw_X6, ⟨1, s_iload_n dX6_restore_18 rfl, ⟨1, s_zaload dX6_restore_19, rfl⟩⟩⟩⟩, t_eq0 dX6_restore_20 (by decide) rfl⟩
theorem ok_162_4 : BkOK mi i_162 (bpf P_162) 4 (B_162.getD 4 bk0) := ⟨24, ⟨1, s_iconst dX6_restore_23 rfl, rfl⟩, t_go dX6_restore_24 (by decide)⟩
theorem ok_162_5 : BkOK mi i_162 (bpf P_162) 5 (B_162.getD 5 bk0) := ⟨28, ⟨1, s_iconst dX6_restore_27 rfl, rfl⟩, t_fall rfl⟩
theorem ok_162_6 : BkOK mi i_162 (bpf P_162) 6 (B_162.getD 6 bk0) := ⟨35, ⟨3, s_put (C := RX6) (T := TX6) (N := 30) tyX6 tyX6_ok nmX6 dX6_restore_28 rfl (by decide) rfl (tyX6_ok 7 (by decide)) wt_1164 uw_X6, ⟨1, s_aload_n dX6_restore_31 rfl, ⟨3, s_get (C := RX6) (T := TX6) (N := 30) dX6_restore_32 rfl (by decide) wt_1164 uw_X6, rfl⟩⟩⟩, t_le0 dX6_restore_35 (by decide) rfl⟩
theorem ok_162_7 : BkOK mi i_162 (bpf P_162) 7 (B_162.getD 7 bk0) := ⟨39, ⟨1, s_iconst dX6_restore_38 rfl, rfl⟩, t_ret dX6_restore_39 rfl⟩
theorem ok_162_8 : BkOK mi i_162 (bpf P_162) 8 (B_162.getD 8 bk0) := ⟨45, ⟨1, s_aload_n dX6_restore_40 rfl, ⟨1, s_aload_n dX6_restore_41 rfl, ⟨3, s_get (C := RX6) (T := TX6) (N := 30) dX6_restore_42 rfl (by decide) wt_1157 uw_X6, rfl⟩⟩⟩, t_cv rfl mi_159 mok_159 rfl (fun _ => ⟨rfl, by decide +kernel⟩) (fun hs' e => by cases e; intro E n b h; cases h) (fun q fs As rest h hp hA hr => (call_V (i := i_162) (j := i_159) (C := RX6) (T := TX6) (N := 30) dX6_restore_45 mok_159 rfl ⟨by decide, by decide⟩ np_159 rfl rfl wt_1271 wt_1273 ws_15 hp hA hr rfl).thr (fun _ => True.intro))⟩
theorem ok_162_9 : BkOK mi i_162 (bpf P_162) 9 (B_162.getD 9 bk0) := ⟨62, ⟨1, s_aload_n dX6_restore_48 rfl, ⟨3, s_get (C := RX6) (T := TX6) (N := 30) dX6_restore_49 rfl (by decide) wt_1157 uw_X6, ⟨1, s_iconst dX6_restore_52 rfl, ⟨1, s_aload_n dX6_restore_53 rfl, ⟨3, s_get (C := RX6) (T := TX6) (N := 30) dX6_restore_54 rfl (by decide) wt_1161 uw_X6, ⟨3, s_sipush dX6_restore_57 rfl, ⟨1, s_iload_n dX6_restore_60 rfl, ⟨1, s_imul dX6_restore_61, rfl⟩⟩⟩⟩⟩⟩⟩⟩, t_cs rfl mi_158 mok_158 rfl (fun As rest h hA hr => call_S dX6_restore_62 mok_158 rfl ⟨by decide, by decide⟩ np_158 wt_1257 wt_1258 hA hr)⟩
theorem ok_162_10 : BkOK mi i_162 (bpf P_162) 10 (B_162.getD 10 bk0) := ⟨66, ⟨1, s_aload_n dX6_restore_65 rfl, rfl⟩, t_cv rfl mi_182 mok_182 rfl (fun _ => ⟨rfl, by decide +kernel⟩) (fun hs' e => by cases e; intro E n b h; cases h) (fun q fs As rest h hp hA hr => (call_V (i := i_162) (j := i_182) (C := RX6) (T := TX6) (N := 30) dX6_restore_66 mok_182 rfl ⟨by decide, by decide⟩ np_182 rfl rfl wt_1275 wt_1277 ws_16 hp hA hr rfl).thr (fun _ => True.intro))⟩
theorem ok_162_11 : BkOK mi i_162 (bpf P_162) 11 (B_162.getD 11 bk0) := ⟨69, rfl, t_ret dX6_restore_69 rfl⟩
theorem ok_162 : ∀ b, BkOK mi i_162 (bpf P_162) b (B_162.getD b bk0)
  | 0 => ok_162_0
  | 1 => ok_162_1
  | 2 => ok_162_2
  | 3 => ok_162_3
  | 4 => ok_162_4
  | 5 => ok_162_5
  | 6 => ok_162_6
  | 7 => ok_162_7
  | 8 => ok_162_8
  | 9 => ok_162_9
  | 10 => ok_162_10
  | 11 => ok_162_11
  | b + 12 => bk_none mi i_162 (bpf P_162) (b + 12)
theorem ok_163_0 : BkOK mi i_163 (bpf P_163) 0 (B_163.getD 0 bk0) := ⟨2, ⟨1, s_iload_n dX6_byteOf_0 rfl, ⟨1, s_iconst dX6_byteOf_1 rfl, rfl⟩⟩, t_ge dX6_byteOf_2 (by decide) rfl⟩
theorem ok_163_1 : BkOK mi i_163 (bpf P_163) 1 (B_163.getD 1 bk0) := ⟨6, ⟨1, s_iload_n dX6_byteOf_5 rfl, rfl⟩, t_go dX6_byteOf_6 (by decide)⟩
theorem ok_163_2 : BkOK mi i_163 (bpf P_163) 2 (B_163.getD 2 bk0) := ⟨12, ⟨1, s_iload_n dX6_byteOf_9 rfl, ⟨2, s_bipush dX6_byteOf_10 rfl, rfl⟩⟩, t_ge dX6_byteOf_12 (by decide) rfl⟩
theorem ok_163_3 : BkOK mi i_163 (bpf P_163) 3 (B_163.getD 3 bk0) := ⟨16, ⟨1, s_iload_n dX6_byteOf_15 rfl, rfl⟩, t_go dX6_byteOf_16 (by decide)⟩
theorem ok_163_4 : BkOK mi i_163 (bpf P_163) 4 (B_163.getD 4 bk0) := ⟨22, ⟨1, s_iload_n dX6_byteOf_19 rfl, ⟨2, s_bipush dX6_byteOf_20 rfl, rfl⟩⟩, t_ge dX6_byteOf_22 (by decide) rfl⟩
theorem ok_163_5 : BkOK mi i_163 (bpf P_163) 5 (B_163.getD 5 bk0) := ⟨26, ⟨1, s_iload_n dX6_byteOf_25 rfl, rfl⟩, t_go dX6_byteOf_26 (by decide)⟩
theorem ok_163_6 : BkOK mi i_163 (bpf P_163) 6 (B_163.getD 6 bk0) := ⟨32, ⟨1, s_iload_n dX6_byteOf_29 rfl, ⟨2, s_bipush dX6_byteOf_30 rfl, rfl⟩⟩, t_ge dX6_byteOf_32 (by decide) rfl⟩
theorem ok_163_7 : BkOK mi i_163 (bpf P_163) 7 (B_163.getD 7 bk0) := ⟨37, ⟨2, s_iload dX6_byteOf_35, rfl⟩, t_go dX6_byteOf_37 (by decide)⟩
theorem ok_163_8 : BkOK mi i_163 (bpf P_163) 8 (B_163.getD 8 bk0) := ⟨42, ⟨2, s_iload dX6_byteOf_40, rfl⟩, t_fall rfl⟩
theorem ok_163_9 : BkOK mi i_163 (bpf P_163) 9 (B_163.getD 9 bk0) := ⟨60, ⟨2, s_istore dX6_byteOf_42 (by decide), ⟨2, s_iload dX6_byteOf_44, ⟨2, s_bipush dX6_byteOf_46 rfl, ⟨2, s_bipush dX6_byteOf_48 rfl, ⟨1, s_iload_n dX6_byteOf_50 rfl, ⟨1, s_iconst dX6_byteOf_51 rfl, ⟨1, s_irem dX6_byteOf_52, ⟨1, s_imul dX6_byteOf_53, ⟨1, s_isub dX6_byteOf_54, ⟨1, s_ishr dX6_byteOf_55, ⟨3, s_sipush dX6_byteOf_56 rfl, ⟨1, s_iand dX6_byteOf_59, rfl⟩⟩⟩⟩⟩⟩⟩⟩⟩⟩⟩⟩, t_ret dX6_byteOf_60 rfl⟩
theorem ok_163 : ∀ b, BkOK mi i_163 (bpf P_163) b (B_163.getD b bk0)
  | 0 => ok_163_0
  | 1 => ok_163_1
  | 2 => ok_163_2
  | 3 => ok_163_3
  | 4 => ok_163_4
  | 5 => ok_163_5
  | 6 => ok_163_6
  | 7 => ok_163_7
  | 8 => ok_163_8
  | 9 => ok_163_9
  | b + 10 => bk_none mi i_163 (bpf P_163) (b + 10)
theorem ok_164_0 : BkOK mi i_164 (bpf P_164) 0 (B_164.getD 0 bk0) := ⟨6, ⟨1, s_iconst dX6_append_0 rfl, ⟨2, s_istore dX6_append_1 (by decide), ⟨1, s_iconst dX6_append_3 rfl, ⟨2, s_istore dX6_append_4 (by decide), rfl⟩⟩⟩⟩, t_fall rfl⟩
theorem ok_164_1 : BkOK mi i_164 (bpf P_164) 1 (B_164.getD 1 bk0) := ⟨10, ⟨2, s_iload dX6_append_6, ⟨2, s_bipush dX6_append_8 rfl, rfl⟩⟩, t_ge dX6_append_10 (by decide) rfl⟩
theorem ok_164_2 : BkOK mi i_164 (bpf P_164) 2 (B_164.getD 2 bk0) := ⟨24, ⟨2, s_iload dX6_append_13, ⟨2, s_iload dX6_append_15, ⟨1, s_iload_n dX6_append_17 rfl, ⟨1, s_iload_n dX6_append_18 rfl, ⟨1, s_iload_n dX6_append_19 rfl, ⟨2, s_iload dX6_append_20, ⟨2, s_iload dX6_append_22, rfl⟩⟩⟩⟩⟩⟩⟩, t_cs rfl mi_163 mok_163 rfl (fun As rest h hA hr => call_S dX6_append_24 mok_163 rfl ⟨by decide, by decide⟩ np_163 wt_1283 wt_1284 hA hr)⟩
theorem ok_164_3 : BkOK mi i_164 (bpf P_164) 3 (B_164.getD 3 bk0) := ⟨27, rfl, t_ne0 dX6_append_27 (by decide) rfl⟩
theorem ok_164_4 : BkOK mi i_164 (bpf P_164) 4 (B_164.getD 4 bk0) := ⟨31, ⟨1, s_iconst dX6_append_30 rfl, rfl⟩, t_go dX6_append_31 (by decide)⟩
theorem ok_164_5 : BkOK mi i_164 (bpf P_164) 5 (B_164.getD 5 bk0) := ⟨35, ⟨1, s_iconst dX6_append_34 rfl, rfl⟩, t_fall rfl⟩
theorem ok_164_6 : BkOK mi i_164 (bpf P_164) 6 (B_164.getD 6 bk0) := ⟨41, ⟨1, s_iadd dX6_append_35, ⟨2, s_istore dX6_append_36 (by decide), ⟨3, s_iinc dX6_append_38 rfl (by decide), rfl⟩⟩⟩, t_go dX6_append_41 (by decide)⟩
theorem ok_164_7 : BkOK mi i_164 (bpf P_164) 7 (B_164.getD 7 bk0) := ⟨55, ⟨1, s_aload_n dX6_append_44 rfl, ⟨1, s_aload_n dX6_append_45 rfl, ⟨3, s_get (C := RX6) (T := TX6) (N := 30) dX6_append_46 rfl (by decide) wt_1166 uw_X6, ⟨2, s_iload dX6_append_49, ⟨1, s_iadd dX6_append_51, ⟨3, s_sipush dX6_append_52 rfl, rfl⟩⟩⟩⟩⟩⟩, t_le dX6_append_55 (by decide) rfl⟩
theorem ok_164_8 : BkOK mi i_164 (bpf P_164) 8 (B_164.getD 8 bk0) := ⟨59, ⟨1, s_iconst dX6_append_58 rfl, rfl⟩, t_go dX6_append_59 (by decide)⟩
theorem ok_164_9 : BkOK mi i_164 (bpf P_164) 9 (B_164.getD 9 bk0) := ⟨63, ⟨1, s_iconst dX6_append_62 rfl, rfl⟩, t_fall rfl⟩
theorem ok_164_10 : BkOK mi i_164 (bpf P_164) 10 (B_164.getD 10 bk0) := ⟨70, ⟨3, s_put (C := RX6) (T := TX6) (N := 30) tyX6 tyX6_ok nmX6 dX6_append_63 rfl (by decide) rfl (tyX6_ok 7 (by decide)) wt_1164 uw_X6, ⟨1, s_aload_n dX6_append_66 rfl, ⟨3, s_get (C := RX6) (T := TX6) (N := 30) dX6_append_67 rfl (by decide) wt_1164 uw_X6, rfl⟩⟩⟩, t_le0 dX6_append_70 (by decide) rfl⟩
theorem ok_164_11 : BkOK mi i_164 (bpf P_164) 11 (B_164.getD 11 bk0) := ⟨74, ⟨1, s_iconst dX6_append_73 rfl, rfl⟩, t_ret dX6_append_74 rfl⟩
theorem ok_164_12 : BkOK mi i_164 (bpf P_164) 12 (B_164.getD 12 bk0) := ⟨78, ⟨1, s_iconst dX6_append_75 rfl, ⟨2, s_istore dX6_append_76 (by decide), rfl⟩⟩, t_fall rfl⟩
theorem ok_164_13 : BkOK mi i_164 (bpf P_164) 13 (B_164.getD 13 bk0) := ⟨82, ⟨2, s_iload dX6_append_78, ⟨2, s_bipush dX6_append_80 rfl, rfl⟩⟩, t_ge dX6_append_82 (by decide) rfl⟩
theorem ok_164_14 : BkOK mi i_164 (bpf P_164) 14 (B_164.getD 14 bk0) := ⟨94, ⟨2, s_iload dX6_append_85, ⟨1, s_iload_n dX6_append_87 rfl, ⟨1, s_iload_n dX6_append_88 rfl, ⟨1, s_iload_n dX6_append_89 rfl, ⟨2, s_iload dX6_append_90, ⟨2, s_iload dX6_append_92, rfl⟩⟩⟩⟩⟩⟩, t_cs rfl mi_163 mok_163 rfl (fun As rest h hA hr => call_S dX6_append_94 mok_163 rfl ⟨by decide, by decide⟩ np_163 wt_1283 wt_1284 hA hr)⟩
theorem ok_164_15 : BkOK mi i_164 (bpf P_164) 15 (B_164.getD 15 bk0) := ⟨101, ⟨2, s_istore dX6_append_97 (by decide), ⟨2, s_iload dX6_append_99, rfl⟩⟩, t_ne0 dX6_append_101 (by decide) rfl⟩
theorem ok_164_16 : BkOK mi i_164 (bpf P_164) 16 (B_164.getD 16 bk0) := ⟨104, rfl, t_go dX6_append_104 (by decide)⟩
theorem ok_164_17 : BkOK mi i_164 (bpf P_164) 17 (B_164.getD 17 bk0) := ⟨128, ⟨1, s_aload_n dX6_append_107 rfl, ⟨3, s_get (C := RX6) (T := TX6) (N := 30) dX6_append_108 rfl (by decide) wt_1165 uw_X6, ⟨1, s_aload_n dX6_append_111 rfl, ⟨3, s_get (C := RX6) (T := TX6) (N := 30) dX6_append_112 rfl (by decide) wt_1166 uw_X6, ⟨2, s_iload dX6_append_115, ⟨1, s_iast dX6_append_117, ⟨1, s_aload_n dX6_append_118 rfl, ⟨1, s_dup dX6_append_119, ⟨3, s_get (C := RX6) (T := TX6) (N := 30) dX6_append_120 rfl (by decide) wt_1166 uw_X6, ⟨1, s_iconst dX6_append_123 rfl, ⟨1, s_iadd dX6_append_124, ⟨3, s_put (C := RX6) (T := TX6) (N := 30) tyX6 tyX6_ok nmX6 dX6_append_125 rfl (by decide) rfl (tyX6_ok 9 (by decide)) wt_1166 uw_X6, rfl⟩⟩⟩⟩⟩⟩⟩⟩⟩⟩⟩⟩, t_fall rfl⟩
theorem ok_164_18 : BkOK mi i_164 (bpf P_164) 18 (B_164.getD 18 bk0) := ⟨131, ⟨3, s_iinc dX6_append_128 rfl (by decide), rfl⟩, t_go dX6_append_131 (by decide)⟩
theorem ok_164_19 : BkOK mi i_164 (bpf P_164) 19 (B_164.getD 19 bk0) := ⟨138, ⟨1, s_aload_n dX6_append_134 rfl, ⟨3, s_get (C := RX6) (T := TX6) (N := 30) dX6_append_135 rfl (by decide) wt_1166 uw_X6, rfl⟩⟩, t_ret dX6_append_138 rfl⟩
theorem ok_164 : ∀ b, BkOK mi i_164 (bpf P_164) b (B_164.getD b bk0)
  | 0 => ok_164_0
  | 1 => ok_164_1
  | 2 => ok_164_2
  | 3 => ok_164_3
  | 4 => ok_164_4
  | 5 => ok_164_5
  | 6 => ok_164_6
  | 7 => ok_164_7
  | 8 => ok_164_8
  | 9 => ok_164_9
  | 10 => ok_164_10
  | 11 => ok_164_11
  | 12 => ok_164_12
  | 13 => ok_164_13
  | 14 => ok_164_14
  | 15 => ok_164_15
  | 16 => ok_164_16
  | 17 => ok_164_17
  | 18 => ok_164_18
  | 19 => ok_164_19
  | b + 20 => bk_none mi i_164 (bpf P_164) (b + 20)
theorem ok_165_0 : BkOK mi i_165 (bpf P_165) 0 (B_165.getD 0 bk0) := ⟨5, ⟨1, s_iload_n dX6_see_0 rfl, ⟨1, s_aload_n dX6_see_1 rfl, ⟨3, s_get (C := RX6) (T := TX6) (N := 30) dX6_see_2 rfl (by decide) wt_1166 uw_X6, rfl⟩⟩⟩, t_ge dX6_see_5 (by decide) rfl⟩
theorem ok_165_1 : BkOK mi i_165 (bpf P_165) 1 (B_165.getD 1 bk0) := ⟨14, ⟨1, s_aload_n dX6_see_8 rfl, ⟨3, s_get (C := RX6) (T := TX6) (N := 30) dX6_see_9 rfl (by decide) wt_1165 uw_X6, ⟨1, s_iload_n dX6_see_12 rfl, ⟨1, s_iald dX6_see_13, rfl⟩⟩⟩⟩, t_go dX6_see_14 (by decide)⟩
theorem ok_165_2 : BkOK mi i_165 (bpf P_165) 2 (B_165.getD 2 bk0) := ⟨18, ⟨1, s_iconst dX6_see_17 rfl, rfl⟩, t_fall rfl⟩
theorem ok_165_3 : BkOK mi i_165 (bpf P_165) 3 (B_165.getD 3 bk0) := ⟨18, rfl, t_ret dX6_see_18 rfl⟩
theorem ok_165 : ∀ b, BkOK mi i_165 (bpf P_165) b (B_165.getD b bk0)
  | 0 => ok_165_0
  | 1 => ok_165_1
  | 2 => ok_165_2
  | 3 => ok_165_3
  | b + 4 => bk_none mi i_165 (bpf P_165) (b + 4)
theorem ok_166_0 : BkOK mi i_166 (bpf P_166) 0 (B_166.getD 0 bk0) := ⟨2, ⟨1, s_aload_n dX6_isLetter_0 rfl, ⟨1, s_iload_n dX6_isLetter_1 rfl, rfl⟩⟩, t_cv rfl mi_165 mok_165 rfl (fun _ => ⟨rfl, by decide +kernel⟩) (fun hs' e => by cases e; intro E n b h; cases h) (fun q fs As rest h hp hA hr => (call_V (i := i_166) (j := i_165) (C := RX6) (T := TX6) (N := 30) dX6_isLetter_2 mok_165 rfl ⟨by decide, by decide⟩ np_165 rfl rfl wt_1298 wt_1300 ws_19 hp hA hr rfl).thr (fun _ => True.intro))⟩
theorem ok_166_1 : BkOK mi i_166 (bpf P_166) 1 (B_166.getD 1 bk0) := ⟨9, ⟨2, s_bipush dX6_isLetter_5 rfl, ⟨2, s_bipush dX6_isLetter_7 rfl, rfl⟩⟩, t_cs rfl mi_157 mok_157 rfl (fun As rest h hA hr => call_S dX6_isLetter_9 mok_157 rfl ⟨by decide, by decide⟩ np_157 wt_1264 wt_1265 hA hr)⟩
theorem ok_166_2 : BkOK mi i_166 (bpf P_166) 2 (B_166.getD 2 bk0) := ⟨12, rfl, t_retZ dX6_isLetter_12 rfl⟩
theorem ok_166 : ∀ b, BkOK mi i_166 (bpf P_166) b (B_166.getD b bk0)
  | 0 => ok_166_0
  | 1 => ok_166_1
  | 2 => ok_166_2
  | b + 3 => bk_none mi i_166 (bpf P_166) (b + 3)
theorem ok_167_0 : BkOK mi i_167 (bpf P_167) 0 (B_167.getD 0 bk0) := ⟨2, ⟨1, s_aload_n dX6_isDigit_0 rfl, ⟨1, s_iload_n dX6_isDigit_1 rfl, rfl⟩⟩, t_cv rfl mi_165 mok_165 rfl (fun _ => ⟨rfl, by decide +kernel⟩) (fun hs' e => by cases e; intro E n b h; cases h) (fun q fs As rest h hp hA hr => (call_V (i := i_167) (j := i_165) (C := RX6) (T := TX6) (N := 30) dX6_isDigit_2 mok_165 rfl ⟨by decide, by decide⟩ np_165 rfl rfl wt_1298 wt_1300 ws_19 hp hA hr rfl).thr (fun _ => True.intro))⟩
theorem ok_167_1 : BkOK mi i_167 (bpf P_167) 1 (B_167.getD 1 bk0) := ⟨9, ⟨2, s_bipush dX6_isDigit_5 rfl, ⟨2, s_bipush dX6_isDigit_7 rfl, rfl⟩⟩, t_cs rfl mi_157 mok_157 rfl (fun As rest h hA hr => call_S dX6_isDigit_9 mok_157 rfl ⟨by decide, by decide⟩ np_157 wt_1264 wt_1265 hA hr)⟩
theorem ok_167_2 : BkOK mi i_167 (bpf P_167) 2 (B_167.getD 2 bk0) := ⟨12, rfl, t_retZ dX6_isDigit_12 rfl⟩
theorem ok_167 : ∀ b, BkOK mi i_167 (bpf P_167) b (B_167.getD b bk0)
  | 0 => ok_167_0
  | 1 => ok_167_1
  | 2 => ok_167_2
  | b + 3 => bk_none mi i_167 (bpf P_167) (b + 3)
theorem ok_168_0 : BkOK mi i_168 (bpf P_168) 0 (B_168.getD 0 bk0) := ⟨8, ⟨1, s_aload_n dX6_next_0 rfl, ⟨1, s_aload_n dX6_next_1 rfl, ⟨3, s_get (C := RX6) (T := TX6) (N := 30) dX6_next_2 rfl (by decide) wt_1168 uw_X6, ⟨3, s_put (C := RX6) (T := TX6) (N := 30) tyX6 tyX6_ok nmX6 dX6_next_5 rfl (by decide) rfl (tyX6_ok 10 (by decide)) wt_1167 uw_X6, rfl⟩⟩⟩⟩, t_fall rfl⟩
theorem ok_168_1 : BkOK mi i_168 (bpf P_168) 1 (B_168.getD 1 bk0) := ⟨13, ⟨1, s_aload_n dX6_next_8 rfl, ⟨1, s_aload_n dX6_next_9 rfl, ⟨3, s_get (C := RX6) (T := TX6) (N := 30) dX6_next_10 rfl (by decide) wt_1167 uw_X6, rfl⟩⟩⟩, t_cv rfl mi_165 mok_165 rfl (fun _ => ⟨rfl, by decide +kernel⟩) (fun hs' e => by cases e; intro E n b h; cases h) (fun q fs As rest h hp hA hr => (call_V (i := i_168) (j := i_165) (C := RX6) (T := TX6) (N := 30) dX6_next_13 mok_165 rfl ⟨by decide, by decide⟩ np_165 rfl rfl wt_1298 wt_1300 ws_19 hp hA hr rfl).thr (fun _ => True.intro))⟩
theorem ok_168_2 : BkOK mi i_168 (bpf P_168) 2 (B_168.getD 2 bk0) := ⟨18, ⟨2, s_bipush dX6_next_16 rfl, rfl⟩, t_nei dX6_next_18 (by decide) rfl⟩
theorem ok_168_3 : BkOK mi i_168 (bpf P_168) 3 (B_168.getD 3 bk0) := ⟨31, ⟨1, s_aload_n dX6_next_21 rfl, ⟨1, s_dup dX6_next_22, ⟨3, s_get (C := RX6) (T := TX6) (N := 30) dX6_next_23 rfl (by decide) wt_1167 uw_X6, ⟨1, s_iconst dX6_next_26 rfl, ⟨1, s_iadd dX6_next_27, ⟨3, s_put (C := RX6) (T := TX6) (N := 30) tyX6 tyX6_ok nmX6 dX6_next_28 rfl (by decide) rfl (tyX6_ok 10 (by decide)) wt_1167 uw_X6, rfl⟩⟩⟩⟩⟩⟩, t_go dX6_next_31 (by decide)⟩
theorem ok_168_4 : BkOK mi i_168 (bpf P_168) 4 (B_168.getD 4 bk0) := ⟨55, ⟨1, s_aload_n dX6_next_34 rfl, ⟨1, s_aload_n dX6_next_35 rfl, ⟨3, s_get (C := RX6) (T := TX6) (N := 30) dX6_next_36 rfl (by decide) wt_1167 uw_X6, ⟨3, s_put (C := RX6) (T := TX6) (N := 30) tyX6 tyX6_ok nmX6 dX6_next_39 rfl (by decide) rfl (tyX6_ok 11 (by decide)) wt_1168 uw_X6, ⟨1, s_aload_n dX6_next_42 rfl, ⟨1, s_iconst dX6_next_43 rfl, ⟨3, s_put (C := RX6) (T := TX6) (N := 30) tyX6 tyX6_ok nmX6 dX6_next_44 rfl (by decide) rfl (tyX6_ok 13 (by decide)) wt_1170 uw_X6, ⟨1, s_aload_n dX6_next_47 rfl, ⟨3, s_get (C := RX6) (T := TX6) (N := 30) dX6_next_48 rfl (by decide) wt_1167 uw_X6, ⟨1, s_aload_n dX6_next_51 rfl, ⟨3, s_get (C := RX6) (T := TX6) (N := 30) dX6_next_52 rfl (by decide) wt_1166 uw_X6, rfl⟩⟩⟩⟩⟩⟩⟩⟩⟩⟩⟩, t_lt dX6_next_55 (by decide) rfl⟩
theorem ok_168_5 : BkOK mi i_168 (bpf P_168) 5 (B_168.getD 5 bk0) := ⟨63, ⟨1, s_aload_n dX6_next_58 rfl, ⟨1, s_iconst dX6_next_59 rfl, ⟨3, s_put (C := RX6) (T := TX6) (N := 30) tyX6 tyX6_ok nmX6 dX6_next_60 rfl (by decide) rfl (tyX6_ok 12 (by decide)) wt_1169 uw_X6, rfl⟩⟩⟩, t_go dX6_next_63 (by decide)⟩
theorem ok_168_6 : BkOK mi i_168 (bpf P_168) 6 (B_168.getD 6 bk0) := ⟨71, ⟨1, s_aload_n dX6_next_66 rfl, ⟨1, s_aload_n dX6_next_67 rfl, ⟨3, s_get (C := RX6) (T := TX6) (N := 30) dX6_next_68 rfl (by decide) wt_1167 uw_X6, rfl⟩⟩⟩, t_cv rfl mi_166 mok_166 rfl (fun _ => ⟨rfl, by decide +kernel⟩) (fun hs' e => by cases e; intro E n b h; cases h) (fun q fs As rest h hp hA hr => (call_V (i := i_168) (j := i_166) (C := RX6) (T := TX6) (N := 30) dX6_next_71 mok_166 rfl ⟨by decide, by decide⟩ np_166 rfl rfl wt_1302 wt_1304 ws_20 hp hA hr rfl).thr (fun _ => True.intro))⟩
theorem ok_168_7 : BkOK mi i_168 (bpf P_168) 7 (B_168.getD 7 bk0) := ⟨74, rfl, t_eq0 dX6_next_74 (by decide) rfl⟩
theorem ok_168_8 : BkOK mi i_168 (bpf P_168) 8 (B_168.getD 8 bk0) := ⟨82, ⟨1, s_aload_n dX6_next_77 rfl, ⟨1, s_aload_n dX6_next_78 rfl, ⟨3, s_get (C := RX6) (T := TX6) (N := 30) dX6_next_79 rfl (by decide) wt_1168 uw_X6, rfl⟩⟩⟩, t_cv rfl mi_166 mok_166 rfl (fun _ => ⟨rfl, by decide +kernel⟩) (fun hs' e => by cases e; intro E n b h; cases h) (fun q fs As rest h hp hA hr => (call_V (i := i_168) (j := i_166) (C := RX6) (T := TX6) (N := 30) dX6_next_82 mok_166 rfl ⟨by decide, by decide⟩ np_166 rfl rfl wt_1302 wt_1304 ws_20 hp hA hr rfl).thr (fun _ => True.intro))⟩
theorem ok_168_9 : BkOK mi i_168 (bpf P_168) 9 (B_168.getD 9 bk0) := ⟨85, rfl, t_eq0 dX6_next_85 (by decide) rfl⟩
theorem ok_168_10 : BkOK mi i_168 (bpf P_168) 10 (B_168.getD 10 bk0) := ⟨98, ⟨1, s_aload_n dX6_next_88 rfl, ⟨1, s_dup dX6_next_89, ⟨3, s_get (C := RX6) (T := TX6) (N := 30) dX6_next_90 rfl (by decide) wt_1168 uw_X6, ⟨1, s_iconst dX6_next_93 rfl, ⟨1, s_iadd dX6_next_94, ⟨3, s_put (C := RX6) (T := TX6) (N := 30) tyX6 tyX6_ok nmX6 dX6_next_95 rfl (by decide) rfl (tyX6_ok 11 (by decide)) wt_1168 uw_X6, rfl⟩⟩⟩⟩⟩⟩, t_go dX6_next_98 (by decide)⟩
theorem ok_168_11 : BkOK mi i_168 (bpf P_168) 11 (B_168.getD 11 bk0) := ⟨106, ⟨1, s_aload_n dX6_next_101 rfl, ⟨1, s_iconst dX6_next_102 rfl, ⟨3, s_put (C := RX6) (T := TX6) (N := 30) tyX6 tyX6_ok nmX6 dX6_next_103 rfl (by decide) rfl (tyX6_ok 12 (by decide)) wt_1169 uw_X6, rfl⟩⟩⟩, t_go dX6_next_106 (by decide)⟩
theorem ok_168_12 : BkOK mi i_168 (bpf P_168) 12 (B_168.getD 12 bk0) := ⟨114, ⟨1, s_aload_n dX6_next_109 rfl, ⟨1, s_aload_n dX6_next_110 rfl, ⟨3, s_get (C := RX6) (T := TX6) (N := 30) dX6_next_111 rfl (by decide) wt_1167 uw_X6, rfl⟩⟩⟩, t_cv rfl mi_167 mok_167 rfl (fun _ => ⟨rfl, by decide +kernel⟩) (fun hs' e => by cases e; intro E n b h; cases h) (fun q fs As rest h hp hA hr => (call_V (i := i_168) (j := i_167) (C := RX6) (T := TX6) (N := 30) dX6_next_114 mok_167 rfl ⟨by decide, by decide⟩ np_167 rfl rfl wt_1306 wt_1308 ws_21 hp hA hr rfl).thr (fun _ => True.intro))⟩
theorem ok_168_13 : BkOK mi i_168 (bpf P_168) 13 (B_168.getD 13 bk0) := ⟨117, rfl, t_eq0 dX6_next_117 (by decide) rfl⟩
theorem ok_168_14 : BkOK mi i_168 (bpf P_168) 14 (B_168.getD 14 bk0) := ⟨125, ⟨1, s_aload_n dX6_next_120 rfl, ⟨1, s_aload_n dX6_next_121 rfl, ⟨3, s_get (C := RX6) (T := TX6) (N := 30) dX6_next_122 rfl (by decide) wt_1168 uw_X6, rfl⟩⟩⟩, t_cv rfl mi_167 mok_167 rfl (fun _ => ⟨rfl, by decide +kernel⟩) (fun hs' e => by cases e; intro E n b h; cases h) (fun q fs As rest h hp hA hr => (call_V (i := i_168) (j := i_167) (C := RX6) (T := TX6) (N := 30) dX6_next_125 mok_167 rfl ⟨by decide, by decide⟩ np_167 rfl rfl wt_1306 wt_1308 ws_21 hp hA hr rfl).thr (fun _ => True.intro))⟩
theorem ok_168_15 : BkOK mi i_168 (bpf P_168) 15 (B_168.getD 15 bk0) := ⟨128, rfl, t_eq0 dX6_next_128 (by decide) rfl⟩
theorem ok_168_16 : BkOK mi i_168 (bpf P_168) 16 (B_168.getD 16 bk0) := ⟨147, ⟨1, s_aload_n dX6_next_131 rfl, ⟨3, s_sipush dX6_next_132 rfl, ⟨2, s_bipush dX6_next_135 rfl, ⟨1, s_aload_n dX6_next_137 rfl, ⟨3, s_get (C := RX6) (T := TX6) (N := 30) dX6_next_138 rfl (by decide) wt_1170 uw_X6, ⟨1, s_imul dX6_next_141, ⟨1, s_aload_n dX6_next_142 rfl, ⟨1, s_aload_n dX6_next_143 rfl, ⟨3, s_get (C := RX6) (T := TX6) (N := 30) dX6_next_144 rfl (by decide) wt_1168 uw_X6, rfl⟩⟩⟩⟩⟩⟩⟩⟩⟩, t_cv rfl mi_165 mok_165 rfl (fun _ => ⟨rfl, by decide +kernel⟩) (fun hs' e => by cases e; intro E n b h; cases h) (fun q fs As rest h hp hA hr => (call_V (i := i_168) (j := i_165) (C := RX6) (T := TX6) (N := 30) dX6_next_147 mok_165 rfl ⟨by decide, by decide⟩ np_165 rfl rfl wt_1298 wt_1300 ws_19 hp hA hr rfl).thr (fun _ => True.intro))⟩
theorem ok_168_17 : BkOK mi i_168 (bpf P_168) 17 (B_168.getD 17 bk0) := ⟨170, ⟨1, s_iadd dX6_next_150, ⟨2, s_bipush dX6_next_151 rfl, ⟨1, s_isub dX6_next_153, ⟨3, s_mmin dX6_next_154 wt_1155x wt_293 wt_4 wt_294 ⟨by decide, by decide⟩, ⟨3, s_put (C := RX6) (T := TX6) (N := 30) tyX6 tyX6_ok nmX6 dX6_next_157 rfl (by decide) rfl (tyX6_ok 13 (by decide)) wt_1170 uw_X6, ⟨1, s_aload_n dX6_next_160 rfl, ⟨1, s_dup dX6_next_161, ⟨3, s_get (C := RX6) (T := TX6) (N := 30) dX6_next_162 rfl (by decide) wt_1168 uw_X6, ⟨1, s_iconst dX6_next_165 rfl, ⟨1, s_iadd dX6_next_166, ⟨3, s_put (C := RX6) (T := TX6) (N := 30) tyX6 tyX6_ok nmX6 dX6_next_167 rfl (by decide) rfl (tyX6_ok 11 (by decide)) wt_1168 uw_X6, rfl⟩⟩⟩⟩⟩⟩⟩⟩⟩⟩⟩, t_go dX6_next_170 (by decide)⟩
theorem ok_168_18 : BkOK mi i_168 (bpf P_168) 18 (B_168.getD 18 bk0) := ⟨178, ⟨1, s_aload_n dX6_next_173 rfl, ⟨1, s_iconst dX6_next_174 rfl, ⟨3, s_put (C := RX6) (T := TX6) (N := 30) tyX6 tyX6_ok nmX6 dX6_next_175 rfl (by decide) rfl (tyX6_ok 12 (by decide)) wt_1169 uw_X6, rfl⟩⟩⟩, t_go dX6_next_178 (by decide)⟩
theorem ok_168_19 : BkOK mi i_168 (bpf P_168) 19 (B_168.getD 19 bk0) := ⟨196, ⟨1, s_aload_n dX6_next_181 rfl, ⟨1, s_dup dX6_next_182, ⟨3, s_get (C := RX6) (T := TX6) (N := 30) dX6_next_183 rfl (by decide) wt_1168 uw_X6, ⟨1, s_iconst dX6_next_186 rfl, ⟨1, s_iadd dX6_next_187, ⟨3, s_put (C := RX6) (T := TX6) (N := 30) tyX6 tyX6_ok nmX6 dX6_next_188 rfl (by decide) rfl (tyX6_ok 11 (by decide)) wt_1168 uw_X6, ⟨1, s_aload_n dX6_next_191 rfl, ⟨1, s_iconst dX6_next_192 rfl, ⟨3, s_put (C := RX6) (T := TX6) (N := 30) tyX6 tyX6_ok nmX6 dX6_next_193 rfl (by decide) rfl (tyX6_ok 12 (by decide)) wt_1169 uw_X6, rfl⟩⟩⟩⟩⟩⟩⟩⟩⟩, t_fall rfl⟩
theorem ok_168_20 : BkOK mi i_168 (bpf P_168) 20 (B_168.getD 20 bk0) := ⟨196, rfl, t_retV dX6_next_196 rfl⟩
theorem ok_168 : ∀ b, BkOK mi i_168 (bpf P_168) b (B_168.getD b bk0)
  | 0 => ok_168_0
  | 1 => ok_168_1
  | 2 => ok_168_2
  | 3 => ok_168_3
  | 4 => ok_168_4
  | 5 => ok_168_5
  | 6 => ok_168_6
  | 7 => ok_168_7
  | 8 => ok_168_8
  | 9 => ok_168_9
  | 10 => ok_168_10
  | 11 => ok_168_11
  | 12 => ok_168_12
  | 13 => ok_168_13
  | 14 => ok_168_14
  | 15 => ok_168_15
  | 16 => ok_168_16
  | 17 => ok_168_17
  | 18 => ok_168_18
  | 19 => ok_168_19
  | 20 => ok_168_20
  | b + 21 => bk_none mi i_168 (bpf P_168) (b + 21)
theorem ok_169_0 : BkOK mi i_169 (bpf P_169) 0 (B_169.getD 0 bk0) := ⟨16, ⟨1, s_aload_n dX6_starts_0 rfl, ⟨1, s_iconst dX6_starts_1 rfl, ⟨3, s_put (C := RX6) (T := TX6) (N := 30) tyX6 tyX6_ok nmX6 dX6_starts_2 rfl (by decide) rfl (tyX6_ok 7 (by decide)) wt_1164 uw_X6, ⟨1, s_aload_n dX6_starts_5 rfl, ⟨1, s_iconst dX6_starts_6 rfl, ⟨3, s_put (C := RX6) (T := TX6) (N := 30) tyX6 tyX6_ok nmX6 dX6_starts_7 rfl (by decide) rfl (tyX6_ok 11 (by decide)) wt_1168 uw_X6, ⟨1, s_aload_n dX6_starts_10 rfl, ⟨1, s_iconst dX6_starts_11 rfl, ⟨3, s_put (C := RX6) (T := TX6) (N := 30) tyX6 tyX6_ok nmX6 dX6_starts_12 rfl (by decide) rfl (tyX6_ok 14 (by decide)) wt_1171 uw_X6, ⟨1, s_aload_n dX6_starts_15 rfl, rfl⟩⟩⟩⟩⟩⟩⟩⟩⟩⟩, t_cv rfl mi_168 mok_168 rfl (fun _ => ⟨rfl, by decide +kernel⟩) (fun hs' e => by cases e; intro E n b h; cases h) (fun q fs As rest h hp hA hr => (call_V (i := i_169) (j := i_168) (C := RX6) (T := TX6) (N := 30) dX6_starts_16 mok_168 rfl ⟨by decide, by decide⟩ np_168 rfl rfl wt_1294 wt_1296 ws_18 hp hA hr rfl).thr (fun _ => True.intro))⟩
theorem ok_169_1 : BkOK mi i_169 (bpf P_169) 1 (B_169.getD 1 bk0) := ⟨19, rfl, t_retV dX6_starts_19 rfl⟩
theorem ok_169 : ∀ b, BkOK mi i_169 (bpf P_169) b (B_169.getD b bk0)
  | 0 => ok_169_0
  | 1 => ok_169_1
  | b + 2 => bk_none mi i_169 (bpf P_169) (b + 2)
theorem ok_170_0 : BkOK mi i_170 (bpf P_170) 0 (B_170.getD 0 bk0) := ⟨5, ⟨1, s_aload_n dX6_ends_0 rfl, ⟨1, s_aload_n dX6_ends_1 rfl, ⟨3, s_get (C := RX6) (T := TX6) (N := 30) dX6_ends_2 rfl (by decide) wt_1171 uw_X6, rfl⟩⟩⟩, t_ne0 dX6_ends_5 (by decide) rfl⟩
theorem ok_170_1 : BkOK mi i_170 (bpf P_170) 1 (B_170.getD 1 bk0) := ⟨9, ⟨1, s_iconst dX6_ends_8 rfl, rfl⟩, t_go dX6_ends_9 (by decide)⟩
theorem ok_170_2 : BkOK mi i_170 (bpf P_170) 2 (B_170.getD 2 bk0) := ⟨16, ⟨1, s_aload_n dX6_ends_12 rfl, ⟨3, s_get (C := RX6) (T := TX6) (N := 30) dX6_ends_13 rfl (by decide) wt_1172 uw_X6, rfl⟩⟩, t_fall rfl⟩
theorem ok_170_3 : BkOK mi i_170 (bpf P_170) 3 (B_170.getD 3 bk0) := ⟨24, ⟨3, s_put (C := RX6) (T := TX6) (N := 30) tyX6 tyX6_ok nmX6 dX6_ends_16 rfl (by decide) rfl (tyX6_ok 16 (by decide)) wt_1173 uw_X6, ⟨1, s_aload_n dX6_ends_19 rfl, ⟨1, s_iconst dX6_ends_20 rfl, ⟨3, s_put (C := RX6) (T := TX6) (N := 30) tyX6 tyX6_ok nmX6 dX6_ends_21 rfl (by decide) rfl (tyX6_ok 9 (by decide)) wt_1166 uw_X6, rfl⟩⟩⟩⟩, t_retV dX6_ends_24 rfl⟩
theorem ok_170 : ∀ b, BkOK mi i_170 (bpf P_170) b (B_170.getD b bk0)
  | 0 => ok_170_0
  | 1 => ok_170_1
  | 2 => ok_170_2
  | 3 => ok_170_3
  | b + 4 => bk_none mi i_170 (bpf P_170) (b + 4)
theorem ok_171_0 : BkOK mi i_171 (bpf P_171) 0 (B_171.getD 0 bk0) := ⟨4, ⟨1, s_aload_n dX6_isWord_0 rfl, ⟨3, s_get (C := RX6) (T := TX6) (N := 30) dX6_isWord_1 rfl (by decide) wt_1171 uw_X6, rfl⟩⟩, t_ne0 dX6_isWord_4 (by decide) rfl⟩
theorem ok_171_1 : BkOK mi i_171 (bpf P_171) 1 (B_171.getD 1 bk0) := ⟨11, ⟨1, s_aload_n dX6_isWord_7 rfl, ⟨3, s_get (C := RX6) (T := TX6) (N := 30) dX6_isWord_8 rfl (by decide) wt_1169 uw_X6, rfl⟩⟩, t_ne0 dX6_isWord_11 (by decide) rfl⟩
theorem ok_171_2 : BkOK mi i_171 (bpf P_171) 2 (B_171.getD 2 bk0) := ⟨24, ⟨1, s_aload_n dX6_isWord_14 rfl, ⟨3, s_get (C := RX6) (T := TX6) (N := 30) dX6_isWord_15 rfl (by decide) wt_1168 uw_X6, ⟨1, s_aload_n dX6_isWord_18 rfl, ⟨3, s_get (C := RX6) (T := TX6) (N := 30) dX6_isWord_19 rfl (by decide) wt_1167 uw_X6, ⟨1, s_isub dX6_isWord_22, ⟨1, s_aload_n dX6_isWord_23 rfl, rfl⟩⟩⟩⟩⟩⟩, t_cx rfl mi_294 mok_294 rfl (fun q n0 x As rest h hp hA hr => call_VS dX6_isWord_24 mok_294 rfl ⟨by decide, by decide⟩ np_294 wt_1315 wt_310 wt_311 hp hA hr (by decide +kernel))⟩
theorem ok_171_3 : BkOK mi i_171 (bpf P_171) 3 (B_171.getD 3 bk0) := ⟨27, rfl, t_eq dX6_isWord_27 (by decide) rfl⟩
theorem ok_171_4 : BkOK mi i_171 (bpf P_171) 4 (B_171.getD 4 bk0) := ⟨31, ⟨1, s_iconst dX6_isWord_30 rfl, rfl⟩, t_retZ dX6_isWord_31 rfl⟩
theorem ok_171_5 : BkOK mi i_171 (bpf P_171) 5 (B_171.getD 5 bk0) := ⟨34, ⟨1, s_iconst dX6_isWord_32 rfl, ⟨1, s_istore_n dX6_isWord_33 rfl (by decide), rfl⟩⟩, t_fall rfl⟩
theorem ok_171_6 : BkOK mi i_171 (bpf P_171) 6 (B_171.getD 6 bk0) := ⟨36, ⟨1, s_iload_n dX6_isWord_34 rfl, ⟨1, s_aload_n dX6_isWord_35 rfl, rfl⟩⟩, t_cx rfl mi_294 mok_294 rfl (fun q n0 x As rest h hp hA hr => call_VS dX6_isWord_36 mok_294 rfl ⟨by decide, by decide⟩ np_294 wt_1315 wt_310 wt_311 hp hA hr (by decide +kernel))⟩
theorem ok_171_7 : BkOK mi i_171 (bpf P_171) 7 (B_171.getD 7 bk0) := ⟨39, rfl, t_ge dX6_isWord_39 (by decide) rfl⟩
theorem ok_171_8 : BkOK mi i_171 (bpf P_171) 8 (B_171.getD 8 bk0) := ⟨55, ⟨1, s_aload_n dX6_isWord_42 rfl, ⟨3, s_get (C := RX6) (T := TX6) (N := 30) dX6_isWord_43 rfl (by decide) wt_1165 uw_X6, ⟨1, s_aload_n dX6_isWord_46 rfl, ⟨3, s_get (C := RX6) (T := TX6) (N := 30) dX6_isWord_47 rfl (by decide) wt_1167 uw_X6, ⟨1, s_iload_n dX6_isWord_50 rfl, ⟨1, s_iadd dX6_isWord_51, ⟨1, s_iald dX6_isWord_52, ⟨1, s_aload_n dX6_isWord_53 rfl, ⟨1, s_iload_n dX6_isWord_54 rfl, rfl⟩⟩⟩⟩⟩⟩⟩⟩⟩, t_cx rfl mi_295 mok_295 rfl (fun q n0 x As rest h hp hA hr => call_VS dX6_isWord_55 mok_295 rfl ⟨by decide, by decide⟩ np_295 wt_1316 wt_320 wt_321 hp hA hr (by decide +kernel))⟩
theorem ok_171_9 : BkOK mi i_171 (bpf P_171) 9 (B_171.getD 9 bk0) := ⟨58, rfl, t_eq dX6_isWord_58 (by decide) rfl⟩
theorem ok_171_10 : BkOK mi i_171 (bpf P_171) 10 (B_171.getD 10 bk0) := ⟨62, ⟨1, s_iconst dX6_isWord_61 rfl, rfl⟩, t_retZ dX6_isWord_62 rfl⟩
theorem ok_171_11 : BkOK mi i_171 (bpf P_171) 11 (B_171.getD 11 bk0) := ⟨66, ⟨3, s_iinc dX6_isWord_63 rfl (by decide), rfl⟩, t_go dX6_isWord_66 (by decide)⟩
theorem ok_171_12 : BkOK mi i_171 (bpf P_171) 12 (B_171.getD 12 bk0) := ⟨70, ⟨1, s_iconst dX6_isWord_69 rfl, rfl⟩, t_retZ dX6_isWord_70 rfl⟩
theorem ok_171 : ∀ b, BkOK mi i_171 (bpf P_171) b (B_171.getD b bk0)
  | 0 => ok_171_0
  | 1 => ok_171_1
  | 2 => ok_171_2
  | 3 => ok_171_3
  | 4 => ok_171_4
  | 5 => ok_171_5
  | 6 => ok_171_6
  | 7 => ok_171_7
  | 8 => ok_171_8
  | 9 => ok_171_9
  | 10 => ok_171_10
  | 11 => ok_171_11
  | 12 => ok_171_12
  | b + 13 => bk_none mi i_171 (bpf P_171) (b + 13)
theorem ok_172_0 : BkOK mi i_172 (bpf P_172) 0 (B_172.getD 0 bk0) := ⟨4, ⟨1, s_aload_n dX6_fails_0 rfl, ⟨3, s_get (C := RX6) (T := TX6) (N := 30) dX6_fails_1 rfl (by decide) wt_1171 uw_X6, rfl⟩⟩, t_eq0 dX6_fails_4 (by decide) rfl⟩
theorem ok_172_1 : BkOK mi i_172 (bpf P_172) 1 (B_172.getD 1 bk0) := ⟨7, rfl, t_retV dX6_fails_7 rfl⟩
theorem ok_172_2 : BkOK mi i_172 (bpf P_172) 2 (B_172.getD 2 bk0) := ⟨21, ⟨1, s_aload_n dX6_fails_8 rfl, ⟨1, s_iload_n dX6_fails_9 rfl, ⟨3, s_put (C := RX6) (T := TX6) (N := 30) tyX6 tyX6_ok nmX6 dX6_fails_10 rfl (by decide) rfl (tyX6_ok 14 (by decide)) wt_1171 uw_X6, ⟨1, s_aload_n dX6_fails_13 rfl, ⟨1, s_aload_n dX6_fails_14 rfl, ⟨3, s_get (C := RX6) (T := TX6) (N := 30) dX6_fails_15 rfl (by decide) wt_1167 uw_X6, ⟨3, s_put (C := RX6) (T := TX6) (N := 30) tyX6 tyX6_ok nmX6 dX6_fails_18 rfl (by decide) rfl (tyX6_ok 15 (by decide)) wt_1172 uw_X6, rfl⟩⟩⟩⟩⟩⟩⟩, t_retV dX6_fails_21 rfl⟩
theorem ok_172 : ∀ b, BkOK mi i_172 (bpf P_172) b (B_172.getD b bk0)
  | 0 => ok_172_0
  | 1 => ok_172_1
  | 2 => ok_172_2
  | b + 3 => bk_none mi i_172 (bpf P_172) (b + 3)
theorem ok_173_0 : BkOK mi i_173 (bpf P_173) 0 (B_173.getD 0 bk0) := ⟨1, ⟨1, s_iload_n dX6_must_0 rfl, rfl⟩, t_ne0 dX6_must_1 (by decide) rfl⟩
theorem ok_173_1 : BkOK mi i_173 (bpf P_173) 1 (B_173.getD 1 bk0) := ⟨7, ⟨1, s_aload_n dX6_must_4 rfl, ⟨2, s_bipush dX6_must_5 rfl, rfl⟩⟩, t_cv rfl mi_172 mok_172 rfl (fun _ => ⟨rfl, by decide +kernel⟩) (fun hs' e => by cases e; intro E n b h; cases h) (fun q fs As rest h hp hA hr => (call_V (i := i_173) (j := i_172) (C := RX6) (T := TX6) (N := 30) dX6_must_7 mok_172 rfl ⟨by decide, by decide⟩ np_172 rfl rfl wt_1321 wt_1323 ws_24 hp hA hr rfl).thr (fun _ => True.intro))⟩
theorem ok_173_2 : BkOK mi i_173 (bpf P_173) 2 (B_173.getD 2 bk0) := ⟨14, ⟨1, s_aload_n dX6_must_10 rfl, ⟨3, s_get (C := RX6) (T := TX6) (N := 30) dX6_must_11 rfl (by decide) wt_1171 uw_X6, rfl⟩⟩, t_ne0 dX6_must_14 (by decide) rfl⟩
theorem ok_173_3 : BkOK mi i_173 (bpf P_173) 3 (B_173.getD 3 bk0) := ⟨18, ⟨1, s_aload_n dX6_must_17 rfl, rfl⟩, t_cv rfl mi_168 mok_168 rfl (fun _ => ⟨rfl, by decide +kernel⟩) (fun hs' e => by cases e; intro E n b h; cases h) (fun q fs As rest h hp hA hr => (call_V (i := i_173) (j := i_168) (C := RX6) (T := TX6) (N := 30) dX6_must_18 mok_168 rfl ⟨by decide, by decide⟩ np_168 rfl rfl wt_1294 wt_1296 ws_18 hp hA hr rfl).thr (fun _ => True.intro))⟩
theorem ok_173_4 : BkOK mi i_173 (bpf P_173) 4 (B_173.getD 4 bk0) := ⟨21, rfl, t_retV dX6_must_21 rfl⟩
theorem ok_173 : ∀ b, BkOK mi i_173 (bpf P_173) b (B_173.getD b bk0)
  | 0 => ok_173_0
  | 1 => ok_173_1
  | 2 => ok_173_2
  | 3 => ok_173_3
  | 4 => ok_173_4
  | b + 5 => bk_none mi i_173 (bpf P_173) (b + 5)
theorem ok_174_0 : BkOK mi i_174 (bpf P_174) 0 (B_174.getD 0 bk0) := ⟨6, ⟨1, s_aload_n dX6_mustEnd_0 rfl, ⟨1, s_aload_n dX6_mustEnd_1 rfl, ⟨3, s_get (C := RX6) (T := TX6) (N := 30) dX6_mustEnd_2 rfl (by decide) wt_1169 uw_X6, ⟨1, s_iconst dX6_mustEnd_5 rfl, rfl⟩⟩⟩⟩, t_nei dX6_mustEnd_6 (by decide) rfl⟩
theorem ok_174_1 : BkOK mi i_174 (bpf P_174) 1 (B_174.getD 1 bk0) := ⟨14, ⟨1, s_aload_n dX6_mustEnd_9 rfl, ⟨1, s_aload_n dX6_mustEnd_10 rfl, ⟨3, s_get (C := RX6) (T := TX6) (N := 30) dX6_mustEnd_11 rfl (by decide) wt_1167 uw_X6, rfl⟩⟩⟩, t_cv rfl mi_165 mok_165 rfl (fun _ => ⟨rfl, by decide +kernel⟩) (fun hs' e => by cases e; intro E n b h; cases h) (fun q fs As rest h hp hA hr => (call_V (i := i_174) (j := i_165) (C := RX6) (T := TX6) (N := 30) dX6_mustEnd_14 mok_165 rfl ⟨by decide, by decide⟩ np_165 rfl rfl wt_1298 wt_1300 ws_19 hp hA hr rfl).thr (fun _ => True.intro))⟩
theorem ok_174_2 : BkOK mi i_174 (bpf P_174) 2 (B_174.getD 2 bk0) := ⟨19, ⟨2, s_bipush dX6_mustEnd_17 rfl, rfl⟩, t_nei dX6_mustEnd_19 (by decide) rfl⟩
theorem ok_174_3 : BkOK mi i_174 (bpf P_174) 3 (B_174.getD 3 bk0) := ⟨23, ⟨1, s_iconst dX6_mustEnd_22 rfl, rfl⟩, t_go dX6_mustEnd_23 (by decide)⟩
theorem ok_174_4 : BkOK mi i_174 (bpf P_174) 4 (B_174.getD 4 bk0) := ⟨27, ⟨1, s_iconst dX6_mustEnd_26 rfl, rfl⟩, t_fall rfl⟩
theorem ok_174_5 : BkOK mi i_174 (bpf P_174) 5 (B_174.getD 5 bk0) := ⟨27, rfl, t_cv rfl mi_173 mok_173 rfl (fun _ => ⟨rfl, by decide +kernel⟩) (fun hs' e => by cases e; intro E n b h; cases h) (fun q fs As rest h hp hA hr => (call_V (i := i_174) (j := i_173) (C := RX6) (T := TX6) (N := 30) dX6_mustEnd_27 mok_173 rfl ⟨by decide, by decide⟩ np_173 rfl rfl wt_1317 wt_1319 ws_23 hp hA hr rfl).thr (fun _ => True.intro))⟩
theorem ok_174_6 : BkOK mi i_174 (bpf P_174) 6 (B_174.getD 6 bk0) := ⟨30, rfl, t_retV dX6_mustEnd_30 rfl⟩
theorem ok_174 : ∀ b, BkOK mi i_174 (bpf P_174) b (B_174.getD b bk0)
  | 0 => ok_174_0
  | 1 => ok_174_1
  | 2 => ok_174_2
  | 3 => ok_174_3
  | 4 => ok_174_4
  | 5 => ok_174_5
  | 6 => ok_174_6
  | b + 7 => bk_none mi i_174 (bpf P_174) (b + 7)
theorem ok_175_0 : BkOK mi i_175 (bpf P_175) 0 (B_175.getD 0 bk0) := ⟨4, ⟨1, s_aload_n dX6_takes_0 rfl, ⟨3, s_get (C := RX6) (T := TX6) (N := 30) dX6_takes_1 rfl (by decide) wt_1171 uw_X6, rfl⟩⟩, t_ne0 dX6_takes_4 (by decide) rfl⟩
theorem ok_175_1 : BkOK mi i_175 (bpf P_175) 1 (B_175.getD 1 bk0) := ⟨12, ⟨1, s_aload_n dX6_takes_7 rfl, ⟨3, s_get (C := RX6) (T := TX6) (N := 30) dX6_takes_8 rfl (by decide) wt_1169 uw_X6, ⟨1, s_iconst dX6_takes_11 rfl, rfl⟩⟩⟩, t_eq dX6_takes_12 (by decide) rfl⟩
theorem ok_175_2 : BkOK mi i_175 (bpf P_175) 2 (B_175.getD 2 bk0) := ⟨18, ⟨1, s_aload_n dX6_takes_15 rfl, ⟨2, s_bipush dX6_takes_16 rfl, rfl⟩⟩, t_cv rfl mi_172 mok_172 rfl (fun _ => ⟨rfl, by decide +kernel⟩) (fun hs' e => by cases e; intro E n b h; cases h) (fun q fs As rest h hp hA hr => (call_V (i := i_175) (j := i_172) (C := RX6) (T := TX6) (N := 30) dX6_takes_18 mok_172 rfl ⟨by decide, by decide⟩ np_172 rfl rfl wt_1321 wt_1323 ws_24 hp hA hr rfl).thr (fun _ => True.intro))⟩
theorem ok_175_3 : BkOK mi i_175 (bpf P_175) 3 (B_175.getD 3 bk0) := ⟨25, ⟨1, s_aload_n dX6_takes_21 rfl, ⟨3, s_get (C := RX6) (T := TX6) (N := 30) dX6_takes_22 rfl (by decide) wt_1171 uw_X6, rfl⟩⟩, t_ne0 dX6_takes_25 (by decide) rfl⟩
theorem ok_175_4 : BkOK mi i_175 (bpf P_175) 4 (B_175.getD 4 bk0) := ⟨34, ⟨1, s_aload_n dX6_takes_28 rfl, ⟨3, s_get (C := RX6) (T := TX6) (N := 30) dX6_takes_29 rfl (by decide) wt_1170 uw_X6, ⟨1, s_iload_n dX6_takes_32 rfl, ⟨1, s_iload_n dX6_takes_33 rfl, rfl⟩⟩⟩⟩, t_cs rfl mi_157 mok_157 rfl (fun As rest h hA hr => call_S dX6_takes_34 mok_157 rfl ⟨by decide, by decide⟩ np_157 wt_1264 wt_1265 hA hr)⟩
theorem ok_175_5 : BkOK mi i_175 (bpf P_175) 5 (B_175.getD 5 bk0) := ⟨37, rfl, t_ne0 dX6_takes_37 (by decide) rfl⟩
theorem ok_175_6 : BkOK mi i_175 (bpf P_175) 6 (B_175.getD 6 bk0) := ⟨43, ⟨1, s_aload_n dX6_takes_40 rfl, ⟨2, s_bipush dX6_takes_41 rfl, rfl⟩⟩, t_cv rfl mi_172 mok_172 rfl (fun _ => ⟨rfl, by decide +kernel⟩) (fun hs' e => by cases e; intro E n b h; cases h) (fun q fs As rest h hp hA hr => (call_V (i := i_175) (j := i_172) (C := RX6) (T := TX6) (N := 30) dX6_takes_43 mok_172 rfl ⟨by decide, by decide⟩ np_172 rfl rfl wt_1321 wt_1323 ws_24 hp hA hr rfl).thr (fun _ => True.intro))⟩
theorem ok_175_7 : BkOK mi i_175 (bpf P_175) 7 (B_175.getD 7 bk0) := ⟨50, ⟨1, s_aload_n dX6_takes_46 rfl, ⟨3, s_get (C := RX6) (T := TX6) (N := 30) dX6_takes_47 rfl (by decide) wt_1171 uw_X6, rfl⟩⟩, t_ne0 dX6_takes_50 (by decide) rfl⟩
theorem ok_175_8 : BkOK mi i_175 (bpf P_175) 8 (B_175.getD 8 bk0) := ⟨58, ⟨1, s_aload_n dX6_takes_53 rfl, ⟨3, s_get (C := RX6) (T := TX6) (N := 30) dX6_takes_54 rfl (by decide) wt_1170 uw_X6, ⟨1, s_iload_n dX6_takes_57 rfl, rfl⟩⟩⟩, t_ge dX6_takes_58 (by decide) rfl⟩
theorem ok_175_9 : BkOK mi i_175 (bpf P_175) 9 (B_175.getD 9 bk0) := ⟨64, ⟨1, s_aload_n dX6_takes_61 rfl, ⟨2, s_bipush dX6_takes_62 rfl, rfl⟩⟩, t_cv rfl mi_172 mok_172 rfl (fun _ => ⟨rfl, by decide +kernel⟩) (fun hs' e => by cases e; intro E n b h; cases h) (fun q fs As rest h hp hA hr => (call_V (i := i_175) (j := i_172) (C := RX6) (T := TX6) (N := 30) dX6_takes_64 mok_172 rfl ⟨by decide, by decide⟩ np_172 rfl rfl wt_1321 wt_1323 ws_24 hp hA hr rfl).thr (fun _ => True.intro))⟩
theorem ok_175_10 : BkOK mi i_175 (bpf P_175) 10 (B_175.getD 10 bk0) := ⟨71, ⟨1, s_aload_n dX6_takes_67 rfl, ⟨3, s_get (C := RX6) (T := TX6) (N := 30) dX6_takes_68 rfl (by decide) wt_1171 uw_X6, rfl⟩⟩, t_ne0 dX6_takes_71 (by decide) rfl⟩
theorem ok_175_11 : BkOK mi i_175 (bpf P_175) 11 (B_175.getD 11 bk0) := ⟨78, ⟨1, s_aload_n dX6_takes_74 rfl, ⟨3, s_get (C := RX6) (T := TX6) (N := 30) dX6_takes_75 rfl (by decide) wt_1170 uw_X6, rfl⟩⟩, t_go dX6_takes_78 (by decide)⟩
theorem ok_175_12 : BkOK mi i_175 (bpf P_175) 12 (B_175.getD 12 bk0) := ⟨82, ⟨1, s_iconst dX6_takes_81 rfl, rfl⟩, t_fall rfl⟩
theorem ok_175_13 : BkOK mi i_175 (bpf P_175) 13 (B_175.getD 13 bk0) := ⟨88, ⟨2, s_istore dX6_takes_82 (by decide), ⟨1, s_aload_n dX6_takes_84 rfl, ⟨3, s_get (C := RX6) (T := TX6) (N := 30) dX6_takes_85 rfl (by decide) wt_1171 uw_X6, rfl⟩⟩⟩, t_ne0 dX6_takes_88 (by decide) rfl⟩
theorem ok_175_14 : BkOK mi i_175 (bpf P_175) 14 (B_175.getD 14 bk0) := ⟨92, ⟨1, s_aload_n dX6_takes_91 rfl, rfl⟩, t_cv rfl mi_168 mok_168 rfl (fun _ => ⟨rfl, by decide +kernel⟩) (fun hs' e => by cases e; intro E n b h; cases h) (fun q fs As rest h hp hA hr => (call_V (i := i_175) (j := i_168) (C := RX6) (T := TX6) (N := 30) dX6_takes_92 mok_168 rfl ⟨by decide, by decide⟩ np_168 rfl rfl wt_1294 wt_1296 ws_18 hp hA hr rfl).thr (fun _ => True.intro))⟩
theorem ok_175_15 : BkOK mi i_175 (bpf P_175) 15 (B_175.getD 15 bk0) := ⟨97, ⟨2, s_iload dX6_takes_95, rfl⟩, t_ret dX6_takes_97 rfl⟩
theorem ok_175 : ∀ b, BkOK mi i_175 (bpf P_175) b (B_175.getD b bk0)
  | 0 => ok_175_0
  | 1 => ok_175_1
  | 2 => ok_175_2
  | 3 => ok_175_3
  | 4 => ok_175_4
  | 5 => ok_175_5
  | 6 => ok_175_6
  | 7 => ok_175_7
  | 8 => ok_175_8
  | 9 => ok_175_9
  | 10 => ok_175_10
  | 11 => ok_175_11
  | 12 => ok_175_12
  | 13 => ok_175_13
  | 14 => ok_175_14
  | 15 => ok_175_15
  | b + 16 => bk_none mi i_175 (bpf P_175) (b + 16)
theorem ok_176_0 : BkOK mi i_176 (bpf P_176) 0 (B_176.getD 0 bk0) := ⟨1, ⟨1, s_iload_n dX6_nameOf_0 rfl, rfl⟩, t_table dX6_nameOf_1 (by decide) (by decide) ⟨by decide, by decide⟩ (by decide +kernel)⟩
theorem ok_176_1 : BkOK mi i_176 (bpf P_176) 1 (B_176.getD 1 bk0) := ⟨54, ⟨2, s_ldcS (tx := "stretch") dX6_nameOf_52 (by decide +kernel) (by decide), rfl⟩, t_retA dX6_nameOf_54 rfl⟩
theorem ok_176_2 : BkOK mi i_176 (bpf P_176) 2 (B_176.getD 2 bk0) := ⟨57, ⟨2, s_ldcS (tx := "cross") dX6_nameOf_55 (by decide +kernel) (by decide), rfl⟩, t_retA dX6_nameOf_57 rfl⟩
theorem ok_176_3 : BkOK mi i_176 (bpf P_176) 3 (B_176.getD 3 bk0) := ⟨60, ⟨2, s_ldcS (tx := "repeat") dX6_nameOf_58 (by decide +kernel) (by decide), rfl⟩, t_retA dX6_nameOf_60 rfl⟩
theorem ok_176_4 : BkOK mi i_176 (bpf P_176) 4 (B_176.getD 4 bk0) := ⟨63, ⟨2, s_ldcS (tx := "change") dX6_nameOf_61 (by decide +kernel) (by decide), rfl⟩, t_retA dX6_nameOf_63 rfl⟩
theorem ok_176_5 : BkOK mi i_176 (bpf P_176) 5 (B_176.getD 5 bk0) := ⟨66, ⟨2, s_ldcS (tx := "jump") dX6_nameOf_64 (by decide +kernel) (by decide), rfl⟩, t_retA dX6_nameOf_66 rfl⟩
theorem ok_176_6 : BkOK mi i_176 (bpf P_176) 6 (B_176.getD 6 bk0) := ⟨69, ⟨2, s_ldcS (tx := "black") dX6_nameOf_67 (by decide +kernel) (by decide), rfl⟩, t_retA dX6_nameOf_69 rfl⟩
theorem ok_176_7 : BkOK mi i_176 (bpf P_176) 7 (B_176.getD 7 bk0) := ⟨72, ⟨2, s_ldcS (tx := "weak") dX6_nameOf_70 (by decide +kernel) (by decide), rfl⟩, t_retA dX6_nameOf_72 rfl⟩
theorem ok_176_8 : BkOK mi i_176 (bpf P_176) 8 (B_176.getD 8 bk0) := ⟨75, ⟨2, s_ldcS (tx := "ease") dX6_nameOf_73 (by decide +kernel) (by decide), rfl⟩, t_retA dX6_nameOf_75 rfl⟩
theorem ok_176_9 : BkOK mi i_176 (bpf P_176) 9 (B_176.getD 9 bk0) := ⟨78, ⟨2, s_ldcS (tx := "free") dX6_nameOf_76 (by decide +kernel) (by decide), rfl⟩, t_retA dX6_nameOf_78 rfl⟩
theorem ok_176_10 : BkOK mi i_176 (bpf P_176) 10 (B_176.getD 10 bk0) := ⟨81, ⟨2, s_ldcS (tx := "reach") dX6_nameOf_79 (by decide +kernel) (by decide), rfl⟩, t_retA dX6_nameOf_81 rfl⟩
theorem ok_176 : ∀ b, BkOK mi i_176 (bpf P_176) b (B_176.getD b bk0)
  | 0 => ok_176_0
  | 1 => ok_176_1
  | 2 => ok_176_2
  | 3 => ok_176_3
  | 4 => ok_176_4
  | 5 => ok_176_5
  | 6 => ok_176_6
  | 7 => ok_176_7
  | 8 => ok_176_8
  | 9 => ok_176_9
  | 10 => ok_176_10
  | b + 11 => bk_none mi i_176 (bpf P_176) (b + 11)
theorem ok_177_0 : BkOK mi i_177 (bpf P_177) 0 (B_177.getD 0 bk0) := ⟨2, ⟨1, s_aload_n dX6_readsWeight_0 rfl, ⟨1, s_iconst dX6_readsWeight_1 rfl, rfl⟩⟩, t_cv rfl mi_173 mok_173 rfl (fun _ => ⟨rfl, by decide +kernel⟩) (fun hs' e => by cases e; intro E n b h; cases h) (fun q fs As rest h hp hA hr => (call_V (i := i_177) (j := i_173) (C := RX6) (T := TX6) (N := 30) dX6_readsWeight_2 mok_173 rfl ⟨by decide, by decide⟩ np_173 rfl rfl wt_1317 wt_1319 ws_23 hp hA hr rfl).thr (fun _ => True.intro))⟩
theorem ok_177_1 : BkOK mi i_177 (bpf P_177) 1 (B_177.getD 1 bk0) := ⟨7, ⟨1, s_iconst dX6_readsWeight_5 rfl, ⟨1, s_istore_n dX6_readsWeight_6 rfl (by decide), rfl⟩⟩, t_fall rfl⟩
theorem ok_177_2 : BkOK mi i_177 (bpf P_177) 2 (B_177.getD 2 bk0) := ⟨10, ⟨1, s_iload_n dX6_readsWeight_7 rfl, ⟨2, s_bipush dX6_readsWeight_8 rfl, rfl⟩⟩, t_ge dX6_readsWeight_10 (by decide) rfl⟩
theorem ok_177_3 : BkOK mi i_177 (bpf P_177) 3 (B_177.getD 3 bk0) := ⟨15, ⟨1, s_aload_n dX6_readsWeight_13 rfl, ⟨1, s_iload_n dX6_readsWeight_14 rfl, rfl⟩⟩, t_cs rfl mi_176 mok_176 rfl (fun As rest h hA hr => call_S dX6_readsWeight_15 mok_176 rfl ⟨by decide, by decide⟩ np_176 wt_1336 wt_1337 hA hr)⟩
theorem ok_177_4 : BkOK mi i_177 (bpf P_177) 4 (B_177.getD 4 bk0) := ⟨18, rfl, t_cv rfl mi_171 mok_171 rfl (fun _ => ⟨rfl, by decide +kernel⟩) (fun hs' e => by cases e; intro E n b h; cases h) (fun q fs As rest h hp hA hr => (call_V (i := i_177) (j := i_171) (C := RX6) (T := TX6) (N := 30) dX6_readsWeight_18 mok_171 rfl ⟨by decide, by decide⟩ np_171 rfl rfl wt_1311 wt_1313 ws_22 hp hA hr rfl).thr (fun _ => True.intro))⟩
theorem ok_177_5 : BkOK mi i_177 (bpf P_177) 5 (B_177.getD 5 bk0) := ⟨21, rfl, t_ne0 dX6_readsWeight_21 (by decide) rfl⟩
theorem ok_177_6 : BkOK mi i_177 (bpf P_177) 6 (B_177.getD 6 bk0) := ⟨27, ⟨3, s_iinc dX6_readsWeight_24 rfl (by decide), rfl⟩, t_go dX6_readsWeight_27 (by decide)⟩
theorem ok_177_7 : BkOK mi i_177 (bpf P_177) 7 (B_177.getD 7 bk0) := ⟨34, ⟨1, s_aload_n dX6_readsWeight_30 rfl, ⟨1, s_iload_n dX6_readsWeight_31 rfl, ⟨2, s_bipush dX6_readsWeight_32 rfl, rfl⟩⟩⟩, t_ge dX6_readsWeight_34 (by decide) rfl⟩
theorem ok_177_8 : BkOK mi i_177 (bpf P_177) 8 (B_177.getD 8 bk0) := ⟨38, ⟨1, s_iconst dX6_readsWeight_37 rfl, rfl⟩, t_go dX6_readsWeight_38 (by decide)⟩
theorem ok_177_9 : BkOK mi i_177 (bpf P_177) 9 (B_177.getD 9 bk0) := ⟨42, ⟨1, s_iconst dX6_readsWeight_41 rfl, rfl⟩, t_fall rfl⟩
theorem ok_177_10 : BkOK mi i_177 (bpf P_177) 10 (B_177.getD 10 bk0) := ⟨42, rfl, t_cv rfl mi_173 mok_173 rfl (fun _ => ⟨rfl, by decide +kernel⟩) (fun hs' e => by cases e; intro E n b h; cases h) (fun q fs As rest h hp hA hr => (call_V (i := i_177) (j := i_173) (C := RX6) (T := TX6) (N := 30) dX6_readsWeight_42 mok_173 rfl ⟨by decide, by decide⟩ np_173 rfl rfl wt_1317 wt_1319 ws_23 hp hA hr rfl).thr (fun _ => True.intro))⟩
theorem ok_177_11 : BkOK mi i_177 (bpf P_177) 11 (B_177.getD 11 bk0) := ⟨50, ⟨1, s_aload_n dX6_readsWeight_45 rfl, ⟨1, s_iconst dX6_readsWeight_46 rfl, ⟨2, s_bipush dX6_readsWeight_47 rfl, ⟨1, s_iconst dX6_readsWeight_49 rfl, rfl⟩⟩⟩⟩, t_cv rfl mi_175 mok_175 rfl (fun _ => ⟨rfl, by decide +kernel⟩) (fun hs' e => by cases e; intro E n b h; cases h) (fun q fs As rest h hp hA hr => (call_V (i := i_177) (j := i_175) (C := RX6) (T := TX6) (N := 30) dX6_readsWeight_50 mok_175 rfl ⟨by decide, by decide⟩ np_175 rfl rfl wt_1349 wt_1351 ws_27 hp hA hr rfl).thr (fun _ => True.intro))⟩
theorem ok_177_12 : BkOK mi i_177 (bpf P_177) 12 (B_177.getD 12 bk0) := ⟨55, ⟨1, s_istore_n dX6_readsWeight_53 rfl (by decide), ⟨1, s_aload_n dX6_readsWeight_54 rfl, rfl⟩⟩, t_cv rfl mi_174 mok_174 rfl (fun _ => ⟨rfl, by decide +kernel⟩) (fun hs' e => by cases e; intro E n b h; cases h) (fun q fs As rest h hp hA hr => (call_V (i := i_177) (j := i_174) (C := RX6) (T := TX6) (N := 30) dX6_readsWeight_55 mok_174 rfl ⟨by decide, by decide⟩ np_174 rfl rfl wt_1327 wt_1329 ws_25 hp hA hr rfl).thr (fun _ => True.intro))⟩
theorem ok_177_13 : BkOK mi i_177 (bpf P_177) 13 (B_177.getD 13 bk0) := ⟨62, ⟨1, s_aload_n dX6_readsWeight_58 rfl, ⟨3, s_get (C := RX6) (T := TX6) (N := 30) dX6_readsWeight_59 rfl (by decide) wt_1171 uw_X6, rfl⟩⟩, t_ne0 dX6_readsWeight_62 (by decide) rfl⟩
theorem ok_177_14 : BkOK mi i_177 (bpf P_177) 14 (B_177.getD 14 bk0) := ⟨74, ⟨1, s_aload_n dX6_readsWeight_65 rfl, ⟨3, s_get (C := RX6) (T := TX6) (N := 30) dX6_readsWeight_66 rfl (by decide) wt_1157 uw_X6, ⟨1, s_iconst dX6_readsWeight_69 rfl, ⟨1, s_iload_n dX6_readsWeight_70 rfl, ⟨1, s_iadd dX6_readsWeight_71, ⟨1, s_iload_n dX6_readsWeight_72 rfl, ⟨1, s_iast dX6_readsWeight_73, rfl⟩⟩⟩⟩⟩⟩⟩, t_fall rfl⟩
theorem ok_177_15 : BkOK mi i_177 (bpf P_177) 15 (B_177.getD 15 bk0) := ⟨74, rfl, t_retV dX6_readsWeight_74 rfl⟩
theorem ok_177 : ∀ b, BkOK mi i_177 (bpf P_177) b (B_177.getD b bk0)
  | 0 => ok_177_0
  | 1 => ok_177_1
  | 2 => ok_177_2
  | 3 => ok_177_3
  | 4 => ok_177_4
  | 5 => ok_177_5
  | 6 => ok_177_6
  | 7 => ok_177_7
  | 8 => ok_177_8
  | 9 => ok_177_9
  | 10 => ok_177_10
  | 11 => ok_177_11
  | 12 => ok_177_12
  | 13 => ok_177_13
  | 14 => ok_177_14
  | 15 => ok_177_15
  | b + 16 => bk_none mi i_177 (bpf P_177) (b + 16)
theorem ok_178_0 : BkOK mi i_178 (bpf P_178) 0 (B_178.getD 0 bk0) := ⟨2, ⟨1, s_aload_n dX6_readsSpan_0 rfl, ⟨1, s_iconst dX6_readsSpan_1 rfl, rfl⟩⟩, t_cv rfl mi_173 mok_173 rfl (fun _ => ⟨rfl, by decide +kernel⟩) (fun hs' e => by cases e; intro E n b h; cases h) (fun q fs As rest h hp hA hr => (call_V (i := i_178) (j := i_173) (C := RX6) (T := TX6) (N := 30) dX6_readsSpan_2 mok_173 rfl ⟨by decide, by decide⟩ np_173 rfl rfl wt_1317 wt_1319 ws_23 hp hA hr rfl).thr (fun _ => True.intro))⟩
theorem ok_178_1 : BkOK mi i_178 (bpf P_178) 1 (B_178.getD 1 bk0) := ⟨9, ⟨1, s_aload_n dX6_readsSpan_5 rfl, ⟨1, s_iconst dX6_readsSpan_6 rfl, ⟨1, s_iconst dX6_readsSpan_7 rfl, ⟨1, s_iconst dX6_readsSpan_8 rfl, rfl⟩⟩⟩⟩, t_cv rfl mi_175 mok_175 rfl (fun _ => ⟨rfl, by decide +kernel⟩) (fun hs' e => by cases e; intro E n b h; cases h) (fun q fs As rest h hp hA hr => (call_V (i := i_178) (j := i_175) (C := RX6) (T := TX6) (N := 30) dX6_readsSpan_9 mok_175 rfl ⟨by decide, by decide⟩ np_175 rfl rfl wt_1349 wt_1351 ws_27 hp hA hr rfl).thr (fun _ => True.intro))⟩
theorem ok_178_2 : BkOK mi i_178 (bpf P_178) 2 (B_178.getD 2 bk0) := ⟨19, ⟨1, s_istore_n dX6_readsSpan_12 rfl (by decide), ⟨1, s_aload_n dX6_readsSpan_13 rfl, ⟨1, s_iconst dX6_readsSpan_14 rfl, ⟨1, s_iconst dX6_readsSpan_15 rfl, ⟨1, s_iload_n dX6_readsSpan_16 rfl, ⟨1, s_iconst dX6_readsSpan_17 rfl, ⟨1, s_iadd dX6_readsSpan_18, rfl⟩⟩⟩⟩⟩⟩⟩, t_cv rfl mi_175 mok_175 rfl (fun _ => ⟨rfl, by decide +kernel⟩) (fun hs' e => by cases e; intro E n b h; cases h) (fun q fs As rest h hp hA hr => (call_V (i := i_178) (j := i_175) (C := RX6) (T := TX6) (N := 30) dX6_readsSpan_19 mok_175 rfl ⟨by decide, by decide⟩ np_175 rfl rfl wt_1349 wt_1351 ws_27 hp hA hr rfl).thr (fun _ => True.intro))⟩
theorem ok_178_3 : BkOK mi i_178 (bpf P_178) 3 (B_178.getD 3 bk0) := ⟨28, ⟨1, s_istore_n dX6_readsSpan_22 rfl (by decide), ⟨1, s_aload_n dX6_readsSpan_23 rfl, ⟨1, s_iconst dX6_readsSpan_24 rfl, ⟨2, s_bipush dX6_readsSpan_25 rfl, ⟨1, s_iconst dX6_readsSpan_27 rfl, rfl⟩⟩⟩⟩⟩, t_cv rfl mi_175 mok_175 rfl (fun _ => ⟨rfl, by decide +kernel⟩) (fun hs' e => by cases e; intro E n b h; cases h) (fun q fs As rest h hp hA hr => (call_V (i := i_178) (j := i_175) (C := RX6) (T := TX6) (N := 30) dX6_readsSpan_28 mok_175 rfl ⟨by decide, by decide⟩ np_175 rfl rfl wt_1349 wt_1351 ws_27 hp hA hr rfl).thr (fun _ => True.intro))⟩
theorem ok_178_4 : BkOK mi i_178 (bpf P_178) 4 (B_178.getD 4 bk0) := ⟨37, ⟨1, s_istore_n dX6_readsSpan_31 rfl (by decide), ⟨1, s_aload_n dX6_readsSpan_32 rfl, ⟨1, s_iconst dX6_readsSpan_33 rfl, ⟨2, s_bipush dX6_readsSpan_34 rfl, ⟨1, s_iload_n dX6_readsSpan_36 rfl, rfl⟩⟩⟩⟩⟩, t_cv rfl mi_175 mok_175 rfl (fun _ => ⟨rfl, by decide +kernel⟩) (fun hs' e => by cases e; intro E n b h; cases h) (fun q fs As rest h hp hA hr => (call_V (i := i_178) (j := i_175) (C := RX6) (T := TX6) (N := 30) dX6_readsSpan_37 mok_175 rfl ⟨by decide, by decide⟩ np_175 rfl rfl wt_1349 wt_1351 ws_27 hp hA hr rfl).thr (fun _ => True.intro))⟩
theorem ok_178_5 : BkOK mi i_178 (bpf P_178) 5 (B_178.getD 5 bk0) := ⟨48, ⟨2, s_istore dX6_readsSpan_40 (by decide), ⟨1, s_aload_n dX6_readsSpan_42 rfl, ⟨1, s_iconst dX6_readsSpan_43 rfl, ⟨2, s_bipush dX6_readsSpan_44 rfl, ⟨2, s_iload dX6_readsSpan_46, rfl⟩⟩⟩⟩⟩, t_cv rfl mi_175 mok_175 rfl (fun _ => ⟨rfl, by decide +kernel⟩) (fun hs' e => by cases e; intro E n b h; cases h) (fun q fs As rest h hp hA hr => (call_V (i := i_178) (j := i_175) (C := RX6) (T := TX6) (N := 30) dX6_readsSpan_48 mok_175 rfl ⟨by decide, by decide⟩ np_175 rfl rfl wt_1349 wt_1351 ws_27 hp hA hr rfl).thr (fun _ => True.intro))⟩
theorem ok_178_6 : BkOK mi i_178 (bpf P_178) 6 (B_178.getD 6 bk0) := ⟨54, ⟨2, s_istore dX6_readsSpan_51 (by decide), ⟨1, s_aload_n dX6_readsSpan_53 rfl, rfl⟩⟩, t_cv rfl mi_174 mok_174 rfl (fun _ => ⟨rfl, by decide +kernel⟩) (fun hs' e => by cases e; intro E n b h; cases h) (fun q fs As rest h hp hA hr => (call_V (i := i_178) (j := i_174) (C := RX6) (T := TX6) (N := 30) dX6_readsSpan_54 mok_174 rfl ⟨by decide, by decide⟩ np_174 rfl rfl wt_1327 wt_1329 ws_25 hp hA hr rfl).thr (fun _ => True.intro))⟩
theorem ok_178_7 : BkOK mi i_178 (bpf P_178) 7 (B_178.getD 7 bk0) := ⟨61, ⟨1, s_aload_n dX6_readsSpan_57 rfl, ⟨3, s_get (C := RX6) (T := TX6) (N := 30) dX6_readsSpan_58 rfl (by decide) wt_1171 uw_X6, rfl⟩⟩, t_ne0 dX6_readsSpan_61 (by decide) rfl⟩
theorem ok_178_8 : BkOK mi i_178 (bpf P_178) 8 (B_178.getD 8 bk0) := ⟨72, ⟨1, s_aload_n dX6_readsSpan_64 rfl, ⟨1, s_iload_n dX6_readsSpan_65 rfl, ⟨1, s_iload_n dX6_readsSpan_66 rfl, ⟨1, s_iload_n dX6_readsSpan_67 rfl, ⟨2, s_iload dX6_readsSpan_68, ⟨2, s_iload dX6_readsSpan_70, rfl⟩⟩⟩⟩⟩⟩, t_cv rfl mi_153 mok_153 rfl (fun _ => ⟨rfl, by decide +kernel⟩) (fun hs' e => by cases e; intro E n b h; cases h) (fun q fs As rest h hp hA hr => (call_V (i := i_178) (j := i_153) (C := RX6) (T := TX6) (N := 30) dX6_readsSpan_72 mok_153 rfl ⟨by decide, by decide⟩ np_153 rfl rfl wt_1148 wt_1150 ws_14 hp hA hr rfl).thr (fun _ => True.intro))⟩
theorem ok_178_9 : BkOK mi i_178 (bpf P_178) 9 (B_178.getD 9 bk0) := ⟨75, rfl, t_retV dX6_readsSpan_75 rfl⟩
theorem ok_178 : ∀ b, BkOK mi i_178 (bpf P_178) b (B_178.getD b bk0)
  | 0 => ok_178_0
  | 1 => ok_178_1
  | 2 => ok_178_2
  | 3 => ok_178_3
  | 4 => ok_178_4
  | 5 => ok_178_5
  | 6 => ok_178_6
  | 7 => ok_178_7
  | 8 => ok_178_8
  | 9 => ok_178_9
  | b + 10 => bk_none mi i_178 (bpf P_178) (b + 10)
theorem ok_179_0 : BkOK mi i_179 (bpf P_179) 0 (B_179.getD 0 bk0) := ⟨1, ⟨1, s_aload_n dX6_readsEvent_0 rfl, rfl⟩, t_cv rfl mi_182 mok_182 rfl (fun _ => ⟨rfl, by decide +kernel⟩) (fun hs' e => by cases e; intro E n b h; cases h) (fun q fs As rest h hp hA hr => (call_V (i := i_179) (j := i_182) (C := RX6) (T := TX6) (N := 30) dX6_readsEvent_1 mok_182 rfl ⟨by decide, by decide⟩ np_182 rfl rfl wt_1275 wt_1277 ws_16 hp hA hr rfl).thr (fun _ => True.intro))⟩
theorem ok_179_1 : BkOK mi i_179 (bpf P_179) 1 (B_179.getD 1 bk0) := ⟨6, ⟨2, s_bipush dX6_readsEvent_4 rfl, rfl⟩, t_nei dX6_readsEvent_6 (by decide) rfl⟩
theorem ok_179_2 : BkOK mi i_179 (bpf P_179) 2 (B_179.getD 2 bk0) := ⟨12, ⟨1, s_aload_n dX6_readsEvent_9 rfl, ⟨2, s_bipush dX6_readsEvent_10 rfl, rfl⟩⟩, t_cv rfl mi_172 mok_172 rfl (fun _ => ⟨rfl, by decide +kernel⟩) (fun hs' e => by cases e; intro E n b h; cases h) (fun q fs As rest h hp hA hr => (call_V (i := i_179) (j := i_172) (C := RX6) (T := TX6) (N := 30) dX6_readsEvent_12 mok_172 rfl ⟨by decide, by decide⟩ np_172 rfl rfl wt_1321 wt_1323 ws_24 hp hA hr rfl).thr (fun _ => True.intro))⟩
theorem ok_179_3 : BkOK mi i_179 (bpf P_179) 3 (B_179.getD 3 bk0) := ⟨19, ⟨1, s_aload_n dX6_readsEvent_15 rfl, ⟨3, s_get (C := RX6) (T := TX6) (N := 30) dX6_readsEvent_16 rfl (by decide) wt_1171 uw_X6, rfl⟩⟩, t_eq0 dX6_readsEvent_19 (by decide) rfl⟩
theorem ok_179_4 : BkOK mi i_179 (bpf P_179) 4 (B_179.getD 4 bk0) := ⟨22, rfl, t_retV dX6_readsEvent_22 rfl⟩
theorem ok_179_5 : BkOK mi i_179 (bpf P_179) 5 (B_179.getD 5 bk0) := ⟨25, ⟨1, s_aload_n dX6_readsEvent_23 rfl, ⟨1, s_iconst dX6_readsEvent_24 rfl, rfl⟩⟩, t_cv rfl mi_173 mok_173 rfl (fun _ => ⟨rfl, by decide +kernel⟩) (fun hs' e => by cases e; intro E n b h; cases h) (fun q fs As rest h hp hA hr => (call_V (i := i_179) (j := i_173) (C := RX6) (T := TX6) (N := 30) dX6_readsEvent_25 mok_173 rfl ⟨by decide, by decide⟩ np_173 rfl rfl wt_1317 wt_1319 ws_23 hp hA hr rfl).thr (fun _ => True.intro))⟩
theorem ok_179_6 : BkOK mi i_179 (bpf P_179) 6 (B_179.getD 6 bk0) := ⟨33, ⟨2, s_bipush dX6_readsEvent_28 rfl, ⟨2, s_bipush dX6_readsEvent_30 rfl, ⟨1, s_aload_n dX6_readsEvent_32 rfl, rfl⟩⟩⟩, t_cv rfl mi_182 mok_182 rfl (fun _ => ⟨rfl, by decide +kernel⟩) (fun hs' e => by cases e; intro E n b h; cases h) (fun q fs As rest h hp hA hr => (call_V (i := i_179) (j := i_182) (C := RX6) (T := TX6) (N := 30) dX6_readsEvent_33 mok_182 rfl ⟨by decide, by decide⟩ np_182 rfl rfl wt_1275 wt_1277 ws_16 hp hA hr rfl).thr (fun _ => True.intro))⟩
theorem ok_179_7 : BkOK mi i_179 (bpf P_179) 7 (B_179.getD 7 bk0) := ⟨50, ⟨1, s_imul dX6_readsEvent_36, ⟨1, s_iadd dX6_readsEvent_37, ⟨1, s_istore_n dX6_readsEvent_38 rfl (by decide), ⟨1, s_iconst dX6_readsEvent_39 rfl, ⟨1, s_istore_n dX6_readsEvent_40 rfl (by decide), ⟨1, s_aload_n dX6_readsEvent_41 rfl, ⟨3, s_get (C := RX6) (T := TX6) (N := 30) dX6_readsEvent_42 rfl (by decide) wt_1157 uw_X6, ⟨1, s_iload_n dX6_readsEvent_45 rfl, ⟨1, s_iconst dX6_readsEvent_46 rfl, ⟨1, s_iadd dX6_readsEvent_47, ⟨1, s_iconst dX6_readsEvent_48 rfl, ⟨1, s_iast dX6_readsEvent_49, rfl⟩⟩⟩⟩⟩⟩⟩⟩⟩⟩⟩⟩, t_fall rfl⟩
theorem ok_179_8 : BkOK mi i_179 (bpf P_179) 8 (B_179.getD 8 bk0) := ⟨52, ⟨1, s_iload_n dX6_readsEvent_50 rfl, ⟨1, s_iconst dX6_readsEvent_51 rfl, rfl⟩⟩, t_nei dX6_readsEvent_52 (by decide) rfl⟩
theorem ok_179_9 : BkOK mi i_179 (bpf P_179) 9 (B_179.getD 9 bk0) := ⟨58, ⟨1, s_aload_n dX6_readsEvent_55 rfl, ⟨2, s_bipush dX6_readsEvent_56 rfl, rfl⟩⟩, t_cv rfl mi_172 mok_172 rfl (fun _ => ⟨rfl, by decide +kernel⟩) (fun hs' e => by cases e; intro E n b h; cases h) (fun q fs As rest h hp hA hr => (call_V (i := i_179) (j := i_172) (C := RX6) (T := TX6) (N := 30) dX6_readsEvent_58 mok_172 rfl ⟨by decide, by decide⟩ np_172 rfl rfl wt_1321 wt_1323 ws_24 hp hA hr rfl).thr (fun _ => True.intro))⟩
theorem ok_179_10 : BkOK mi i_179 (bpf P_179) 10 (B_179.getD 10 bk0) := ⟨67, ⟨1, s_aload_n dX6_readsEvent_61 rfl, ⟨2, s_bipush dX6_readsEvent_62 rfl, ⟨2, s_bipush dX6_readsEvent_64 rfl, ⟨1, s_iload_n dX6_readsEvent_66 rfl, rfl⟩⟩⟩⟩, t_ne0 dX6_readsEvent_67 (by decide) rfl⟩
theorem ok_179_11 : BkOK mi i_179 (bpf P_179) 11 (B_179.getD 11 bk0) := ⟨72, ⟨2, s_bipush dX6_readsEvent_70 rfl, rfl⟩, t_go dX6_readsEvent_72 (by decide)⟩
theorem ok_179_12 : BkOK mi i_179 (bpf P_179) 12 (B_179.getD 12 bk0) := ⟨87, ⟨1, s_aload_n dX6_readsEvent_75 rfl, ⟨3, s_get (C := RX6) (T := TX6) (N := 30) dX6_readsEvent_76 rfl (by decide) wt_1157 uw_X6, ⟨1, s_iload_n dX6_readsEvent_79 rfl, ⟨1, s_iconst dX6_readsEvent_80 rfl, ⟨1, s_iadd dX6_readsEvent_81, ⟨1, s_iload_n dX6_readsEvent_82 rfl, ⟨1, s_iadd dX6_readsEvent_83, ⟨1, s_iald dX6_readsEvent_84, ⟨1, s_iconst dX6_readsEvent_85 rfl, ⟨1, s_iadd dX6_readsEvent_86, rfl⟩⟩⟩⟩⟩⟩⟩⟩⟩⟩, t_fall rfl⟩
theorem ok_179_13 : BkOK mi i_179 (bpf P_179) 13 (B_179.getD 13 bk0) := ⟨87, rfl, t_cv rfl mi_175 mok_175 rfl (fun _ => ⟨rfl, by decide +kernel⟩) (fun hs' e => by cases e; intro E n b h; cases h) (fun q fs As rest h hp hA hr => (call_V (i := i_179) (j := i_175) (C := RX6) (T := TX6) (N := 30) dX6_readsEvent_87 mok_175 rfl ⟨by decide, by decide⟩ np_175 rfl rfl wt_1349 wt_1351 ws_27 hp hA hr rfl).thr (fun _ => True.intro))⟩
theorem ok_179_14 : BkOK mi i_179 (bpf P_179) 14 (B_179.getD 14 bk0) := ⟨95, ⟨1, s_istore_n dX6_readsEvent_90 rfl (by decide), ⟨1, s_aload_n dX6_readsEvent_91 rfl, ⟨3, s_get (C := RX6) (T := TX6) (N := 30) dX6_readsEvent_92 rfl (by decide) wt_1171 uw_X6, rfl⟩⟩⟩, t_eq0 dX6_readsEvent_95 (by decide) rfl⟩
theorem ok_179_15 : BkOK mi i_179 (bpf P_179) 15 (B_179.getD 15 bk0) := ⟨98, rfl, t_retV dX6_readsEvent_98 rfl⟩
theorem ok_179_16 : BkOK mi i_179 (bpf P_179) 16 (B_179.getD 16 bk0) := ⟨130, ⟨1, s_aload_n dX6_readsEvent_99 rfl, ⟨3, s_get (C := RX6) (T := TX6) (N := 30) dX6_readsEvent_100 rfl (by decide) wt_1157 uw_X6, ⟨1, s_iload_n dX6_readsEvent_103 rfl, ⟨1, s_iconst dX6_readsEvent_104 rfl, ⟨1, s_iadd dX6_readsEvent_105, ⟨1, s_iload_n dX6_readsEvent_106 rfl, ⟨1, s_iadd dX6_readsEvent_107, ⟨1, s_iload_n dX6_readsEvent_108 rfl, ⟨1, s_iast dX6_readsEvent_109, ⟨1, s_aload_n dX6_readsEvent_110 rfl, ⟨3, s_get (C := RX6) (T := TX6) (N := 30) dX6_readsEvent_111 rfl (by decide) wt_1157 uw_X6, ⟨1, s_iload_n dX6_readsEvent_114 rfl, ⟨1, s_iconst dX6_readsEvent_115 rfl, ⟨1, s_iadd dX6_readsEvent_116, ⟨1, s_iload_n dX6_readsEvent_117 rfl, ⟨1, s_iadd dX6_readsEvent_118, ⟨2, s_bipush dX6_readsEvent_119 rfl, ⟨1, s_iast dX6_readsEvent_121, ⟨3, s_iinc dX6_readsEvent_122 rfl (by decide), ⟨1, s_aload_n dX6_readsEvent_125 rfl, ⟨3, s_get (C := RX6) (T := TX6) (N := 30) dX6_readsEvent_126 rfl (by decide) wt_1169 uw_X6, ⟨1, s_iconst dX6_readsEvent_129 rfl, rfl⟩⟩⟩⟩⟩⟩⟩⟩⟩⟩⟩⟩⟩⟩⟩⟩⟩⟩⟩⟩⟩⟩, t_eq dX6_readsEvent_130 (by decide) rfl⟩
theorem ok_179_17 : BkOK mi i_179 (bpf P_179) 17 (B_179.getD 17 bk0) := ⟨143, ⟨1, s_aload_n dX6_readsEvent_133 rfl, ⟨3, s_get (C := RX6) (T := TX6) (N := 30) dX6_readsEvent_134 rfl (by decide) wt_1157 uw_X6, ⟨1, s_iload_n dX6_readsEvent_137 rfl, ⟨1, s_iload_n dX6_readsEvent_138 rfl, ⟨1, s_iast dX6_readsEvent_139, ⟨1, s_aload_n dX6_readsEvent_140 rfl, ⟨2, s_ldcS (tx := "rest") dX6_readsEvent_141 (by decide +kernel) (by decide), rfl⟩⟩⟩⟩⟩⟩⟩, t_cv rfl mi_171 mok_171 rfl (fun _ => ⟨rfl, by decide +kernel⟩) (fun hs' e => by cases e; intro E n b h; cases h) (fun q fs As rest h hp hA hr => (call_V (i := i_179) (j := i_171) (C := RX6) (T := TX6) (N := 30) dX6_readsEvent_143 mok_171 rfl ⟨by decide, by decide⟩ np_171 rfl rfl wt_1311 wt_1313 ws_22 hp hA hr rfl).thr (fun _ => True.intro))⟩
theorem ok_179_18 : BkOK mi i_179 (bpf P_179) 18 (B_179.getD 18 bk0) := ⟨146, rfl, t_eq0 dX6_readsEvent_146 (by decide) rfl⟩
theorem ok_179_19 : BkOK mi i_179 (bpf P_179) 19 (B_179.getD 19 bk0) := ⟨150, ⟨1, s_aload_n dX6_readsEvent_149 rfl, rfl⟩, t_cv rfl mi_168 mok_168 rfl (fun _ => ⟨rfl, by decide +kernel⟩) (fun hs' e => by cases e; intro E n b h; cases h) (fun q fs As rest h hp hA hr => (call_V (i := i_179) (j := i_168) (C := RX6) (T := TX6) (N := 30) dX6_readsEvent_150 mok_168 rfl ⟨by decide, by decide⟩ np_168 rfl rfl wt_1294 wt_1296 ws_18 hp hA hr rfl).thr (fun _ => True.intro))⟩
theorem ok_179_20 : BkOK mi i_179 (bpf P_179) 20 (B_179.getD 20 bk0) := ⟨165, ⟨1, s_aload_n dX6_readsEvent_153 rfl, ⟨3, s_get (C := RX6) (T := TX6) (N := 30) dX6_readsEvent_154 rfl (by decide) wt_1157 uw_X6, ⟨1, s_iload_n dX6_readsEvent_157 rfl, ⟨1, s_iconst dX6_readsEvent_158 rfl, ⟨1, s_iadd dX6_readsEvent_159, ⟨1, s_aload_n dX6_readsEvent_160 rfl, ⟨1, s_iconst dX6_readsEvent_161 rfl, ⟨2, s_bipush dX6_readsEvent_162 rfl, ⟨1, s_iconst dX6_readsEvent_164 rfl, rfl⟩⟩⟩⟩⟩⟩⟩⟩⟩, t_cv rfl mi_175 mok_175 rfl (fun _ => ⟨rfl, by decide +kernel⟩) (fun hs' e => by cases e; intro E n b h; cases h) (fun q fs As rest h hp hA hr => (call_V (i := i_179) (j := i_175) (C := RX6) (T := TX6) (N := 30) dX6_readsEvent_165 mok_175 rfl ⟨by decide, by decide⟩ np_175 rfl rfl wt_1349 wt_1351 ws_27 hp hA hr rfl).thr (fun _ => True.intro))⟩
theorem ok_179_21 : BkOK mi i_179 (bpf P_179) 21 (B_179.getD 21 bk0) := ⟨169, ⟨1, s_iast dX6_readsEvent_168, rfl⟩, t_fall rfl⟩
theorem ok_179_22 : BkOK mi i_179 (bpf P_179) 22 (B_179.getD 22 bk0) := ⟨172, ⟨1, s_aload_n dX6_readsEvent_169 rfl, ⟨2, s_ldcS (tx := "by") dX6_readsEvent_170 (by decide +kernel) (by decide), rfl⟩⟩, t_cv rfl mi_171 mok_171 rfl (fun _ => ⟨rfl, by decide +kernel⟩) (fun hs' e => by cases e; intro E n b h; cases h) (fun q fs As rest h hp hA hr => (call_V (i := i_179) (j := i_171) (C := RX6) (T := TX6) (N := 30) dX6_readsEvent_172 mok_171 rfl ⟨by decide, by decide⟩ np_171 rfl rfl wt_1311 wt_1313 ws_22 hp hA hr rfl).thr (fun _ => True.intro))⟩
theorem ok_179_23 : BkOK mi i_179 (bpf P_179) 23 (B_179.getD 23 bk0) := ⟨175, rfl, t_eq0 dX6_readsEvent_175 (by decide) rfl⟩
theorem ok_179_24 : BkOK mi i_179 (bpf P_179) 24 (B_179.getD 24 bk0) := ⟨179, ⟨1, s_aload_n dX6_readsEvent_178 rfl, rfl⟩, t_cv rfl mi_168 mok_168 rfl (fun _ => ⟨rfl, by decide +kernel⟩) (fun hs' e => by cases e; intro E n b h; cases h) (fun q fs As rest h hp hA hr => (call_V (i := i_179) (j := i_168) (C := RX6) (T := TX6) (N := 30) dX6_readsEvent_179 mok_168 rfl ⟨by decide, by decide⟩ np_168 rfl rfl wt_1294 wt_1296 ws_18 hp hA hr rfl).thr (fun _ => True.intro))⟩
theorem ok_179_25 : BkOK mi i_179 (bpf P_179) 25 (B_179.getD 25 bk0) := ⟨184, ⟨1, s_iconst dX6_readsEvent_182 rfl, ⟨1, s_istore_n dX6_readsEvent_183 rfl (by decide), rfl⟩⟩, t_fall rfl⟩
theorem ok_179_26 : BkOK mi i_179 (bpf P_179) 26 (B_179.getD 26 bk0) := ⟨186, ⟨1, s_iload_n dX6_readsEvent_184 rfl, ⟨1, s_iload_n dX6_readsEvent_185 rfl, rfl⟩⟩, t_ge dX6_readsEvent_186 (by decide) rfl⟩
theorem ok_179_27 : BkOK mi i_179 (bpf P_179) 27 (B_179.getD 27 bk0) := ⟨193, ⟨1, s_aload_n dX6_readsEvent_189 rfl, ⟨1, s_iconst dX6_readsEvent_190 rfl, ⟨1, s_iconst dX6_readsEvent_191 rfl, ⟨1, s_iconst dX6_readsEvent_192 rfl, rfl⟩⟩⟩⟩, t_cv rfl mi_175 mok_175 rfl (fun _ => ⟨rfl, by decide +kernel⟩) (fun hs' e => by cases e; intro E n b h; cases h) (fun q fs As rest h hp hA hr => (call_V (i := i_179) (j := i_175) (C := RX6) (T := TX6) (N := 30) dX6_readsEvent_193 mok_175 rfl ⟨by decide, by decide⟩ np_175 rfl rfl wt_1349 wt_1351 ws_27 hp hA hr rfl).thr (fun _ => True.intro))⟩
theorem ok_179_28 : BkOK mi i_179 (bpf P_179) 28 (B_179.getD 28 bk0) := ⟨209, ⟨2, s_istore dX6_readsEvent_196 (by decide), ⟨1, s_aload_n dX6_readsEvent_198 rfl, ⟨3, s_get (C := RX6) (T := TX6) (N := 30) dX6_readsEvent_199 rfl (by decide) wt_1157 uw_X6, ⟨1, s_iload_n dX6_readsEvent_202 rfl, ⟨1, s_iconst dX6_readsEvent_203 rfl, ⟨1, s_iadd dX6_readsEvent_204, ⟨1, s_iload_n dX6_readsEvent_205 rfl, ⟨1, s_iadd dX6_readsEvent_206, ⟨2, s_iload dX6_readsEvent_207, rfl⟩⟩⟩⟩⟩⟩⟩⟩⟩, t_ne0 dX6_readsEvent_209 (by decide) rfl⟩
theorem ok_179_29 : BkOK mi i_179 (bpf P_179) 29 (B_179.getD 29 bk0) := ⟨214, ⟨2, s_bipush dX6_readsEvent_212 rfl, rfl⟩, t_go dX6_readsEvent_214 (by decide)⟩
theorem ok_179_30 : BkOK mi i_179 (bpf P_179) 30 (B_179.getD 30 bk0) := ⟨223, ⟨1, s_iconst dX6_readsEvent_217 rfl, ⟨2, s_iload dX6_readsEvent_218, ⟨1, s_iconst dX6_readsEvent_220 rfl, ⟨1, s_isub dX6_readsEvent_221, ⟨1, s_ishl dX6_readsEvent_222, rfl⟩⟩⟩⟩⟩, t_fall rfl⟩
theorem ok_179_31 : BkOK mi i_179 (bpf P_179) 31 (B_179.getD 31 bk0) := ⟨227, ⟨1, s_iast dX6_readsEvent_223, ⟨3, s_iinc dX6_readsEvent_224 rfl (by decide), rfl⟩⟩, t_go dX6_readsEvent_227 (by decide)⟩
theorem ok_179_32 : BkOK mi i_179 (bpf P_179) 32 (B_179.getD 32 bk0) := ⟨234, ⟨1, s_aload_n dX6_readsEvent_230 rfl, ⟨3, s_get (C := RX6) (T := TX6) (N := 30) dX6_readsEvent_231 rfl (by decide) wt_1171 uw_X6, rfl⟩⟩, t_ne0 dX6_readsEvent_234 (by decide) rfl⟩
theorem ok_179_33 : BkOK mi i_179 (bpf P_179) 33 (B_179.getD 33 bk0) := ⟨242, ⟨1, s_aload_n dX6_readsEvent_237 rfl, ⟨3, s_get (C := RX6) (T := TX6) (N := 30) dX6_readsEvent_238 rfl (by decide) wt_1169 uw_X6, ⟨1, s_iconst dX6_readsEvent_241 rfl, rfl⟩⟩⟩, t_nei dX6_readsEvent_242 (by decide) rfl⟩
theorem ok_179_34 : BkOK mi i_179 (bpf P_179) 34 (B_179.getD 34 bk0) := ⟨248, ⟨1, s_aload_n dX6_readsEvent_245 rfl, ⟨2, s_bipush dX6_readsEvent_246 rfl, rfl⟩⟩, t_cv rfl mi_172 mok_172 rfl (fun _ => ⟨rfl, by decide +kernel⟩) (fun hs' e => by cases e; intro E n b h; cases h) (fun q fs As rest h hp hA hr => (call_V (i := i_179) (j := i_172) (C := RX6) (T := TX6) (N := 30) dX6_readsEvent_248 mok_172 rfl ⟨by decide, by decide⟩ np_172 rfl rfl wt_1321 wt_1323 ws_24 hp hA hr rfl).thr (fun _ => True.intro))⟩
theorem ok_179_35 : BkOK mi i_179 (bpf P_179) 35 (B_179.getD 35 bk0) := ⟨252, ⟨1, s_aload_n dX6_readsEvent_251 rfl, rfl⟩, t_cv rfl mi_174 mok_174 rfl (fun _ => ⟨rfl, by decide +kernel⟩) (fun hs' e => by cases e; intro E n b h; cases h) (fun q fs As rest h hp hA hr => (call_V (i := i_179) (j := i_174) (C := RX6) (T := TX6) (N := 30) dX6_readsEvent_252 mok_174 rfl ⟨by decide, by decide⟩ np_174 rfl rfl wt_1327 wt_1329 ws_25 hp hA hr rfl).thr (fun _ => True.intro))⟩
theorem ok_179_36 : BkOK mi i_179 (bpf P_179) 36 (B_179.getD 36 bk0) := ⟨265, ⟨1, s_aload_n dX6_readsEvent_255 rfl, ⟨3, s_get (C := RX6) (T := TX6) (N := 30) dX6_readsEvent_256 rfl (by decide) wt_1157 uw_X6, ⟨1, s_iconst dX6_readsEvent_259 rfl, ⟨1, s_dup2 dX6_readsEvent_260, ⟨1, s_iald dX6_readsEvent_261, ⟨1, s_iconst dX6_readsEvent_262 rfl, ⟨1, s_iadd dX6_readsEvent_263, ⟨1, s_iast dX6_readsEvent_264, rfl⟩⟩⟩⟩⟩⟩⟩⟩, t_retV dX6_readsEvent_265 rfl⟩
theorem ok_179 : ∀ b, BkOK mi i_179 (bpf P_179) b (B_179.getD b bk0)
  | 0 => ok_179_0
  | 1 => ok_179_1
  | 2 => ok_179_2
  | 3 => ok_179_3
  | 4 => ok_179_4
  | 5 => ok_179_5
  | 6 => ok_179_6
  | 7 => ok_179_7
  | 8 => ok_179_8
  | 9 => ok_179_9
  | 10 => ok_179_10
  | 11 => ok_179_11
  | 12 => ok_179_12
  | 13 => ok_179_13
  | 14 => ok_179_14
  | 15 => ok_179_15
  | 16 => ok_179_16
  | 17 => ok_179_17
  | 18 => ok_179_18
  | 19 => ok_179_19
  | 20 => ok_179_20
  | 21 => ok_179_21
  | 22 => ok_179_22
  | 23 => ok_179_23
  | 24 => ok_179_24
  | 25 => ok_179_25
  | 26 => ok_179_26
  | 27 => ok_179_27
  | 28 => ok_179_28
  | 29 => ok_179_29
  | 30 => ok_179_30
  | 31 => ok_179_31
  | 32 => ok_179_32
  | 33 => ok_179_33
  | 34 => ok_179_34
  | 35 => ok_179_35
  | 36 => ok_179_36
  | b + 37 => bk_none mi i_179 (bpf P_179) (b + 37)
