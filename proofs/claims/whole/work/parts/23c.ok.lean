theorem ok_72_0 : BkOK mi i_72 (bpf P_72) 0 (B_72.getD 0 bk0) := ⟨1, ⟨1, s_aload_n dX4_readFingering_0 rfl, rfl⟩, t_cv rfl mi_82 mok_82 rfl (fun _ => ⟨rfl, by decide +kernel⟩) (fun hs' e => by cases e; intro E n b h; cases h) (fun q fs As rest h hp hA hr => (call_V (i := i_72) (j := i_82) (C := RX4) (T := TX4) (N := 9) dX4_readFingering_1 mok_82 rfl ⟨by decide, by decide⟩ np_82 rfl rfl wt_268 wt_269 wt_270 hp hA hr rfl).thr (fun _ => True.intro))⟩
theorem ok_72_1 : BkOK mi i_72 (bpf P_72) 1 (B_72.getD 1 bk0) := ⟨6, ⟨1, s_iconst dX4_readFingering_4 rfl, ⟨1, s_istore_n dX4_readFingering_5 rfl (by decide), rfl⟩⟩, t_fall rfl⟩
theorem ok_72_2 : BkOK mi i_72 (bpf P_72) 2 (B_72.getD 2 bk0) := ⟨11, ⟨1, s_iload_n dX4_readFingering_6 rfl, ⟨1, s_aload_n dX4_readFingering_7 rfl, ⟨3, s_getN (C := RX0) (T := TX0) (N := 10) dX4_readFingering_8 rfl (by decide) wt_75 uw_X0, rfl⟩⟩⟩, t_ge dX4_readFingering_11 (by decide) rfl⟩
theorem ok_72_3 : BkOK mi i_72 (bpf P_72) 3 (B_72.getD 3 bk0) := ⟨17, ⟨1, s_iconst dX4_readFingering_14 rfl, ⟨2, s_istore dX4_readFingering_15 (by decide), rfl⟩⟩, t_fall rfl⟩
theorem ok_72_4 : BkOK mi i_72 (bpf P_72) 4 (B_72.getD 4 bk0) := ⟨24, ⟨2, s_iload dX4_readFingering_17, ⟨1, s_aload_n dX4_readFingering_19 rfl, ⟨3, s_getN (C := RX0) (T := TX0) (N := 10) dX4_readFingering_20 rfl (by decide) wt_77 uw_X0, ⟨1, s_iload_n dX4_readFingering_23 rfl, rfl⟩⟩⟩⟩, t_cv rfl mi_62 mok_62 rfl (fun _ => ⟨rfl, by decide +kernel⟩) (fun hs' e => by cases e; intro E n b h; cases h) (fun q fs As rest h hp hA hr => (call_V (i := i_72) (j := i_62) (C := RX2) (T := TX2) (N := 1) dX4_readFingering_24 mok_62 rfl ⟨by decide, by decide⟩ np_62 rfl rfl wt_276 wt_277 wt_278 hp hA hr rfl).thr (fun _ => True.intro))⟩
theorem ok_72_5 : BkOK mi i_72 (bpf P_72) 5 (B_72.getD 5 bk0) := ⟨27, rfl, t_ge dX4_readFingering_27 (by decide) rfl⟩
theorem ok_72_6 : BkOK mi i_72 (bpf P_72) 6 (B_72.getD 6 bk0) := ⟨34, ⟨1, s_aload_n dX4_readFingering_30 rfl, ⟨3, s_get (C := RX4) (T := TX4) (N := 9) dX4_readFingering_31 rfl (by decide) wt_184 uw_X4, rfl⟩⟩, t_ne0 dX4_readFingering_34 (by decide) rfl⟩
theorem ok_72_7 : BkOK mi i_72 (bpf P_72) 7 (B_72.getD 7 bk0) := ⟨40, ⟨1, s_aload_n dX4_readFingering_37 rfl, ⟨2, s_bipush dX4_readFingering_38 rfl, rfl⟩⟩, t_cv rfl mi_83 mok_83 rfl (fun _ => ⟨rfl, by decide +kernel⟩) (fun hs' e => by cases e; intro E n b h; cases h) (fun q fs As rest h hp hA hr => (call_V (i := i_72) (j := i_83) (C := RX4) (T := TX4) (N := 9) dX4_readFingering_40 mok_83 rfl ⟨by decide, by decide⟩ np_83 rfl rfl wt_357 wt_358 wt_359 hp hA hr rfl).thr (fun _ => True.intro))⟩
theorem ok_72_8 : BkOK mi i_72 (bpf P_72) 8 (B_72.getD 8 bk0) := ⟨43, rfl, t_retZ dX4_readFingering_43 rfl⟩
theorem ok_72_9 : BkOK mi i_72 (bpf P_72) 9 (B_72.getD 9 bk0) := ⟨48, ⟨1, s_aload_n dX4_readFingering_44 rfl, ⟨1, s_iconst dX4_readFingering_45 rfl, ⟨1, s_iconst dX4_readFingering_46 rfl, ⟨1, s_iconst dX4_readFingering_47 rfl, rfl⟩⟩⟩⟩, t_cv rfl mi_87 mok_87 rfl (fun _ => ⟨rfl, by decide +kernel⟩) (fun hs' e => by cases e; intro E n b h; cases h) (fun q fs As rest h hp hA hr => (call_V (i := i_72) (j := i_87) (C := RX4) (T := TX4) (N := 9) dX4_readFingering_48 mok_87 rfl ⟨by decide, by decide⟩ np_87 rfl rfl wt_386 wt_387 wt_388 hp hA hr rfl).thr (fun _ => True.intro))⟩
theorem ok_72_10 : BkOK mi i_72 (bpf P_72) 10 (B_72.getD 10 bk0) := ⟨51, rfl, t_ne0 dX4_readFingering_51 (by decide) rfl⟩
theorem ok_72_11 : BkOK mi i_72 (bpf P_72) 11 (B_72.getD 11 bk0) := ⟨55, ⟨1, s_iconst dX4_readFingering_54 rfl, rfl⟩, t_retZ dX4_readFingering_55 rfl⟩
theorem ok_72_12 : BkOK mi i_72 (bpf P_72) 12 (B_72.getD 12 bk0) := ⟨60, ⟨1, s_aload_n dX4_readFingering_56 rfl, ⟨1, s_iload_n dX4_readFingering_57 rfl, ⟨2, s_iload dX4_readFingering_58, rfl⟩⟩⟩, t_cs rfl mi_146 mok_146 rfl (fun As rest h hA hr => call_SN dX4_readFingering_60 mok_146 rfl ⟨by decide, by decide⟩ np_146 wt_436 wt_416 hA hr)⟩
theorem ok_72_13 : BkOK mi i_72 (bpf P_72) 13 (B_72.getD 13 bk0) := ⟨67, ⟨1, s_aload_n dX4_readFingering_63 rfl, ⟨3, s_get (C := RX4) (T := TX4) (N := 9) dX4_readFingering_64 rfl (by decide) wt_188 uw_X4, rfl⟩⟩, t_cv rfl mi_63 mok_63 rfl (fun _ => ⟨rfl, by decide +kernel⟩) (fun hs' e => by cases e; intro E n b h; cases h) (fun q fs As rest h hp hA hr => (call_V (i := i_72) (j := i_63) (C := RX2) (T := TX2) (N := 1) dX4_readFingering_67 mok_63 rfl ⟨by decide, by decide⟩ np_63 rfl rfl wt_390 wt_57 wt_58 hp hA hr rfl).thr (fun _ => True.intro))⟩
theorem ok_72_14 : BkOK mi i_72 (bpf P_72) 14 (B_72.getD 14 bk0) := ⟨73, ⟨3, s_iinc dX4_readFingering_70 rfl (by decide), rfl⟩, t_go dX4_readFingering_73 (by decide)⟩
theorem ok_72_15 : BkOK mi i_72 (bpf P_72) 15 (B_72.getD 15 bk0) := ⟨79, ⟨3, s_iinc dX4_readFingering_76 rfl (by decide), rfl⟩, t_go dX4_readFingering_79 (by decide)⟩
theorem ok_72_16 : BkOK mi i_72 (bpf P_72) 16 (B_72.getD 16 bk0) := ⟨87, ⟨1, s_aload_n dX4_readFingering_82 rfl, ⟨3, s_get (C := RX4) (T := TX4) (N := 9) dX4_readFingering_83 rfl (by decide) wt_184 uw_X4, ⟨1, s_iconst dX4_readFingering_86 rfl, rfl⟩⟩⟩, t_nei dX4_readFingering_87 (by decide) rfl⟩
theorem ok_72_17 : BkOK mi i_72 (bpf P_72) 17 (B_72.getD 17 bk0) := ⟨93, ⟨1, s_aload_n dX4_readFingering_90 rfl, ⟨2, s_bipush dX4_readFingering_91 rfl, rfl⟩⟩, t_cv rfl mi_83 mok_83 rfl (fun _ => ⟨rfl, by decide +kernel⟩) (fun hs' e => by cases e; intro E n b h; cases h) (fun q fs As rest h hp hA hr => (call_V (i := i_72) (j := i_83) (C := RX4) (T := TX4) (N := 9) dX4_readFingering_93 mok_83 rfl ⟨by decide, by decide⟩ np_83 rfl rfl wt_357 wt_358 wt_359 hp hA hr rfl).thr (fun _ => True.intro))⟩
theorem ok_72_18 : BkOK mi i_72 (bpf P_72) 18 (B_72.getD 18 bk0) := ⟨96, rfl, t_go dX4_readFingering_96 (by decide)⟩
theorem ok_72_19 : BkOK mi i_72 (bpf P_72) 19 (B_72.getD 19 bk0) := ⟨100, ⟨1, s_aload_n dX4_readFingering_99 rfl, rfl⟩, t_cv rfl mi_86 mok_86 rfl (fun _ => ⟨rfl, by decide +kernel⟩) (fun hs' e => by cases e; intro E n b h; cases h) (fun q fs As rest h hp hA hr => (call_V (i := i_72) (j := i_86) (C := RX4) (T := TX4) (N := 9) dX4_readFingering_100 mok_86 rfl ⟨by decide, by decide⟩ np_86 rfl rfl wt_440 wt_441 wt_442 hp hA hr rfl).thr (fun _ => True.intro))⟩
theorem ok_72_20 : BkOK mi i_72 (bpf P_72) 20 (B_72.getD 20 bk0) := ⟨103, rfl, t_retZ dX4_readFingering_103 rfl⟩
theorem ok_72 : ∀ b, BkOK mi i_72 (bpf P_72) b (B_72.getD b bk0)
  | 0 => ok_72_0
  | 1 => ok_72_1
  | 2 => ok_72_2
  | 3 => ok_72_3
  | 4 => ok_72_4
  | 5 => ok_72_5
  | 6 => ok_72_6
  | 7 => ok_72_7
  | 8 => ok_72_8
  | 9 => ok_72_9
  | 10 => ok_72_10
  | 11 => ok_72_11
  | 12 => ok_72_12
  | 13 => ok_72_13
  | 14 => ok_72_14
  | 15 => ok_72_15
  | 16 => ok_72_16
  | 17 => ok_72_17
  | 18 => ok_72_18
  | 19 => ok_72_19
  | 20 => ok_72_20
  | b + 21 => bk_none mi i_72 (bpf P_72) (b + 21)
theorem ok_73_0 : BkOK mi i_73 (bpf P_73) 0 (B_73.getD 0 bk0) := ⟨3, ⟨1, s_aload_n dX4_readHand_0 rfl, ⟨2, s_ldcS (tx := "hand") dX4_readHand_1 (by decide +kernel) (by decide), rfl⟩⟩, t_cv rfl mi_84 mok_84 rfl (fun _ => ⟨rfl, by decide +kernel⟩) (fun hs' e => by cases e; intro E n b h; cases h) (fun q fs As rest h hp hA hr => (call_V (i := i_73) (j := i_84) (C := RX4) (T := TX4) (N := 9) dX4_readHand_3 mok_84 rfl ⟨by decide, by decide⟩ np_84 rfl rfl wt_301 wt_302 wt_303 hp hA hr rfl).thr (fun _ => True.intro))⟩
theorem ok_73_1 : BkOK mi i_73 (bpf P_73) 1 (B_73.getD 1 bk0) := ⟨6, rfl, t_ne0 dX4_readHand_6 (by decide) rfl⟩
theorem ok_73_2 : BkOK mi i_73 (bpf P_73) 2 (B_73.getD 2 bk0) := ⟨10, ⟨1, s_iconst dX4_readHand_9 rfl, rfl⟩, t_retZ dX4_readHand_10 rfl⟩
theorem ok_73_3 : BkOK mi i_73 (bpf P_73) 3 (B_73.getD 3 bk0) := ⟨15, ⟨1, s_aload_n dX4_readHand_11 rfl, ⟨1, s_aload_n dX4_readHand_12 rfl, ⟨2, s_ldcS (tx := "right") dX4_readHand_13 (by decide +kernel) (by decide), rfl⟩⟩⟩, t_cv rfl mi_88 mok_88 rfl (fun _ => ⟨rfl, by decide +kernel⟩) (fun hs' e => by cases e; intro E n b h; cases h) (fun q fs As rest h hp hA hr => (call_V (i := i_73) (j := i_88) (C := RX4) (T := TX4) (N := 9) dX4_readHand_15 mok_88 rfl ⟨by decide, by decide⟩ np_88 rfl rfl wt_305 wt_306 wt_307 hp hA hr rfl).thr (fun _ => True.intro))⟩
theorem ok_73_4 : BkOK mi i_73 (bpf P_73) 4 (B_73.getD 4 bk0) := ⟨26, ⟨3, s_putN (C := RX0) (T := TX0) (N := 10) tyX0 tyX0_ok nmX0 dX4_readHand_18 rfl (by decide) rfl (tyX0_ok 0 (by decide)) wt_70 uw_X0, ⟨1, s_aload_n dX4_readHand_21 rfl, ⟨1, s_aload_n dX4_readHand_22 rfl, ⟨3, s_getN (C := RX0) (T := TX0) (N := 10) dX4_readHand_23 rfl (by decide) wt_70 uw_X0, rfl⟩⟩⟩⟩, t_eq0 dX4_readHand_26 (by decide) rfl⟩
theorem ok_73_5 : BkOK mi i_73 (bpf P_73) 5 (B_73.getD 5 bk0) := ⟨31, ⟨2, s_ldcS (tx := "right") dX4_readHand_29 (by decide +kernel) (by decide), rfl⟩, t_go dX4_readHand_31 (by decide)⟩
theorem ok_73_6 : BkOK mi i_73 (bpf P_73) 6 (B_73.getD 6 bk0) := ⟨36, ⟨2, s_ldcS (tx := "left") dX4_readHand_34 (by decide +kernel) (by decide), rfl⟩, t_fall rfl⟩
theorem ok_73_7 : BkOK mi i_73 (bpf P_73) 7 (B_73.getD 7 bk0) := ⟨36, rfl, t_cv rfl mi_84 mok_84 rfl (fun _ => ⟨rfl, by decide +kernel⟩) (fun hs' e => by cases e; intro E n b h; cases h) (fun q fs As rest h hp hA hr => (call_V (i := i_73) (j := i_84) (C := RX4) (T := TX4) (N := 9) dX4_readHand_36 mok_84 rfl ⟨by decide, by decide⟩ np_84 rfl rfl wt_301 wt_302 wt_303 hp hA hr rfl).thr (fun _ => True.intro))⟩
theorem ok_73_8 : BkOK mi i_73 (bpf P_73) 8 (B_73.getD 8 bk0) := ⟨39, rfl, t_eq0 dX4_readHand_39 (by decide) rfl⟩
theorem ok_73_9 : BkOK mi i_73 (bpf P_73) 9 (B_73.getD 9 bk0) := ⟨43, ⟨1, s_aload_n dX4_readHand_42 rfl, rfl⟩, t_cv rfl mi_85 mok_85 rfl (fun _ => ⟨rfl, by decide +kernel⟩) (fun hs' e => by cases e; intro E n b h; cases h) (fun q fs As rest h hp hA hr => (call_V (i := i_73) (j := i_85) (C := RX4) (T := TX4) (N := 9) dX4_readHand_43 mok_85 rfl ⟨by decide, by decide⟩ np_85 rfl rfl wt_363 wt_364 wt_365 hp hA hr rfl).thr (fun _ => True.intro))⟩
theorem ok_73_10 : BkOK mi i_73 (bpf P_73) 10 (B_73.getD 10 bk0) := ⟨46, rfl, t_eq0 dX4_readHand_46 (by decide) rfl⟩
theorem ok_73_11 : BkOK mi i_73 (bpf P_73) 11 (B_73.getD 11 bk0) := ⟨50, ⟨1, s_iconst dX4_readHand_49 rfl, rfl⟩, t_go dX4_readHand_50 (by decide)⟩
theorem ok_73_12 : BkOK mi i_73 (bpf P_73) 12 (B_73.getD 12 bk0) := ⟨54, ⟨1, s_iconst dX4_readHand_53 rfl, rfl⟩, t_fall rfl⟩
theorem ok_73_13 : BkOK mi i_73 (bpf P_73) 13 (B_73.getD 13 bk0) := ⟨54, rfl, t_retZ dX4_readHand_54 rfl⟩
theorem ok_73 : ∀ b, BkOK mi i_73 (bpf P_73) b (B_73.getD b bk0)
  | 0 => ok_73_0
  | 1 => ok_73_1
  | 2 => ok_73_2
  | 3 => ok_73_3
  | 4 => ok_73_4
  | 5 => ok_73_5
  | 6 => ok_73_6
  | 7 => ok_73_7
  | 8 => ok_73_8
  | 9 => ok_73_9
  | 10 => ok_73_10
  | 11 => ok_73_11
  | 12 => ok_73_12
  | 13 => ok_73_13
  | b + 14 => bk_none mi i_73 (bpf P_73) (b + 14)
theorem ok_74_0 : BkOK mi i_74 (bpf P_74) 0 (B_74.getD 0 bk0) := ⟨2, ⟨1, s_iconst dX4_readWeights_0 rfl, ⟨1, s_istore_n dX4_readWeights_1 rfl (by decide), rfl⟩⟩, t_fall rfl⟩
theorem ok_74_1 : BkOK mi i_74 (bpf P_74) 1 (B_74.getD 1 bk0) := ⟨6, ⟨1, s_iload_n dX4_readWeights_2 rfl, ⟨3, s_sipush dX4_readWeights_3 rfl, rfl⟩⟩, t_ge dX4_readWeights_6 (by decide) rfl⟩
theorem ok_74_2 : BkOK mi i_74 (bpf P_74) 2 (B_74.getD 2 bk0) := ⟨12, ⟨1, s_aload_n dX4_readWeights_9 rfl, ⟨2, s_ldcS (tx := "weight") dX4_readWeights_10 (by decide +kernel) (by decide), rfl⟩⟩, t_cv rfl mi_88 mok_88 rfl (fun _ => ⟨rfl, by decide +kernel⟩) (fun hs' e => by cases e; intro E n b h; cases h) (fun q fs As rest h hp hA hr => (call_V (i := i_74) (j := i_88) (C := RX4) (T := TX4) (N := 9) dX4_readWeights_12 mok_88 rfl ⟨by decide, by decide⟩ np_88 rfl rfl wt_305 wt_306 wt_307 hp hA hr rfl).thr (fun _ => True.intro))⟩
theorem ok_74_3 : BkOK mi i_74 (bpf P_74) 3 (B_74.getD 3 bk0) := ⟨15, rfl, t_eq0 dX4_readWeights_15 (by decide) rfl⟩
theorem ok_74_4 : BkOK mi i_74 (bpf P_74) 4 (B_74.getD 4 bk0) := ⟨19, ⟨1, s_aload_n dX4_readWeights_18 rfl, rfl⟩, t_cv rfl mi_89 mok_89 rfl (fun _ => ⟨rfl, by decide +kernel⟩) (fun hs' e => by cases e; intro E n b h; cases h) (fun q fs As rest h hp hA hr => (call_V (i := i_74) (j := i_89) (C := RX4) (T := TX4) (N := 9) dX4_readWeights_19 mok_89 rfl ⟨by decide, by decide⟩ np_89 rfl rfl wt_272 wt_273 wt_274 hp hA hr rfl).thr (fun _ => True.intro))⟩
theorem ok_74_5 : BkOK mi i_74 (bpf P_74) 5 (B_74.getD 5 bk0) := ⟨23, ⟨1, s_aload_n dX4_readWeights_22 rfl, rfl⟩, t_cv rfl mi_75 mok_75 rfl (fun _ => ⟨rfl, by decide +kernel⟩) (fun hs' e => by cases e; intro E n b h; cases h) (fun q fs As rest h hp hA hr => (call_V (i := i_74) (j := i_75) (C := RX4) (T := TX4) (N := 9) dX4_readWeights_23 mok_75 rfl ⟨by decide, by decide⟩ np_75 rfl rfl wt_372 wt_373 wt_374 hp hA hr rfl).thr (fun _ => True.intro))⟩
theorem ok_74_6 : BkOK mi i_74 (bpf P_74) 6 (B_74.getD 6 bk0) := ⟨29, ⟨1, s_istore_n dX4_readWeights_26 rfl (by decide), ⟨1, s_iload_n dX4_readWeights_27 rfl, ⟨1, s_iconst dX4_readWeights_28 rfl, rfl⟩⟩⟩, t_nei dX4_readWeights_29 (by decide) rfl⟩
theorem ok_74_7 : BkOK mi i_74 (bpf P_74) 7 (B_74.getD 7 bk0) := ⟨35, ⟨1, s_aload_n dX4_readWeights_32 rfl, ⟨2, s_bipush dX4_readWeights_33 rfl, rfl⟩⟩, t_cv rfl mi_83 mok_83 rfl (fun _ => ⟨rfl, by decide +kernel⟩) (fun hs' e => by cases e; intro E n b h; cases h) (fun q fs As rest h hp hA hr => (call_V (i := i_74) (j := i_83) (C := RX4) (T := TX4) (N := 9) dX4_readWeights_35 mok_83 rfl ⟨by decide, by decide⟩ np_83 rfl rfl wt_357 wt_358 wt_359 hp hA hr rfl).thr (fun _ => True.intro))⟩
theorem ok_74_8 : BkOK mi i_74 (bpf P_74) 8 (B_74.getD 8 bk0) := ⟨38, rfl, t_retZ dX4_readWeights_38 rfl⟩
theorem ok_74_9 : BkOK mi i_74 (bpf P_74) 9 (B_74.getD 9 bk0) := ⟨40, ⟨1, s_aload_n dX4_readWeights_39 rfl, rfl⟩, t_cv rfl mi_89 mok_89 rfl (fun _ => ⟨rfl, by decide +kernel⟩) (fun hs' e => by cases e; intro E n b h; cases h) (fun q fs As rest h hp hA hr => (call_V (i := i_74) (j := i_89) (C := RX4) (T := TX4) (N := 9) dX4_readWeights_40 mok_89 rfl ⟨by decide, by decide⟩ np_89 rfl rfl wt_272 wt_273 wt_274 hp hA hr rfl).thr (fun _ => True.intro))⟩
theorem ok_74_10 : BkOK mi i_74 (bpf P_74) 10 (B_74.getD 10 bk0) := ⟨48, ⟨1, s_aload_n dX4_readWeights_43 rfl, ⟨1, s_iconst dX4_readWeights_44 rfl, ⟨2, s_bipush dX4_readWeights_45 rfl, ⟨1, s_iconst dX4_readWeights_47 rfl, rfl⟩⟩⟩⟩, t_cv rfl mi_87 mok_87 rfl (fun _ => ⟨rfl, by decide +kernel⟩) (fun hs' e => by cases e; intro E n b h; cases h) (fun q fs As rest h hp hA hr => (call_V (i := i_74) (j := i_87) (C := RX4) (T := TX4) (N := 9) dX4_readWeights_48 mok_87 rfl ⟨by decide, by decide⟩ np_87 rfl rfl wt_386 wt_387 wt_388 hp hA hr rfl).thr (fun _ => True.intro))⟩
theorem ok_74_11 : BkOK mi i_74 (bpf P_74) 11 (B_74.getD 11 bk0) := ⟨51, rfl, t_ne0 dX4_readWeights_51 (by decide) rfl⟩
theorem ok_74_12 : BkOK mi i_74 (bpf P_74) 12 (B_74.getD 12 bk0) := ⟨55, ⟨1, s_iconst dX4_readWeights_54 rfl, rfl⟩, t_retZ dX4_readWeights_55 rfl⟩
theorem ok_74_13 : BkOK mi i_74 (bpf P_74) 13 (B_74.getD 13 bk0) := ⟨65, ⟨1, s_aload_n dX4_readWeights_56 rfl, ⟨3, s_getN (C := RX0) (T := TX0) (N := 10) dX4_readWeights_57 rfl (by decide) wt_89 uw_X0, ⟨1, s_iload_n dX4_readWeights_60 rfl, ⟨1, s_aload_n dX4_readWeights_61 rfl, ⟨3, s_get (C := RX4) (T := TX4) (N := 9) dX4_readWeights_62 rfl (by decide) wt_188 uw_X4, rfl⟩⟩⟩⟩⟩, t_cv rfl mi_63 mok_63 rfl (fun _ => ⟨rfl, by decide +kernel⟩) (fun hs' e => by cases e; intro E n b h; cases h) (fun q fs As rest h hp hA hr => (call_V (i := i_74) (j := i_63) (C := RX2) (T := TX2) (N := 1) dX4_readWeights_65 mok_63 rfl ⟨by decide, by decide⟩ np_63 rfl rfl wt_390 wt_57 wt_58 hp hA hr rfl).thr (fun _ => True.intro))⟩
theorem ok_74_14 : BkOK mi i_74 (bpf P_74) 14 (B_74.getD 14 bk0) := ⟨69, ⟨1, s_aload_n dX4_readWeights_68 rfl, rfl⟩, t_cv rfl mi_85 mok_85 rfl (fun _ => ⟨rfl, by decide +kernel⟩) (fun hs' e => by cases e; intro E n b h; cases h) (fun q fs As rest h hp hA hr => (call_V (i := i_74) (j := i_85) (C := RX4) (T := TX4) (N := 9) dX4_readWeights_69 mok_85 rfl ⟨by decide, by decide⟩ np_85 rfl rfl wt_363 wt_364 wt_365 hp hA hr rfl).thr (fun _ => True.intro))⟩
theorem ok_74_15 : BkOK mi i_74 (bpf P_74) 15 (B_74.getD 15 bk0) := ⟨72, rfl, t_ne0 dX4_readWeights_72 (by decide) rfl⟩
theorem ok_74_16 : BkOK mi i_74 (bpf P_74) 16 (B_74.getD 16 bk0) := ⟨76, ⟨1, s_iconst dX4_readWeights_75 rfl, rfl⟩, t_retZ dX4_readWeights_76 rfl⟩
theorem ok_74_17 : BkOK mi i_74 (bpf P_74) 17 (B_74.getD 17 bk0) := ⟨80, ⟨3, s_iinc dX4_readWeights_77 rfl (by decide), rfl⟩, t_go dX4_readWeights_80 (by decide)⟩
theorem ok_74_18 : BkOK mi i_74 (bpf P_74) 18 (B_74.getD 18 bk0) := ⟨84, ⟨1, s_iconst dX4_readWeights_83 rfl, rfl⟩, t_retZ dX4_readWeights_84 rfl⟩
theorem ok_74 : ∀ b, BkOK mi i_74 (bpf P_74) b (B_74.getD b bk0)
  | 0 => ok_74_0
  | 1 => ok_74_1
  | 2 => ok_74_2
  | 3 => ok_74_3
  | 4 => ok_74_4
  | 5 => ok_74_5
  | 6 => ok_74_6
  | 7 => ok_74_7
  | 8 => ok_74_8
  | 9 => ok_74_9
  | 10 => ok_74_10
  | 11 => ok_74_11
  | 12 => ok_74_12
  | 13 => ok_74_13
  | 14 => ok_74_14
  | 15 => ok_74_15
  | 16 => ok_74_16
  | 17 => ok_74_17
  | 18 => ok_74_18
  | b + 19 => bk_none mi i_74 (bpf P_74) (b + 19)
theorem ok_75_0 : BkOK mi i_75 (bpf P_75) 0 (B_75.getD 0 bk0) := ⟨3, ⟨1, s_aload_n dX4_weightNamed_0 rfl, ⟨2, s_ldcS (tx := "stretch") dX4_weightNamed_1 (by decide +kernel) (by decide), rfl⟩⟩, t_cv rfl mi_88 mok_88 rfl (fun _ => ⟨rfl, by decide +kernel⟩) (fun hs' e => by cases e; intro E n b h; cases h) (fun q fs As rest h hp hA hr => (call_V (i := i_75) (j := i_88) (C := RX4) (T := TX4) (N := 9) dX4_weightNamed_3 mok_88 rfl ⟨by decide, by decide⟩ np_88 rfl rfl wt_305 wt_306 wt_307 hp hA hr rfl).thr (fun _ => True.intro))⟩
theorem ok_75_1 : BkOK mi i_75 (bpf P_75) 1 (B_75.getD 1 bk0) := ⟨6, rfl, t_eq0 dX4_weightNamed_6 (by decide) rfl⟩
theorem ok_75_2 : BkOK mi i_75 (bpf P_75) 2 (B_75.getD 2 bk0) := ⟨10, ⟨1, s_iconst dX4_weightNamed_9 rfl, rfl⟩, t_ret dX4_weightNamed_10 rfl⟩
theorem ok_75_3 : BkOK mi i_75 (bpf P_75) 3 (B_75.getD 3 bk0) := ⟨14, ⟨1, s_aload_n dX4_weightNamed_11 rfl, ⟨2, s_ldcS (tx := "cross") dX4_weightNamed_12 (by decide +kernel) (by decide), rfl⟩⟩, t_cv rfl mi_88 mok_88 rfl (fun _ => ⟨rfl, by decide +kernel⟩) (fun hs' e => by cases e; intro E n b h; cases h) (fun q fs As rest h hp hA hr => (call_V (i := i_75) (j := i_88) (C := RX4) (T := TX4) (N := 9) dX4_weightNamed_14 mok_88 rfl ⟨by decide, by decide⟩ np_88 rfl rfl wt_305 wt_306 wt_307 hp hA hr rfl).thr (fun _ => True.intro))⟩
theorem ok_75_4 : BkOK mi i_75 (bpf P_75) 4 (B_75.getD 4 bk0) := ⟨17, rfl, t_eq0 dX4_weightNamed_17 (by decide) rfl⟩
theorem ok_75_5 : BkOK mi i_75 (bpf P_75) 5 (B_75.getD 5 bk0) := ⟨21, ⟨1, s_iconst dX4_weightNamed_20 rfl, rfl⟩, t_ret dX4_weightNamed_21 rfl⟩
theorem ok_75_6 : BkOK mi i_75 (bpf P_75) 6 (B_75.getD 6 bk0) := ⟨25, ⟨1, s_aload_n dX4_weightNamed_22 rfl, ⟨2, s_ldcS (tx := "repeat") dX4_weightNamed_23 (by decide +kernel) (by decide), rfl⟩⟩, t_cv rfl mi_88 mok_88 rfl (fun _ => ⟨rfl, by decide +kernel⟩) (fun hs' e => by cases e; intro E n b h; cases h) (fun q fs As rest h hp hA hr => (call_V (i := i_75) (j := i_88) (C := RX4) (T := TX4) (N := 9) dX4_weightNamed_25 mok_88 rfl ⟨by decide, by decide⟩ np_88 rfl rfl wt_305 wt_306 wt_307 hp hA hr rfl).thr (fun _ => True.intro))⟩
theorem ok_75_7 : BkOK mi i_75 (bpf P_75) 7 (B_75.getD 7 bk0) := ⟨28, rfl, t_eq0 dX4_weightNamed_28 (by decide) rfl⟩
theorem ok_75_8 : BkOK mi i_75 (bpf P_75) 8 (B_75.getD 8 bk0) := ⟨32, ⟨1, s_iconst dX4_weightNamed_31 rfl, rfl⟩, t_ret dX4_weightNamed_32 rfl⟩
theorem ok_75_9 : BkOK mi i_75 (bpf P_75) 9 (B_75.getD 9 bk0) := ⟨36, ⟨1, s_aload_n dX4_weightNamed_33 rfl, ⟨2, s_ldcS (tx := "change") dX4_weightNamed_34 (by decide +kernel) (by decide), rfl⟩⟩, t_cv rfl mi_88 mok_88 rfl (fun _ => ⟨rfl, by decide +kernel⟩) (fun hs' e => by cases e; intro E n b h; cases h) (fun q fs As rest h hp hA hr => (call_V (i := i_75) (j := i_88) (C := RX4) (T := TX4) (N := 9) dX4_weightNamed_36 mok_88 rfl ⟨by decide, by decide⟩ np_88 rfl rfl wt_305 wt_306 wt_307 hp hA hr rfl).thr (fun _ => True.intro))⟩
theorem ok_75_10 : BkOK mi i_75 (bpf P_75) 10 (B_75.getD 10 bk0) := ⟨39, rfl, t_eq0 dX4_weightNamed_39 (by decide) rfl⟩
theorem ok_75_11 : BkOK mi i_75 (bpf P_75) 11 (B_75.getD 11 bk0) := ⟨43, ⟨1, s_iconst dX4_weightNamed_42 rfl, rfl⟩, t_ret dX4_weightNamed_43 rfl⟩
theorem ok_75_12 : BkOK mi i_75 (bpf P_75) 12 (B_75.getD 12 bk0) := ⟨47, ⟨1, s_aload_n dX4_weightNamed_44 rfl, ⟨2, s_ldcS (tx := "jump") dX4_weightNamed_45 (by decide +kernel) (by decide), rfl⟩⟩, t_cv rfl mi_88 mok_88 rfl (fun _ => ⟨rfl, by decide +kernel⟩) (fun hs' e => by cases e; intro E n b h; cases h) (fun q fs As rest h hp hA hr => (call_V (i := i_75) (j := i_88) (C := RX4) (T := TX4) (N := 9) dX4_weightNamed_47 mok_88 rfl ⟨by decide, by decide⟩ np_88 rfl rfl wt_305 wt_306 wt_307 hp hA hr rfl).thr (fun _ => True.intro))⟩
theorem ok_75_13 : BkOK mi i_75 (bpf P_75) 13 (B_75.getD 13 bk0) := ⟨50, rfl, t_eq0 dX4_weightNamed_50 (by decide) rfl⟩
theorem ok_75_14 : BkOK mi i_75 (bpf P_75) 14 (B_75.getD 14 bk0) := ⟨54, ⟨1, s_iconst dX4_weightNamed_53 rfl, rfl⟩, t_ret dX4_weightNamed_54 rfl⟩
theorem ok_75_15 : BkOK mi i_75 (bpf P_75) 15 (B_75.getD 15 bk0) := ⟨58, ⟨1, s_aload_n dX4_weightNamed_55 rfl, ⟨2, s_ldcS (tx := "black") dX4_weightNamed_56 (by decide +kernel) (by decide), rfl⟩⟩, t_cv rfl mi_88 mok_88 rfl (fun _ => ⟨rfl, by decide +kernel⟩) (fun hs' e => by cases e; intro E n b h; cases h) (fun q fs As rest h hp hA hr => (call_V (i := i_75) (j := i_88) (C := RX4) (T := TX4) (N := 9) dX4_weightNamed_58 mok_88 rfl ⟨by decide, by decide⟩ np_88 rfl rfl wt_305 wt_306 wt_307 hp hA hr rfl).thr (fun _ => True.intro))⟩
theorem ok_75_16 : BkOK mi i_75 (bpf P_75) 16 (B_75.getD 16 bk0) := ⟨61, rfl, t_eq0 dX4_weightNamed_61 (by decide) rfl⟩
theorem ok_75_17 : BkOK mi i_75 (bpf P_75) 17 (B_75.getD 17 bk0) := ⟨65, ⟨1, s_iconst dX4_weightNamed_64 rfl, rfl⟩, t_ret dX4_weightNamed_65 rfl⟩
theorem ok_75_18 : BkOK mi i_75 (bpf P_75) 18 (B_75.getD 18 bk0) := ⟨69, ⟨1, s_aload_n dX4_weightNamed_66 rfl, ⟨2, s_ldcS (tx := "weak") dX4_weightNamed_67 (by decide +kernel) (by decide), rfl⟩⟩, t_cv rfl mi_88 mok_88 rfl (fun _ => ⟨rfl, by decide +kernel⟩) (fun hs' e => by cases e; intro E n b h; cases h) (fun q fs As rest h hp hA hr => (call_V (i := i_75) (j := i_88) (C := RX4) (T := TX4) (N := 9) dX4_weightNamed_69 mok_88 rfl ⟨by decide, by decide⟩ np_88 rfl rfl wt_305 wt_306 wt_307 hp hA hr rfl).thr (fun _ => True.intro))⟩
theorem ok_75_19 : BkOK mi i_75 (bpf P_75) 19 (B_75.getD 19 bk0) := ⟨72, rfl, t_eq0 dX4_weightNamed_72 (by decide) rfl⟩
theorem ok_75_20 : BkOK mi i_75 (bpf P_75) 20 (B_75.getD 20 bk0) := ⟨77, ⟨2, s_bipush dX4_weightNamed_75 rfl, rfl⟩, t_ret dX4_weightNamed_77 rfl⟩
theorem ok_75_21 : BkOK mi i_75 (bpf P_75) 21 (B_75.getD 21 bk0) := ⟨81, ⟨1, s_aload_n dX4_weightNamed_78 rfl, ⟨2, s_ldcS (tx := "ease") dX4_weightNamed_79 (by decide +kernel) (by decide), rfl⟩⟩, t_cv rfl mi_88 mok_88 rfl (fun _ => ⟨rfl, by decide +kernel⟩) (fun hs' e => by cases e; intro E n b h; cases h) (fun q fs As rest h hp hA hr => (call_V (i := i_75) (j := i_88) (C := RX4) (T := TX4) (N := 9) dX4_weightNamed_81 mok_88 rfl ⟨by decide, by decide⟩ np_88 rfl rfl wt_305 wt_306 wt_307 hp hA hr rfl).thr (fun _ => True.intro))⟩
theorem ok_75_22 : BkOK mi i_75 (bpf P_75) 22 (B_75.getD 22 bk0) := ⟨84, rfl, t_eq0 dX4_weightNamed_84 (by decide) rfl⟩
theorem ok_75_23 : BkOK mi i_75 (bpf P_75) 23 (B_75.getD 23 bk0) := ⟨89, ⟨2, s_bipush dX4_weightNamed_87 rfl, rfl⟩, t_ret dX4_weightNamed_89 rfl⟩
theorem ok_75_24 : BkOK mi i_75 (bpf P_75) 24 (B_75.getD 24 bk0) := ⟨93, ⟨1, s_aload_n dX4_weightNamed_90 rfl, ⟨2, s_ldcS (tx := "free") dX4_weightNamed_91 (by decide +kernel) (by decide), rfl⟩⟩, t_cv rfl mi_88 mok_88 rfl (fun _ => ⟨rfl, by decide +kernel⟩) (fun hs' e => by cases e; intro E n b h; cases h) (fun q fs As rest h hp hA hr => (call_V (i := i_75) (j := i_88) (C := RX4) (T := TX4) (N := 9) dX4_weightNamed_93 mok_88 rfl ⟨by decide, by decide⟩ np_88 rfl rfl wt_305 wt_306 wt_307 hp hA hr rfl).thr (fun _ => True.intro))⟩
theorem ok_75_25 : BkOK mi i_75 (bpf P_75) 25 (B_75.getD 25 bk0) := ⟨96, rfl, t_eq0 dX4_weightNamed_96 (by decide) rfl⟩
theorem ok_75_26 : BkOK mi i_75 (bpf P_75) 26 (B_75.getD 26 bk0) := ⟨101, ⟨2, s_bipush dX4_weightNamed_99 rfl, rfl⟩, t_ret dX4_weightNamed_101 rfl⟩
theorem ok_75_27 : BkOK mi i_75 (bpf P_75) 27 (B_75.getD 27 bk0) := ⟨105, ⟨1, s_aload_n dX4_weightNamed_102 rfl, ⟨2, s_ldcS (tx := "reach") dX4_weightNamed_103 (by decide +kernel) (by decide), rfl⟩⟩, t_cv rfl mi_88 mok_88 rfl (fun _ => ⟨rfl, by decide +kernel⟩) (fun hs' e => by cases e; intro E n b h; cases h) (fun q fs As rest h hp hA hr => (call_V (i := i_75) (j := i_88) (C := RX4) (T := TX4) (N := 9) dX4_weightNamed_105 mok_88 rfl ⟨by decide, by decide⟩ np_88 rfl rfl wt_305 wt_306 wt_307 hp hA hr rfl).thr (fun _ => True.intro))⟩
theorem ok_75_28 : BkOK mi i_75 (bpf P_75) 28 (B_75.getD 28 bk0) := ⟨108, rfl, t_eq0 dX4_weightNamed_108 (by decide) rfl⟩
theorem ok_75_29 : BkOK mi i_75 (bpf P_75) 29 (B_75.getD 29 bk0) := ⟨113, ⟨2, s_bipush dX4_weightNamed_111 rfl, rfl⟩, t_go dX4_weightNamed_113 (by decide)⟩
theorem ok_75_30 : BkOK mi i_75 (bpf P_75) 30 (B_75.getD 30 bk0) := ⟨117, ⟨1, s_iconst dX4_weightNamed_116 rfl, rfl⟩, t_fall rfl⟩
theorem ok_75_31 : BkOK mi i_75 (bpf P_75) 31 (B_75.getD 31 bk0) := ⟨117, rfl, t_ret dX4_weightNamed_117 rfl⟩
theorem ok_75 : ∀ b, BkOK mi i_75 (bpf P_75) b (B_75.getD b bk0)
  | 0 => ok_75_0
  | 1 => ok_75_1
  | 2 => ok_75_2
  | 3 => ok_75_3
  | 4 => ok_75_4
  | 5 => ok_75_5
  | 6 => ok_75_6
  | 7 => ok_75_7
  | 8 => ok_75_8
  | 9 => ok_75_9
  | 10 => ok_75_10
  | 11 => ok_75_11
  | 12 => ok_75_12
  | 13 => ok_75_13
  | 14 => ok_75_14
  | 15 => ok_75_15
  | 16 => ok_75_16
  | 17 => ok_75_17
  | 18 => ok_75_18
  | 19 => ok_75_19
  | 20 => ok_75_20
  | 21 => ok_75_21
  | 22 => ok_75_22
  | 23 => ok_75_23
  | 24 => ok_75_24
  | 25 => ok_75_25
  | 26 => ok_75_26
  | 27 => ok_75_27
  | 28 => ok_75_28
  | 29 => ok_75_29
  | 30 => ok_75_30
  | 31 => ok_75_31
  | b + 32 => bk_none mi i_75 (bpf P_75) (b + 32)
theorem ok_76_0 : BkOK mi i_76 (bpf P_76) 0 (B_76.getD 0 bk0) := ⟨2, ⟨1, s_iconst dX4_readSpans_0 rfl, ⟨1, s_istore_n dX4_readSpans_1 rfl (by decide), rfl⟩⟩, t_fall rfl⟩
theorem ok_76_1 : BkOK mi i_76 (bpf P_76) 1 (B_76.getD 1 bk0) := ⟨6, ⟨1, s_iload_n dX4_readSpans_2 rfl, ⟨3, s_sipush dX4_readSpans_3 rfl, rfl⟩⟩, t_ge dX4_readSpans_6 (by decide) rfl⟩
theorem ok_76_2 : BkOK mi i_76 (bpf P_76) 2 (B_76.getD 2 bk0) := ⟨12, ⟨1, s_aload_n dX4_readSpans_9 rfl, ⟨2, s_ldcS (tx := "span") dX4_readSpans_10 (by decide +kernel) (by decide), rfl⟩⟩, t_cv rfl mi_88 mok_88 rfl (fun _ => ⟨rfl, by decide +kernel⟩) (fun hs' e => by cases e; intro E n b h; cases h) (fun q fs As rest h hp hA hr => (call_V (i := i_76) (j := i_88) (C := RX4) (T := TX4) (N := 9) dX4_readSpans_12 mok_88 rfl ⟨by decide, by decide⟩ np_88 rfl rfl wt_305 wt_306 wt_307 hp hA hr rfl).thr (fun _ => True.intro))⟩
theorem ok_76_3 : BkOK mi i_76 (bpf P_76) 3 (B_76.getD 3 bk0) := ⟨15, rfl, t_eq0 dX4_readSpans_15 (by decide) rfl⟩
theorem ok_76_4 : BkOK mi i_76 (bpf P_76) 4 (B_76.getD 4 bk0) := ⟨19, ⟨1, s_aload_n dX4_readSpans_18 rfl, rfl⟩, t_cv rfl mi_89 mok_89 rfl (fun _ => ⟨rfl, by decide +kernel⟩) (fun hs' e => by cases e; intro E n b h; cases h) (fun q fs As rest h hp hA hr => (call_V (i := i_76) (j := i_89) (C := RX4) (T := TX4) (N := 9) dX4_readSpans_19 mok_89 rfl ⟨by decide, by decide⟩ np_89 rfl rfl wt_272 wt_273 wt_274 hp hA hr rfl).thr (fun _ => True.intro))⟩
theorem ok_76_5 : BkOK mi i_76 (bpf P_76) 5 (B_76.getD 5 bk0) := ⟨24, ⟨1, s_aload_n dX4_readSpans_22 rfl, ⟨1, s_aload_n dX4_readSpans_23 rfl, rfl⟩⟩, t_cv rfl mi_77 mok_77 rfl (fun _ => ⟨rfl, by decide +kernel⟩) (fun hs' e => by cases e; intro E n b h; cases h) (fun q fs As rest h hp hA hr => (call_V (i := i_76) (j := i_77) (C := RX4) (T := TX4) (N := 9) dX4_readSpans_24 mok_77 rfl ⟨by decide, by decide⟩ np_77 rfl rfl wt_396 wt_397 wt_398 hp hA hr rfl).thr (fun _ => True.intro))⟩
theorem ok_76_6 : BkOK mi i_76 (bpf P_76) 6 (B_76.getD 6 bk0) := ⟨27, rfl, t_eq0 dX4_readSpans_27 (by decide) rfl⟩
theorem ok_76_7 : BkOK mi i_76 (bpf P_76) 7 (B_76.getD 7 bk0) := ⟨31, ⟨1, s_aload_n dX4_readSpans_30 rfl, rfl⟩, t_cv rfl mi_85 mok_85 rfl (fun _ => ⟨rfl, by decide +kernel⟩) (fun hs' e => by cases e; intro E n b h; cases h) (fun q fs As rest h hp hA hr => (call_V (i := i_76) (j := i_85) (C := RX4) (T := TX4) (N := 9) dX4_readSpans_31 mok_85 rfl ⟨by decide, by decide⟩ np_85 rfl rfl wt_363 wt_364 wt_365 hp hA hr rfl).thr (fun _ => True.intro))⟩
theorem ok_76_8 : BkOK mi i_76 (bpf P_76) 8 (B_76.getD 8 bk0) := ⟨34, rfl, t_ne0 dX4_readSpans_34 (by decide) rfl⟩
theorem ok_76_9 : BkOK mi i_76 (bpf P_76) 9 (B_76.getD 9 bk0) := ⟨38, ⟨1, s_iconst dX4_readSpans_37 rfl, rfl⟩, t_retZ dX4_readSpans_38 rfl⟩
theorem ok_76_10 : BkOK mi i_76 (bpf P_76) 10 (B_76.getD 10 bk0) := ⟨42, ⟨3, s_iinc dX4_readSpans_39 rfl (by decide), rfl⟩, t_go dX4_readSpans_42 (by decide)⟩
theorem ok_76_11 : BkOK mi i_76 (bpf P_76) 11 (B_76.getD 11 bk0) := ⟨46, ⟨1, s_iconst dX4_readSpans_45 rfl, rfl⟩, t_retZ dX4_readSpans_46 rfl⟩
theorem ok_76 : ∀ b, BkOK mi i_76 (bpf P_76) b (B_76.getD b bk0)
  | 0 => ok_76_0
  | 1 => ok_76_1
  | 2 => ok_76_2
  | 3 => ok_76_3
  | 4 => ok_76_4
  | 5 => ok_76_5
  | 6 => ok_76_6
  | 7 => ok_76_7
  | 8 => ok_76_8
  | 9 => ok_76_9
  | 10 => ok_76_10
  | 11 => ok_76_11
  | b + 12 => bk_none mi i_76 (bpf P_76) (b + 12)
theorem ok_77_0 : BkOK mi i_77 (bpf P_77) 0 (B_77.getD 0 bk0) := ⟨4, ⟨1, s_aload_n dX4_readSpan_0 rfl, ⟨1, s_iconst dX4_readSpan_1 rfl, ⟨1, s_iconst dX4_readSpan_2 rfl, ⟨1, s_iconst dX4_readSpan_3 rfl, rfl⟩⟩⟩⟩, t_cv rfl mi_87 mok_87 rfl (fun _ => ⟨rfl, by decide +kernel⟩) (fun hs' e => by cases e; intro E n b h; cases h) (fun q fs As rest h hp hA hr => (call_V (i := i_77) (j := i_87) (C := RX4) (T := TX4) (N := 9) dX4_readSpan_4 mok_87 rfl ⟨by decide, by decide⟩ np_87 rfl rfl wt_386 wt_387 wt_388 hp hA hr rfl).thr (fun _ => True.intro))⟩
theorem ok_77_1 : BkOK mi i_77 (bpf P_77) 1 (B_77.getD 1 bk0) := ⟨7, rfl, t_ne0 dX4_readSpan_7 (by decide) rfl⟩
theorem ok_77_2 : BkOK mi i_77 (bpf P_77) 2 (B_77.getD 2 bk0) := ⟨11, ⟨1, s_iconst dX4_readSpan_10 rfl, rfl⟩, t_retZ dX4_readSpan_11 rfl⟩
theorem ok_77_3 : BkOK mi i_77 (bpf P_77) 3 (B_77.getD 3 bk0) := ⟨23, ⟨1, s_aload_n dX4_readSpan_12 rfl, ⟨3, s_get (C := RX4) (T := TX4) (N := 9) dX4_readSpan_13 rfl (by decide) wt_188 uw_X4, ⟨1, s_istore_n dX4_readSpan_16 rfl (by decide), ⟨1, s_aload_n dX4_readSpan_17 rfl, ⟨1, s_iconst dX4_readSpan_18 rfl, ⟨1, s_iconst dX4_readSpan_19 rfl, ⟨1, s_iload_n dX4_readSpan_20 rfl, ⟨1, s_iconst dX4_readSpan_21 rfl, ⟨1, s_iadd dX4_readSpan_22, rfl⟩⟩⟩⟩⟩⟩⟩⟩⟩, t_cv rfl mi_87 mok_87 rfl (fun _ => ⟨rfl, by decide +kernel⟩) (fun hs' e => by cases e; intro E n b h; cases h) (fun q fs As rest h hp hA hr => (call_V (i := i_77) (j := i_87) (C := RX4) (T := TX4) (N := 9) dX4_readSpan_23 mok_87 rfl ⟨by decide, by decide⟩ np_87 rfl rfl wt_386 wt_387 wt_388 hp hA hr rfl).thr (fun _ => True.intro))⟩
theorem ok_77_4 : BkOK mi i_77 (bpf P_77) 4 (B_77.getD 4 bk0) := ⟨26, rfl, t_ne0 dX4_readSpan_26 (by decide) rfl⟩
theorem ok_77_5 : BkOK mi i_77 (bpf P_77) 5 (B_77.getD 5 bk0) := ⟨30, ⟨1, s_iconst dX4_readSpan_29 rfl, rfl⟩, t_retZ dX4_readSpan_30 rfl⟩
theorem ok_77_6 : BkOK mi i_77 (bpf P_77) 6 (B_77.getD 6 bk0) := ⟨41, ⟨1, s_aload_n dX4_readSpan_31 rfl, ⟨3, s_get (C := RX4) (T := TX4) (N := 9) dX4_readSpan_32 rfl (by decide) wt_188 uw_X4, ⟨1, s_istore_n dX4_readSpan_35 rfl (by decide), ⟨1, s_aload_n dX4_readSpan_36 rfl, ⟨1, s_iconst dX4_readSpan_37 rfl, ⟨2, s_bipush dX4_readSpan_38 rfl, ⟨1, s_iconst dX4_readSpan_40 rfl, rfl⟩⟩⟩⟩⟩⟩⟩, t_cv rfl mi_87 mok_87 rfl (fun _ => ⟨rfl, by decide +kernel⟩) (fun hs' e => by cases e; intro E n b h; cases h) (fun q fs As rest h hp hA hr => (call_V (i := i_77) (j := i_87) (C := RX4) (T := TX4) (N := 9) dX4_readSpan_41 mok_87 rfl ⟨by decide, by decide⟩ np_87 rfl rfl wt_386 wt_387 wt_388 hp hA hr rfl).thr (fun _ => True.intro))⟩
theorem ok_77_7 : BkOK mi i_77 (bpf P_77) 7 (B_77.getD 7 bk0) := ⟨44, rfl, t_ne0 dX4_readSpan_44 (by decide) rfl⟩
theorem ok_77_8 : BkOK mi i_77 (bpf P_77) 8 (B_77.getD 8 bk0) := ⟨48, ⟨1, s_iconst dX4_readSpan_47 rfl, rfl⟩, t_retZ dX4_readSpan_48 rfl⟩
theorem ok_77_9 : BkOK mi i_77 (bpf P_77) 9 (B_77.getD 9 bk0) := ⟨61, ⟨1, s_aload_n dX4_readSpan_49 rfl, ⟨3, s_get (C := RX4) (T := TX4) (N := 9) dX4_readSpan_50 rfl (by decide) wt_188 uw_X4, ⟨2, s_istore dX4_readSpan_53 (by decide), ⟨1, s_aload_n dX4_readSpan_55 rfl, ⟨1, s_iconst dX4_readSpan_56 rfl, ⟨2, s_bipush dX4_readSpan_57 rfl, ⟨2, s_iload dX4_readSpan_59, rfl⟩⟩⟩⟩⟩⟩⟩, t_cv rfl mi_87 mok_87 rfl (fun _ => ⟨rfl, by decide +kernel⟩) (fun hs' e => by cases e; intro E n b h; cases h) (fun q fs As rest h hp hA hr => (call_V (i := i_77) (j := i_87) (C := RX4) (T := TX4) (N := 9) dX4_readSpan_61 mok_87 rfl ⟨by decide, by decide⟩ np_87 rfl rfl wt_386 wt_387 wt_388 hp hA hr rfl).thr (fun _ => True.intro))⟩
theorem ok_77_10 : BkOK mi i_77 (bpf P_77) 10 (B_77.getD 10 bk0) := ⟨64, rfl, t_ne0 dX4_readSpan_64 (by decide) rfl⟩
theorem ok_77_11 : BkOK mi i_77 (bpf P_77) 11 (B_77.getD 11 bk0) := ⟨68, ⟨1, s_iconst dX4_readSpan_67 rfl, rfl⟩, t_retZ dX4_readSpan_68 rfl⟩
theorem ok_77_12 : BkOK mi i_77 (bpf P_77) 12 (B_77.getD 12 bk0) := ⟨81, ⟨1, s_aload_n dX4_readSpan_69 rfl, ⟨3, s_get (C := RX4) (T := TX4) (N := 9) dX4_readSpan_70 rfl (by decide) wt_188 uw_X4, ⟨2, s_istore dX4_readSpan_73 (by decide), ⟨1, s_aload_n dX4_readSpan_75 rfl, ⟨1, s_iconst dX4_readSpan_76 rfl, ⟨2, s_bipush dX4_readSpan_77 rfl, ⟨2, s_iload dX4_readSpan_79, rfl⟩⟩⟩⟩⟩⟩⟩, t_cv rfl mi_87 mok_87 rfl (fun _ => ⟨rfl, by decide +kernel⟩) (fun hs' e => by cases e; intro E n b h; cases h) (fun q fs As rest h hp hA hr => (call_V (i := i_77) (j := i_87) (C := RX4) (T := TX4) (N := 9) dX4_readSpan_81 mok_87 rfl ⟨by decide, by decide⟩ np_87 rfl rfl wt_386 wt_387 wt_388 hp hA hr rfl).thr (fun _ => True.intro))⟩
theorem ok_77_13 : BkOK mi i_77 (bpf P_77) 13 (B_77.getD 13 bk0) := ⟨84, rfl, t_ne0 dX4_readSpan_84 (by decide) rfl⟩
theorem ok_77_14 : BkOK mi i_77 (bpf P_77) 14 (B_77.getD 14 bk0) := ⟨88, ⟨1, s_iconst dX4_readSpan_87 rfl, rfl⟩, t_retZ dX4_readSpan_88 rfl⟩
theorem ok_77_15 : BkOK mi i_77 (bpf P_77) 15 (B_77.getD 15 bk0) := ⟨100, ⟨1, s_aload_n dX4_readSpan_89 rfl, ⟨1, s_iload_n dX4_readSpan_90 rfl, ⟨1, s_iload_n dX4_readSpan_91 rfl, ⟨2, s_iload dX4_readSpan_92, ⟨2, s_iload dX4_readSpan_94, ⟨1, s_aload_n dX4_readSpan_96 rfl, ⟨3, s_get (C := RX4) (T := TX4) (N := 9) dX4_readSpan_97 rfl (by decide) wt_188 uw_X4, rfl⟩⟩⟩⟩⟩⟩⟩, t_cv rfl mi_3 mok_3 rfl (fun _ => ⟨rfl, by decide +kernel⟩) (fun hs' e => by cases e; intro E n b h; cases h) (fun q fs As rest h hp hA hr => (call_V (i := i_77) (j := i_3) (C := RX0) (T := TX0) (N := 10) dX4_readSpan_100 mok_3 rfl ⟨by decide, by decide⟩ np_3 rfl rfl wt_400 wt_63 wt_64 hp hA hr rfl).thr (fun _ => True.intro))⟩
theorem ok_77_16 : BkOK mi i_77 (bpf P_77) 16 (B_77.getD 16 bk0) := ⟨104, ⟨1, s_iconst dX4_readSpan_103 rfl, rfl⟩, t_retZ dX4_readSpan_104 rfl⟩
theorem ok_77 : ∀ b, BkOK mi i_77 (bpf P_77) b (B_77.getD b bk0)
  | 0 => ok_77_0
  | 1 => ok_77_1
  | 2 => ok_77_2
  | 3 => ok_77_3
  | 4 => ok_77_4
  | 5 => ok_77_5
  | 6 => ok_77_6
  | 7 => ok_77_7
  | 8 => ok_77_8
  | 9 => ok_77_9
  | 10 => ok_77_10
  | 11 => ok_77_11
  | 12 => ok_77_12
  | 13 => ok_77_13
  | 14 => ok_77_14
  | 15 => ok_77_15
  | 16 => ok_77_16
  | b + 17 => bk_none mi i_77 (bpf P_77) (b + 17)
theorem ok_78_0 : BkOK mi i_78 (bpf P_78) 0 (B_78.getD 0 bk0) := ⟨2, ⟨1, s_iconst dX4_readEvents_0 rfl, ⟨1, s_istore_n dX4_readEvents_1 rfl (by decide), rfl⟩⟩, t_fall rfl⟩
theorem ok_78_1 : BkOK mi i_78 (bpf P_78) 1 (B_78.getD 1 bk0) := ⟨5, ⟨1, s_iload_n dX4_readEvents_2 rfl, ⟨2, s_bipush dX4_readEvents_3 rfl, rfl⟩⟩, t_gt dX4_readEvents_5 (by decide) rfl⟩
theorem ok_78_2 : BkOK mi i_78 (bpf P_78) 2 (B_78.getD 2 bk0) := ⟨11, ⟨1, s_aload_n dX4_readEvents_8 rfl, ⟨2, s_ldcS (tx := "play") dX4_readEvents_9 (by decide +kernel) (by decide), rfl⟩⟩, t_cv rfl mi_88 mok_88 rfl (fun _ => ⟨rfl, by decide +kernel⟩) (fun hs' e => by cases e; intro E n b h; cases h) (fun q fs As rest h hp hA hr => (call_V (i := i_78) (j := i_88) (C := RX4) (T := TX4) (N := 9) dX4_readEvents_11 mok_88 rfl ⟨by decide, by decide⟩ np_88 rfl rfl wt_305 wt_306 wt_307 hp hA hr rfl).thr (fun _ => True.intro))⟩
theorem ok_78_3 : BkOK mi i_78 (bpf P_78) 3 (B_78.getD 3 bk0) := ⟨14, rfl, t_eq0 dX4_readEvents_14 (by decide) rfl⟩
theorem ok_78_4 : BkOK mi i_78 (bpf P_78) 4 (B_78.getD 4 bk0) := ⟨23, ⟨1, s_aload_n dX4_readEvents_17 rfl, ⟨3, s_getN (C := RX0) (T := TX0) (N := 10) dX4_readEvents_18 rfl (by decide) wt_75 uw_X0, ⟨2, s_bipush dX4_readEvents_21 rfl, rfl⟩⟩⟩, t_lt dX4_readEvents_23 (by decide) rfl⟩
theorem ok_78_5 : BkOK mi i_78 (bpf P_78) 5 (B_78.getD 5 bk0) := ⟨29, ⟨1, s_aload_n dX4_readEvents_26 rfl, ⟨2, s_bipush dX4_readEvents_27 rfl, rfl⟩⟩, t_cv rfl mi_83 mok_83 rfl (fun _ => ⟨rfl, by decide +kernel⟩) (fun hs' e => by cases e; intro E n b h; cases h) (fun q fs As rest h hp hA hr => (call_V (i := i_78) (j := i_83) (C := RX4) (T := TX4) (N := 9) dX4_readEvents_29 mok_83 rfl ⟨by decide, by decide⟩ np_83 rfl rfl wt_357 wt_358 wt_359 hp hA hr rfl).thr (fun _ => True.intro))⟩
theorem ok_78_6 : BkOK mi i_78 (bpf P_78) 6 (B_78.getD 6 bk0) := ⟨32, rfl, t_retZ dX4_readEvents_32 rfl⟩
theorem ok_78_7 : BkOK mi i_78 (bpf P_78) 7 (B_78.getD 7 bk0) := ⟨34, ⟨1, s_aload_n dX4_readEvents_33 rfl, rfl⟩, t_cv rfl mi_89 mok_89 rfl (fun _ => ⟨rfl, by decide +kernel⟩) (fun hs' e => by cases e; intro E n b h; cases h) (fun q fs As rest h hp hA hr => (call_V (i := i_78) (j := i_89) (C := RX4) (T := TX4) (N := 9) dX4_readEvents_34 mok_89 rfl ⟨by decide, by decide⟩ np_89 rfl rfl wt_272 wt_273 wt_274 hp hA hr rfl).thr (fun _ => True.intro))⟩
theorem ok_78_8 : BkOK mi i_78 (bpf P_78) 8 (B_78.getD 8 bk0) := ⟨42, ⟨1, s_aload_n dX4_readEvents_37 rfl, ⟨1, s_aload_n dX4_readEvents_38 rfl, ⟨3, s_getN (C := RX0) (T := TX0) (N := 10) dX4_readEvents_39 rfl (by decide) wt_75 uw_X0, rfl⟩⟩⟩, t_cv rfl mi_4 mok_4 rfl (fun _ => ⟨rfl, by decide +kernel⟩) (fun hs' e => by cases e; intro E n b h; cases h) (fun q fs As rest h hp hA hr => (call_V (i := i_78) (j := i_4) (C := RX0) (T := TX0) (N := 10) dX4_readEvents_42 mok_4 rfl ⟨by decide, by decide⟩ np_4 rfl rfl wt_406 wt_407 wt_408 hp hA hr rfl).thr (fun _ => True.intro))⟩
theorem ok_78_9 : BkOK mi i_78 (bpf P_78) 9 (B_78.getD 9 bk0) := ⟨55, ⟨1, s_aload_n dX4_readEvents_45 rfl, ⟨3, s_getN (C := RX0) (T := TX0) (N := 10) dX4_readEvents_46 rfl (by decide) wt_75 uw_X0, ⟨1, s_iconst dX4_readEvents_49 rfl, ⟨1, s_isub dX4_readEvents_50, ⟨1, s_istore_n dX4_readEvents_51 rfl (by decide), ⟨1, s_aload_n dX4_readEvents_52 rfl, ⟨1, s_aload_n dX4_readEvents_53 rfl, ⟨1, s_iload_n dX4_readEvents_54 rfl, rfl⟩⟩⟩⟩⟩⟩⟩⟩, t_cv rfl mi_79 mok_79 rfl (fun _ => ⟨rfl, by decide +kernel⟩) (fun hs' e => by cases e; intro E n b h; cases h) (fun q fs As rest h hp hA hr => (call_V (i := i_78) (j := i_79) (C := RX4) (T := TX4) (N := 9) dX4_readEvents_55 mok_79 rfl ⟨by decide, by decide⟩ np_79 rfl rfl wt_418 wt_419 wt_420 hp hA hr rfl).thr (fun _ => True.intro))⟩
theorem ok_78_10 : BkOK mi i_78 (bpf P_78) 10 (B_78.getD 10 bk0) := ⟨58, rfl, t_eq0 dX4_readEvents_58 (by decide) rfl⟩
theorem ok_78_11 : BkOK mi i_78 (bpf P_78) 11 (B_78.getD 11 bk0) := ⟨64, ⟨1, s_aload_n dX4_readEvents_61 rfl, ⟨1, s_aload_n dX4_readEvents_62 rfl, ⟨1, s_iload_n dX4_readEvents_63 rfl, rfl⟩⟩⟩, t_cv rfl mi_80 mok_80 rfl (fun _ => ⟨rfl, by decide +kernel⟩) (fun hs' e => by cases e; intro E n b h; cases h) (fun q fs As rest h hp hA hr => (call_V (i := i_78) (j := i_80) (C := RX4) (T := TX4) (N := 9) dX4_readEvents_64 mok_80 rfl ⟨by decide, by decide⟩ np_80 rfl rfl wt_426 wt_427 wt_428 hp hA hr rfl).thr (fun _ => True.intro))⟩
theorem ok_78_12 : BkOK mi i_78 (bpf P_78) 12 (B_78.getD 12 bk0) := ⟨67, rfl, t_eq0 dX4_readEvents_67 (by decide) rfl⟩
theorem ok_78_13 : BkOK mi i_78 (bpf P_78) 13 (B_78.getD 13 bk0) := ⟨73, ⟨1, s_aload_n dX4_readEvents_70 rfl, ⟨1, s_aload_n dX4_readEvents_71 rfl, ⟨1, s_iload_n dX4_readEvents_72 rfl, rfl⟩⟩⟩, t_cv rfl mi_81 mok_81 rfl (fun _ => ⟨rfl, by decide +kernel⟩) (fun hs' e => by cases e; intro E n b h; cases h) (fun q fs As rest h hp hA hr => (call_V (i := i_78) (j := i_81) (C := RX4) (T := TX4) (N := 9) dX4_readEvents_73 mok_81 rfl ⟨by decide, by decide⟩ np_81 rfl rfl wt_431 wt_432 wt_433 hp hA hr rfl).thr (fun _ => True.intro))⟩
theorem ok_78_14 : BkOK mi i_78 (bpf P_78) 14 (B_78.getD 14 bk0) := ⟨76, rfl, t_eq0 dX4_readEvents_76 (by decide) rfl⟩
theorem ok_78_15 : BkOK mi i_78 (bpf P_78) 15 (B_78.getD 15 bk0) := ⟨80, ⟨1, s_aload_n dX4_readEvents_79 rfl, rfl⟩, t_cv rfl mi_85 mok_85 rfl (fun _ => ⟨rfl, by decide +kernel⟩) (fun hs' e => by cases e; intro E n b h; cases h) (fun q fs As rest h hp hA hr => (call_V (i := i_78) (j := i_85) (C := RX4) (T := TX4) (N := 9) dX4_readEvents_80 mok_85 rfl ⟨by decide, by decide⟩ np_85 rfl rfl wt_363 wt_364 wt_365 hp hA hr rfl).thr (fun _ => True.intro))⟩
theorem ok_78_16 : BkOK mi i_78 (bpf P_78) 16 (B_78.getD 16 bk0) := ⟨83, rfl, t_ne0 dX4_readEvents_83 (by decide) rfl⟩
theorem ok_78_17 : BkOK mi i_78 (bpf P_78) 17 (B_78.getD 17 bk0) := ⟨87, ⟨1, s_iconst dX4_readEvents_86 rfl, rfl⟩, t_retZ dX4_readEvents_87 rfl⟩
theorem ok_78_18 : BkOK mi i_78 (bpf P_78) 18 (B_78.getD 18 bk0) := ⟨91, ⟨3, s_iinc dX4_readEvents_88 rfl (by decide), rfl⟩, t_go dX4_readEvents_91 (by decide)⟩
theorem ok_78_19 : BkOK mi i_78 (bpf P_78) 19 (B_78.getD 19 bk0) := ⟨95, ⟨1, s_iconst dX4_readEvents_94 rfl, rfl⟩, t_retZ dX4_readEvents_95 rfl⟩
theorem ok_78 : ∀ b, BkOK mi i_78 (bpf P_78) b (B_78.getD b bk0)
  | 0 => ok_78_0
  | 1 => ok_78_1
  | 2 => ok_78_2
  | 3 => ok_78_3
  | 4 => ok_78_4
  | 5 => ok_78_5
  | 6 => ok_78_6
  | 7 => ok_78_7
  | 8 => ok_78_8
  | 9 => ok_78_9
  | 10 => ok_78_10
  | 11 => ok_78_11
  | 12 => ok_78_12
  | 13 => ok_78_13
  | 14 => ok_78_14
  | 15 => ok_78_15
  | 16 => ok_78_16
  | 17 => ok_78_17
  | 18 => ok_78_18
  | 19 => ok_78_19
  | b + 20 => bk_none mi i_78 (bpf P_78) (b + 20)
theorem ok_79_0 : BkOK mi i_79 (bpf P_79) 0 (B_79.getD 0 bk0) := ⟨6, ⟨2, s_bipush dX4_readKeys_0 rfl, ⟨1, s_istore_n dX4_readKeys_2 rfl (by decide), ⟨1, s_iconst dX4_readKeys_3 rfl, ⟨2, s_istore dX4_readKeys_4 (by decide), rfl⟩⟩⟩⟩, t_fall rfl⟩
theorem ok_79_1 : BkOK mi i_79 (bpf P_79) 1 (B_79.getD 1 bk0) := ⟨8, ⟨2, s_iload dX4_readKeys_6, rfl⟩, t_eq0 dX4_readKeys_8 (by decide) rfl⟩
theorem ok_79_2 : BkOK mi i_79 (bpf P_79) 2 (B_79.getD 2 bk0) := ⟨16, ⟨1, s_aload_n dX4_readKeys_11 rfl, ⟨3, s_get (C := RX4) (T := TX4) (N := 9) dX4_readKeys_12 rfl (by decide) wt_184 uw_X4, ⟨1, s_iconst dX4_readKeys_15 rfl, rfl⟩⟩⟩, t_nei dX4_readKeys_16 (by decide) rfl⟩
theorem ok_79_3 : BkOK mi i_79 (bpf P_79) 3 (B_79.getD 3 bk0) := ⟨22, ⟨2, s_iload dX4_readKeys_19, ⟨1, s_iconst dX4_readKeys_21 rfl, rfl⟩⟩, t_lt dX4_readKeys_22 (by decide) rfl⟩
theorem ok_79_4 : BkOK mi i_79 (bpf P_79) 4 (B_79.getD 4 bk0) := ⟨28, ⟨1, s_aload_n dX4_readKeys_25 rfl, ⟨2, s_bipush dX4_readKeys_26 rfl, rfl⟩⟩, t_cv rfl mi_83 mok_83 rfl (fun _ => ⟨rfl, by decide +kernel⟩) (fun hs' e => by cases e; intro E n b h; cases h) (fun q fs As rest h hp hA hr => (call_V (i := i_79) (j := i_83) (C := RX4) (T := TX4) (N := 9) dX4_readKeys_28 mok_83 rfl ⟨by decide, by decide⟩ np_83 rfl rfl wt_357 wt_358 wt_359 hp hA hr rfl).thr (fun _ => True.intro))⟩
theorem ok_79_5 : BkOK mi i_79 (bpf P_79) 5 (B_79.getD 5 bk0) := ⟨31, rfl, t_retZ dX4_readKeys_31 rfl⟩
theorem ok_79_6 : BkOK mi i_79 (bpf P_79) 6 (B_79.getD 6 bk0) := ⟨40, ⟨1, s_aload_n dX4_readKeys_32 rfl, ⟨2, s_bipush dX4_readKeys_33 rfl, ⟨2, s_bipush dX4_readKeys_35 rfl, ⟨1, s_iload_n dX4_readKeys_37 rfl, ⟨1, s_iconst dX4_readKeys_38 rfl, ⟨1, s_iadd dX4_readKeys_39, rfl⟩⟩⟩⟩⟩⟩, t_cv rfl mi_87 mok_87 rfl (fun _ => ⟨rfl, by decide +kernel⟩) (fun hs' e => by cases e; intro E n b h; cases h) (fun q fs As rest h hp hA hr => (call_V (i := i_79) (j := i_87) (C := RX4) (T := TX4) (N := 9) dX4_readKeys_40 mok_87 rfl ⟨by decide, by decide⟩ np_87 rfl rfl wt_386 wt_387 wt_388 hp hA hr rfl).thr (fun _ => True.intro))⟩
theorem ok_79_7 : BkOK mi i_79 (bpf P_79) 7 (B_79.getD 7 bk0) := ⟨43, rfl, t_ne0 dX4_readKeys_43 (by decide) rfl⟩
theorem ok_79_8 : BkOK mi i_79 (bpf P_79) 8 (B_79.getD 8 bk0) := ⟨47, ⟨1, s_iconst dX4_readKeys_46 rfl, rfl⟩, t_retZ dX4_readKeys_47 rfl⟩
theorem ok_79_9 : BkOK mi i_79 (bpf P_79) 9 (B_79.getD 9 bk0) := ⟨56, ⟨1, s_aload_n dX4_readKeys_48 rfl, ⟨1, s_iload_n dX4_readKeys_49 rfl, ⟨2, s_iload dX4_readKeys_50, ⟨1, s_aload_n dX4_readKeys_52 rfl, ⟨3, s_get (C := RX4) (T := TX4) (N := 9) dX4_readKeys_53 rfl (by decide) wt_188 uw_X4, rfl⟩⟩⟩⟩⟩, t_cv rfl mi_7 mok_7 rfl (fun _ => ⟨rfl, by decide +kernel⟩) (fun hs' e => by cases e; intro E n b h; cases h) (fun q fs As rest h hp hA hr => (call_V (i := i_79) (j := i_7) (C := RX0) (T := TX0) (N := 10) dX4_readKeys_56 mok_7 rfl ⟨by decide, by decide⟩ np_7 rfl rfl wt_422 wt_423 wt_424 hp hA hr rfl).thr (fun _ => True.intro))⟩
theorem ok_79_10 : BkOK mi i_79 (bpf P_79) 10 (B_79.getD 10 bk0) := ⟨67, ⟨1, s_aload_n dX4_readKeys_59 rfl, ⟨3, s_get (C := RX4) (T := TX4) (N := 9) dX4_readKeys_60 rfl (by decide) wt_188 uw_X4, ⟨1, s_istore_n dX4_readKeys_63 rfl (by decide), ⟨3, s_iinc dX4_readKeys_64 rfl (by decide), rfl⟩⟩⟩⟩, t_go dX4_readKeys_67 (by decide)⟩
theorem ok_79_11 : BkOK mi i_79 (bpf P_79) 11 (B_79.getD 11 bk0) := ⟨71, ⟨1, s_iconst dX4_readKeys_70 rfl, rfl⟩, t_retZ dX4_readKeys_71 rfl⟩
theorem ok_79 : ∀ b, BkOK mi i_79 (bpf P_79) b (B_79.getD b bk0)
  | 0 => ok_79_0
  | 1 => ok_79_1
  | 2 => ok_79_2
  | 3 => ok_79_3
  | 4 => ok_79_4
  | 5 => ok_79_5
  | 6 => ok_79_6
  | 7 => ok_79_7
  | 8 => ok_79_8
  | 9 => ok_79_9
  | 10 => ok_79_10
  | 11 => ok_79_11
  | b + 12 => bk_none mi i_79 (bpf P_79) (b + 12)
theorem ok_80_0 : BkOK mi i_80 (bpf P_80) 0 (B_80.getD 0 bk0) := ⟨3, ⟨1, s_aload_n dX4_readRest_0 rfl, ⟨2, s_ldcS (tx := "rest") dX4_readRest_1 (by decide +kernel) (by decide), rfl⟩⟩, t_cv rfl mi_88 mok_88 rfl (fun _ => ⟨rfl, by decide +kernel⟩) (fun hs' e => by cases e; intro E n b h; cases h) (fun q fs As rest h hp hA hr => (call_V (i := i_80) (j := i_88) (C := RX4) (T := TX4) (N := 9) dX4_readRest_3 mok_88 rfl ⟨by decide, by decide⟩ np_88 rfl rfl wt_305 wt_306 wt_307 hp hA hr rfl).thr (fun _ => True.intro))⟩
theorem ok_80_1 : BkOK mi i_80 (bpf P_80) 1 (B_80.getD 1 bk0) := ⟨6, rfl, t_ne0 dX4_readRest_6 (by decide) rfl⟩
theorem ok_80_2 : BkOK mi i_80 (bpf P_80) 2 (B_80.getD 2 bk0) := ⟨10, ⟨1, s_iconst dX4_readRest_9 rfl, rfl⟩, t_retZ dX4_readRest_10 rfl⟩
theorem ok_80_3 : BkOK mi i_80 (bpf P_80) 3 (B_80.getD 3 bk0) := ⟨12, ⟨1, s_aload_n dX4_readRest_11 rfl, rfl⟩, t_cv rfl mi_89 mok_89 rfl (fun _ => ⟨rfl, by decide +kernel⟩) (fun hs' e => by cases e; intro E n b h; cases h) (fun q fs As rest h hp hA hr => (call_V (i := i_80) (j := i_89) (C := RX4) (T := TX4) (N := 9) dX4_readRest_12 mok_89 rfl ⟨by decide, by decide⟩ np_89 rfl rfl wt_272 wt_273 wt_274 hp hA hr rfl).thr (fun _ => True.intro))⟩
theorem ok_80_4 : BkOK mi i_80 (bpf P_80) 4 (B_80.getD 4 bk0) := ⟨20, ⟨1, s_aload_n dX4_readRest_15 rfl, ⟨1, s_iconst dX4_readRest_16 rfl, ⟨2, s_bipush dX4_readRest_17 rfl, ⟨1, s_iconst dX4_readRest_19 rfl, rfl⟩⟩⟩⟩, t_cv rfl mi_87 mok_87 rfl (fun _ => ⟨rfl, by decide +kernel⟩) (fun hs' e => by cases e; intro E n b h; cases h) (fun q fs As rest h hp hA hr => (call_V (i := i_80) (j := i_87) (C := RX4) (T := TX4) (N := 9) dX4_readRest_20 mok_87 rfl ⟨by decide, by decide⟩ np_87 rfl rfl wt_386 wt_387 wt_388 hp hA hr rfl).thr (fun _ => True.intro))⟩
theorem ok_80_5 : BkOK mi i_80 (bpf P_80) 5 (B_80.getD 5 bk0) := ⟨23, rfl, t_ne0 dX4_readRest_23 (by decide) rfl⟩
theorem ok_80_6 : BkOK mi i_80 (bpf P_80) 6 (B_80.getD 6 bk0) := ⟨27, ⟨1, s_iconst dX4_readRest_26 rfl, rfl⟩, t_retZ dX4_readRest_27 rfl⟩
theorem ok_80_7 : BkOK mi i_80 (bpf P_80) 7 (B_80.getD 7 bk0) := ⟨37, ⟨1, s_aload_n dX4_readRest_28 rfl, ⟨3, s_getN (C := RX0) (T := TX0) (N := 10) dX4_readRest_29 rfl (by decide) wt_83 uw_X0, ⟨1, s_iload_n dX4_readRest_32 rfl, ⟨1, s_aload_n dX4_readRest_33 rfl, ⟨3, s_get (C := RX4) (T := TX4) (N := 9) dX4_readRest_34 rfl (by decide) wt_188 uw_X4, rfl⟩⟩⟩⟩⟩, t_cv rfl mi_63 mok_63 rfl (fun _ => ⟨rfl, by decide +kernel⟩) (fun hs' e => by cases e; intro E n b h; cases h) (fun q fs As rest h hp hA hr => (call_V (i := i_80) (j := i_63) (C := RX2) (T := TX2) (N := 1) dX4_readRest_37 mok_63 rfl ⟨by decide, by decide⟩ np_63 rfl rfl wt_390 wt_57 wt_58 hp hA hr rfl).thr (fun _ => True.intro))⟩
theorem ok_80_8 : BkOK mi i_80 (bpf P_80) 8 (B_80.getD 8 bk0) := ⟨41, ⟨1, s_iconst dX4_readRest_40 rfl, rfl⟩, t_retZ dX4_readRest_41 rfl⟩
theorem ok_80 : ∀ b, BkOK mi i_80 (bpf P_80) b (B_80.getD b bk0)
  | 0 => ok_80_0
  | 1 => ok_80_1
  | 2 => ok_80_2
  | 3 => ok_80_3
  | 4 => ok_80_4
  | 5 => ok_80_5
  | 6 => ok_80_6
  | 7 => ok_80_7
  | 8 => ok_80_8
  | b + 9 => bk_none mi i_80 (bpf P_80) (b + 9)
theorem ok_81_0 : BkOK mi i_81 (bpf P_81) 0 (B_81.getD 0 bk0) := ⟨3, ⟨1, s_aload_n dX4_readFingers_0 rfl, ⟨2, s_ldcS (tx := "by") dX4_readFingers_1 (by decide +kernel) (by decide), rfl⟩⟩, t_cv rfl mi_88 mok_88 rfl (fun _ => ⟨rfl, by decide +kernel⟩) (fun hs' e => by cases e; intro E n b h; cases h) (fun q fs As rest h hp hA hr => (call_V (i := i_81) (j := i_88) (C := RX4) (T := TX4) (N := 9) dX4_readFingers_3 mok_88 rfl ⟨by decide, by decide⟩ np_88 rfl rfl wt_305 wt_306 wt_307 hp hA hr rfl).thr (fun _ => True.intro))⟩
theorem ok_81_1 : BkOK mi i_81 (bpf P_81) 1 (B_81.getD 1 bk0) := ⟨6, rfl, t_ne0 dX4_readFingers_6 (by decide) rfl⟩
theorem ok_81_2 : BkOK mi i_81 (bpf P_81) 2 (B_81.getD 2 bk0) := ⟨10, ⟨1, s_iconst dX4_readFingers_9 rfl, rfl⟩, t_retZ dX4_readFingers_10 rfl⟩
theorem ok_81_3 : BkOK mi i_81 (bpf P_81) 3 (B_81.getD 3 bk0) := ⟨12, ⟨1, s_aload_n dX4_readFingers_11 rfl, rfl⟩, t_cv rfl mi_89 mok_89 rfl (fun _ => ⟨rfl, by decide +kernel⟩) (fun hs' e => by cases e; intro E n b h; cases h) (fun q fs As rest h hp hA hr => (call_V (i := i_81) (j := i_89) (C := RX4) (T := TX4) (N := 9) dX4_readFingers_12 mok_89 rfl ⟨by decide, by decide⟩ np_89 rfl rfl wt_272 wt_273 wt_274 hp hA hr rfl).thr (fun _ => True.intro))⟩
theorem ok_81_4 : BkOK mi i_81 (bpf P_81) 4 (B_81.getD 4 bk0) := ⟨17, ⟨1, s_iconst dX4_readFingers_15 rfl, ⟨1, s_istore_n dX4_readFingers_16 rfl (by decide), rfl⟩⟩, t_fall rfl⟩
theorem ok_81_5 : BkOK mi i_81 (bpf P_81) 5 (B_81.getD 5 bk0) := ⟨23, ⟨1, s_iload_n dX4_readFingers_17 rfl, ⟨1, s_aload_n dX4_readFingers_18 rfl, ⟨3, s_getN (C := RX0) (T := TX0) (N := 10) dX4_readFingers_19 rfl (by decide) wt_77 uw_X0, ⟨1, s_iload_n dX4_readFingers_22 rfl, rfl⟩⟩⟩⟩, t_cv rfl mi_62 mok_62 rfl (fun _ => ⟨rfl, by decide +kernel⟩) (fun hs' e => by cases e; intro E n b h; cases h) (fun q fs As rest h hp hA hr => (call_V (i := i_81) (j := i_62) (C := RX2) (T := TX2) (N := 1) dX4_readFingers_23 mok_62 rfl ⟨by decide, by decide⟩ np_62 rfl rfl wt_276 wt_277 wt_278 hp hA hr rfl).thr (fun _ => True.intro))⟩
theorem ok_81_6 : BkOK mi i_81 (bpf P_81) 6 (B_81.getD 6 bk0) := ⟨26, rfl, t_ge dX4_readFingers_26 (by decide) rfl⟩
theorem ok_81_7 : BkOK mi i_81 (bpf P_81) 7 (B_81.getD 7 bk0) := ⟨33, ⟨1, s_aload_n dX4_readFingers_29 rfl, ⟨1, s_iconst dX4_readFingers_30 rfl, ⟨1, s_iconst dX4_readFingers_31 rfl, ⟨1, s_iconst dX4_readFingers_32 rfl, rfl⟩⟩⟩⟩, t_cv rfl mi_87 mok_87 rfl (fun _ => ⟨rfl, by decide +kernel⟩) (fun hs' e => by cases e; intro E n b h; cases h) (fun q fs As rest h hp hA hr => (call_V (i := i_81) (j := i_87) (C := RX4) (T := TX4) (N := 9) dX4_readFingers_33 mok_87 rfl ⟨by decide, by decide⟩ np_87 rfl rfl wt_386 wt_387 wt_388 hp hA hr rfl).thr (fun _ => True.intro))⟩
theorem ok_81_8 : BkOK mi i_81 (bpf P_81) 8 (B_81.getD 8 bk0) := ⟨36, rfl, t_ne0 dX4_readFingers_36 (by decide) rfl⟩
theorem ok_81_9 : BkOK mi i_81 (bpf P_81) 9 (B_81.getD 9 bk0) := ⟨40, ⟨1, s_iconst dX4_readFingers_39 rfl, rfl⟩, t_retZ dX4_readFingers_40 rfl⟩
theorem ok_81_10 : BkOK mi i_81 (bpf P_81) 10 (B_81.getD 10 bk0) := ⟨47, ⟨1, s_aload_n dX4_readFingers_41 rfl, ⟨3, s_getN (C := RX0) (T := TX0) (N := 10) dX4_readFingers_42 rfl (by decide) wt_87 uw_X0, ⟨1, s_iload_n dX4_readFingers_45 rfl, ⟨1, s_iload_n dX4_readFingers_46 rfl, rfl⟩⟩⟩⟩, t_cs rfl mi_146 mok_146 rfl (fun As rest h hA hr => call_SN dX4_readFingers_47 mok_146 rfl ⟨by decide, by decide⟩ np_146 wt_436 wt_416 hA hr)⟩
theorem ok_81_11 : BkOK mi i_81 (bpf P_81) 11 (B_81.getD 11 bk0) := ⟨54, ⟨1, s_aload_n dX4_readFingers_50 rfl, ⟨3, s_get (C := RX4) (T := TX4) (N := 9) dX4_readFingers_51 rfl (by decide) wt_188 uw_X4, rfl⟩⟩, t_ne0 dX4_readFingers_54 (by decide) rfl⟩
theorem ok_81_12 : BkOK mi i_81 (bpf P_81) 12 (B_81.getD 12 bk0) := ⟨59, ⟨2, s_bipush dX4_readFingers_57 rfl, rfl⟩, t_go dX4_readFingers_59 (by decide)⟩
theorem ok_81_13 : BkOK mi i_81 (bpf P_81) 13 (B_81.getD 13 bk0) := ⟨66, ⟨1, s_aload_n dX4_readFingers_62 rfl, ⟨3, s_get (C := RX4) (T := TX4) (N := 9) dX4_readFingers_63 rfl (by decide) wt_188 uw_X4, rfl⟩⟩, t_cs rfl mi_145 mok_145 rfl (fun As rest h hA hr => call_SN dX4_readFingers_66 mok_145 rfl ⟨by decide, by decide⟩ np_145 wt_437 wt_438 hA hr)⟩
theorem ok_81_14 : BkOK mi i_81 (bpf P_81) 14 (B_81.getD 14 bk0) := ⟨69, rfl, t_cv rfl mi_63 mok_63 rfl (fun _ => ⟨rfl, by decide +kernel⟩) (fun hs' e => by cases e; intro E n b h; cases h) (fun q fs As rest h hp hA hr => (call_V (i := i_81) (j := i_63) (C := RX2) (T := TX2) (N := 1) dX4_readFingers_69 mok_63 rfl ⟨by decide, by decide⟩ np_63 rfl rfl wt_390 wt_57 wt_58 hp hA hr rfl).thr (fun _ => True.intro))⟩
theorem ok_81_15 : BkOK mi i_81 (bpf P_81) 15 (B_81.getD 15 bk0) := ⟨75, ⟨3, s_iinc dX4_readFingers_72 rfl (by decide), rfl⟩, t_go dX4_readFingers_75 (by decide)⟩
theorem ok_81_16 : BkOK mi i_81 (bpf P_81) 16 (B_81.getD 16 bk0) := ⟨83, ⟨1, s_aload_n dX4_readFingers_78 rfl, ⟨3, s_get (C := RX4) (T := TX4) (N := 9) dX4_readFingers_79 rfl (by decide) wt_184 uw_X4, ⟨1, s_iconst dX4_readFingers_82 rfl, rfl⟩⟩⟩, t_nei dX4_readFingers_83 (by decide) rfl⟩
theorem ok_81_17 : BkOK mi i_81 (bpf P_81) 17 (B_81.getD 17 bk0) := ⟨89, ⟨1, s_aload_n dX4_readFingers_86 rfl, ⟨2, s_bipush dX4_readFingers_87 rfl, rfl⟩⟩, t_cv rfl mi_83 mok_83 rfl (fun _ => ⟨rfl, by decide +kernel⟩) (fun hs' e => by cases e; intro E n b h; cases h) (fun q fs As rest h hp hA hr => (call_V (i := i_81) (j := i_83) (C := RX4) (T := TX4) (N := 9) dX4_readFingers_89 mok_83 rfl ⟨by decide, by decide⟩ np_83 rfl rfl wt_357 wt_358 wt_359 hp hA hr rfl).thr (fun _ => True.intro))⟩
theorem ok_81_18 : BkOK mi i_81 (bpf P_81) 18 (B_81.getD 18 bk0) := ⟨92, rfl, t_eq0 dX4_readFingers_92 (by decide) rfl⟩
theorem ok_81_19 : BkOK mi i_81 (bpf P_81) 19 (B_81.getD 19 bk0) := ⟨96, ⟨1, s_iconst dX4_readFingers_95 rfl, rfl⟩, t_go dX4_readFingers_96 (by decide)⟩
theorem ok_81_20 : BkOK mi i_81 (bpf P_81) 20 (B_81.getD 20 bk0) := ⟨100, ⟨1, s_iconst dX4_readFingers_99 rfl, rfl⟩, t_fall rfl⟩
theorem ok_81_21 : BkOK mi i_81 (bpf P_81) 21 (B_81.getD 21 bk0) := ⟨100, rfl, t_retZ dX4_readFingers_100 rfl⟩
theorem ok_81 : ∀ b, BkOK mi i_81 (bpf P_81) b (B_81.getD b bk0)
  | 0 => ok_81_0
  | 1 => ok_81_1
  | 2 => ok_81_2
  | 3 => ok_81_3
  | 4 => ok_81_4
  | 5 => ok_81_5
  | 6 => ok_81_6
  | 7 => ok_81_7
  | 8 => ok_81_8
  | 9 => ok_81_9
  | 10 => ok_81_10
  | 11 => ok_81_11
  | 12 => ok_81_12
  | 13 => ok_81_13
  | 14 => ok_81_14
  | 15 => ok_81_15
  | 16 => ok_81_16
  | 17 => ok_81_17
  | 18 => ok_81_18
  | 19 => ok_81_19
  | 20 => ok_81_20
  | 21 => ok_81_21
  | b + 22 => bk_none mi i_81 (bpf P_81) (b + 22)
theorem ok_82_0 : BkOK mi i_82 (bpf P_82) 0 (B_82.getD 0 bk0) := ⟨11, ⟨1, s_aload_n dX4_beginReading_0 rfl, ⟨1, s_iconst dX4_beginReading_1 rfl, ⟨3, s_put (C := RX4) (T := TX4) (N := 9) tyX4 tyX4_ok nmX4 dX4_beginReading_2 rfl (by decide) rfl (tyX4_ok 3 (by decide)) wt_182 uw_X4, ⟨1, s_aload_n dX4_beginReading_5 rfl, ⟨1, s_iconst dX4_beginReading_6 rfl, ⟨3, s_put (C := RX4) (T := TX4) (N := 9) tyX4 tyX4_ok nmX4 dX4_beginReading_7 rfl (by decide) rfl (tyX4_ok 6 (by decide)) wt_186 uw_X4, ⟨1, s_aload_n dX4_beginReading_10 rfl, rfl⟩⟩⟩⟩⟩⟩⟩, t_cv rfl mi_89 mok_89 rfl (fun _ => ⟨rfl, by decide +kernel⟩) (fun hs' e => by cases e; intro E n b h; cases h) (fun q fs As rest h hp hA hr => (call_V (i := i_82) (j := i_89) (C := RX4) (T := TX4) (N := 9) dX4_beginReading_11 mok_89 rfl ⟨by decide, by decide⟩ np_89 rfl rfl wt_272 wt_273 wt_274 hp hA hr rfl).thr (fun _ => True.intro))⟩
theorem ok_82_1 : BkOK mi i_82 (bpf P_82) 1 (B_82.getD 1 bk0) := ⟨14, rfl, t_retV dX4_beginReading_14 rfl⟩
theorem ok_82 : ∀ b, BkOK mi i_82 (bpf P_82) b (B_82.getD b bk0)
  | 0 => ok_82_0
  | 1 => ok_82_1
  | b + 2 => bk_none mi i_82 (bpf P_82) (b + 2)
theorem ok_83_0 : BkOK mi i_83 (bpf P_83) 0 (B_83.getD 0 bk0) := ⟨14, ⟨1, s_aload_n dX4_fail_0 rfl, ⟨1, s_iload_n dX4_fail_1 rfl, ⟨3, s_put (C := RX4) (T := TX4) (N := 9) tyX4 tyX4_ok nmX4 dX4_fail_2 rfl (by decide) rfl (tyX4_ok 2 (by decide)) wt_180 uw_X4, ⟨1, s_aload_n dX4_fail_5 rfl, ⟨1, s_aload_n dX4_fail_6 rfl, ⟨3, s_get (C := RX4) (T := TX4) (N := 9) dX4_fail_7 rfl (by decide) wt_185 uw_X4, ⟨3, s_put (C := RX4) (T := TX4) (N := 9) tyX4 tyX4_ok nmX4 dX4_fail_10 rfl (by decide) rfl (tyX4_ok 3 (by decide)) wt_182 uw_X4, ⟨1, s_iconst dX4_fail_13 rfl, rfl⟩⟩⟩⟩⟩⟩⟩⟩, t_retZ dX4_fail_14 rfl⟩
theorem ok_83 : ∀ b, BkOK mi i_83 (bpf P_83) b (B_83.getD b bk0)
  | 0 => ok_83_0
  | b + 1 => bk_none mi i_83 (bpf P_83) (b + 1)
theorem ok_84_0 : BkOK mi i_84 (bpf P_84) 0 (B_84.getD 0 bk0) := ⟨2, ⟨1, s_aload_n dX4_takeWord_0 rfl, ⟨1, s_aload_n dX4_takeWord_1 rfl, rfl⟩⟩, t_cv rfl mi_88 mok_88 rfl (fun _ => ⟨rfl, by decide +kernel⟩) (fun hs' e => by cases e; intro E n b h; cases h) (fun q fs As rest h hp hA hr => (call_V (i := i_84) (j := i_88) (C := RX4) (T := TX4) (N := 9) dX4_takeWord_2 mok_88 rfl ⟨by decide, by decide⟩ np_88 rfl rfl wt_305 wt_306 wt_307 hp hA hr rfl).thr (fun _ => True.intro))⟩
theorem ok_84_1 : BkOK mi i_84 (bpf P_84) 1 (B_84.getD 1 bk0) := ⟨5, rfl, t_ne0 dX4_takeWord_5 (by decide) rfl⟩
theorem ok_84_2 : BkOK mi i_84 (bpf P_84) 2 (B_84.getD 2 bk0) := ⟨11, ⟨1, s_aload_n dX4_takeWord_8 rfl, ⟨2, s_bipush dX4_takeWord_9 rfl, rfl⟩⟩, t_cv rfl mi_83 mok_83 rfl (fun _ => ⟨rfl, by decide +kernel⟩) (fun hs' e => by cases e; intro E n b h; cases h) (fun q fs As rest h hp hA hr => (call_V (i := i_84) (j := i_83) (C := RX4) (T := TX4) (N := 9) dX4_takeWord_11 mok_83 rfl ⟨by decide, by decide⟩ np_83 rfl rfl wt_357 wt_358 wt_359 hp hA hr rfl).thr (fun _ => True.intro))⟩
theorem ok_84_3 : BkOK mi i_84 (bpf P_84) 3 (B_84.getD 3 bk0) := ⟨14, rfl, t_retZ dX4_takeWord_14 rfl⟩
theorem ok_84_4 : BkOK mi i_84 (bpf P_84) 4 (B_84.getD 4 bk0) := ⟨16, ⟨1, s_aload_n dX4_takeWord_15 rfl, rfl⟩, t_cv rfl mi_89 mok_89 rfl (fun _ => ⟨rfl, by decide +kernel⟩) (fun hs' e => by cases e; intro E n b h; cases h) (fun q fs As rest h hp hA hr => (call_V (i := i_84) (j := i_89) (C := RX4) (T := TX4) (N := 9) dX4_takeWord_16 mok_89 rfl ⟨by decide, by decide⟩ np_89 rfl rfl wt_272 wt_273 wt_274 hp hA hr rfl).thr (fun _ => True.intro))⟩
theorem ok_84_5 : BkOK mi i_84 (bpf P_84) 5 (B_84.getD 5 bk0) := ⟨20, ⟨1, s_iconst dX4_takeWord_19 rfl, rfl⟩, t_retZ dX4_takeWord_20 rfl⟩
theorem ok_84 : ∀ b, BkOK mi i_84 (bpf P_84) b (B_84.getD b bk0)
  | 0 => ok_84_0
  | 1 => ok_84_1
  | 2 => ok_84_2
  | 3 => ok_84_3
  | 4 => ok_84_4
  | 5 => ok_84_5
  | b + 6 => bk_none mi i_84 (bpf P_84) (b + 6)
theorem ok_85_0 : BkOK mi i_85 (bpf P_85) 0 (B_85.getD 0 bk0) := ⟨5, ⟨1, s_aload_n dX4_takeSemicolon_0 rfl, ⟨3, s_get (C := RX4) (T := TX4) (N := 9) dX4_takeSemicolon_1 rfl (by decide) wt_184 uw_X4, ⟨1, s_iconst dX4_takeSemicolon_4 rfl, rfl⟩⟩⟩, t_eq dX4_takeSemicolon_5 (by decide) rfl⟩
theorem ok_85_1 : BkOK mi i_85 (bpf P_85) 1 (B_85.getD 1 bk0) := ⟨11, ⟨1, s_aload_n dX4_takeSemicolon_8 rfl, ⟨2, s_bipush dX4_takeSemicolon_9 rfl, rfl⟩⟩, t_cv rfl mi_83 mok_83 rfl (fun _ => ⟨rfl, by decide +kernel⟩) (fun hs' e => by cases e; intro E n b h; cases h) (fun q fs As rest h hp hA hr => (call_V (i := i_85) (j := i_83) (C := RX4) (T := TX4) (N := 9) dX4_takeSemicolon_11 mok_83 rfl ⟨by decide, by decide⟩ np_83 rfl rfl wt_357 wt_358 wt_359 hp hA hr rfl).thr (fun _ => True.intro))⟩
theorem ok_85_2 : BkOK mi i_85 (bpf P_85) 2 (B_85.getD 2 bk0) := ⟨14, rfl, t_retZ dX4_takeSemicolon_14 rfl⟩
theorem ok_85_3 : BkOK mi i_85 (bpf P_85) 3 (B_85.getD 3 bk0) := ⟨16, ⟨1, s_aload_n dX4_takeSemicolon_15 rfl, rfl⟩, t_cv rfl mi_89 mok_89 rfl (fun _ => ⟨rfl, by decide +kernel⟩) (fun hs' e => by cases e; intro E n b h; cases h) (fun q fs As rest h hp hA hr => (call_V (i := i_85) (j := i_89) (C := RX4) (T := TX4) (N := 9) dX4_takeSemicolon_16 mok_89 rfl ⟨by decide, by decide⟩ np_89 rfl rfl wt_272 wt_273 wt_274 hp hA hr rfl).thr (fun _ => True.intro))⟩
theorem ok_85_4 : BkOK mi i_85 (bpf P_85) 4 (B_85.getD 4 bk0) := ⟨20, ⟨1, s_iconst dX4_takeSemicolon_19 rfl, rfl⟩, t_retZ dX4_takeSemicolon_20 rfl⟩
theorem ok_85 : ∀ b, BkOK mi i_85 (bpf P_85) b (B_85.getD b bk0)
  | 0 => ok_85_0
  | 1 => ok_85_1
  | 2 => ok_85_2
  | 3 => ok_85_3
  | 4 => ok_85_4
  | b + 5 => bk_none mi i_85 (bpf P_85) (b + 5)
theorem ok_86_0 : BkOK mi i_86 (bpf P_86) 0 (B_86.getD 0 bk0) := ⟨4, ⟨1, s_aload_n dX4_takeEnd_0 rfl, ⟨3, s_get (C := RX4) (T := TX4) (N := 9) dX4_takeEnd_1 rfl (by decide) wt_184 uw_X4, rfl⟩⟩, t_eq0 dX4_takeEnd_4 (by decide) rfl⟩
theorem ok_86_1 : BkOK mi i_86 (bpf P_86) 1 (B_86.getD 1 bk0) := ⟨10, ⟨1, s_aload_n dX4_takeEnd_7 rfl, ⟨2, s_bipush dX4_takeEnd_8 rfl, rfl⟩⟩, t_cv rfl mi_83 mok_83 rfl (fun _ => ⟨rfl, by decide +kernel⟩) (fun hs' e => by cases e; intro E n b h; cases h) (fun q fs As rest h hp hA hr => (call_V (i := i_86) (j := i_83) (C := RX4) (T := TX4) (N := 9) dX4_takeEnd_10 mok_83 rfl ⟨by decide, by decide⟩ np_83 rfl rfl wt_357 wt_358 wt_359 hp hA hr rfl).thr (fun _ => True.intro))⟩
theorem ok_86_2 : BkOK mi i_86 (bpf P_86) 2 (B_86.getD 2 bk0) := ⟨13, rfl, t_eq0 dX4_takeEnd_13 (by decide) rfl⟩
theorem ok_86_3 : BkOK mi i_86 (bpf P_86) 3 (B_86.getD 3 bk0) := ⟨17, ⟨1, s_iconst dX4_takeEnd_16 rfl, rfl⟩, t_go dX4_takeEnd_17 (by decide)⟩
theorem ok_86_4 : BkOK mi i_86 (bpf P_86) 4 (B_86.getD 4 bk0) := ⟨21, ⟨1, s_iconst dX4_takeEnd_20 rfl, rfl⟩, t_fall rfl⟩
theorem ok_86_5 : BkOK mi i_86 (bpf P_86) 5 (B_86.getD 5 bk0) := ⟨21, rfl, t_retZ dX4_takeEnd_21 rfl⟩
theorem ok_86 : ∀ b, BkOK mi i_86 (bpf P_86) b (B_86.getD b bk0)
  | 0 => ok_86_0
  | 1 => ok_86_1
  | 2 => ok_86_2
  | 3 => ok_86_3
  | 4 => ok_86_4
  | 5 => ok_86_5
  | b + 6 => bk_none mi i_86 (bpf P_86) (b + 6)
theorem ok_87_0 : BkOK mi i_87 (bpf P_87) 0 (B_87.getD 0 bk0) := ⟨5, ⟨1, s_aload_n dX4_takeNumber_0 rfl, ⟨3, s_get (C := RX4) (T := TX4) (N := 9) dX4_takeNumber_1 rfl (by decide) wt_184 uw_X4, ⟨1, s_iconst dX4_takeNumber_4 rfl, rfl⟩⟩⟩, t_eq dX4_takeNumber_5 (by decide) rfl⟩
theorem ok_87_1 : BkOK mi i_87 (bpf P_87) 1 (B_87.getD 1 bk0) := ⟨11, ⟨1, s_aload_n dX4_takeNumber_8 rfl, ⟨2, s_bipush dX4_takeNumber_9 rfl, rfl⟩⟩, t_cv rfl mi_83 mok_83 rfl (fun _ => ⟨rfl, by decide +kernel⟩) (fun hs' e => by cases e; intro E n b h; cases h) (fun q fs As rest h hp hA hr => (call_V (i := i_87) (j := i_83) (C := RX4) (T := TX4) (N := 9) dX4_takeNumber_11 mok_83 rfl ⟨by decide, by decide⟩ np_83 rfl rfl wt_357 wt_358 wt_359 hp hA hr rfl).thr (fun _ => True.intro))⟩
theorem ok_87_2 : BkOK mi i_87 (bpf P_87) 2 (B_87.getD 2 bk0) := ⟨14, rfl, t_retZ dX4_takeNumber_14 rfl⟩
theorem ok_87_3 : BkOK mi i_87 (bpf P_87) 3 (B_87.getD 3 bk0) := ⟨21, ⟨1, s_aload_n dX4_takeNumber_15 rfl, ⟨3, s_get (C := RX4) (T := TX4) (N := 9) dX4_takeNumber_16 rfl (by decide) wt_187 uw_X4, ⟨1, s_iload_n dX4_takeNumber_19 rfl, ⟨1, s_iload_n dX4_takeNumber_20 rfl, rfl⟩⟩⟩⟩, t_cs rfl mi_142 mok_142 rfl (fun As rest h hA hr => call_SN dX4_takeNumber_21 mok_142 rfl ⟨by decide, by decide⟩ np_142 wt_284 wt_285 hA hr)⟩
theorem ok_87_4 : BkOK mi i_87 (bpf P_87) 4 (B_87.getD 4 bk0) := ⟨24, rfl, t_ne0 dX4_takeNumber_24 (by decide) rfl⟩
theorem ok_87_5 : BkOK mi i_87 (bpf P_87) 5 (B_87.getD 5 bk0) := ⟨30, ⟨1, s_aload_n dX4_takeNumber_27 rfl, ⟨2, s_bipush dX4_takeNumber_28 rfl, rfl⟩⟩, t_cv rfl mi_83 mok_83 rfl (fun _ => ⟨rfl, by decide +kernel⟩) (fun hs' e => by cases e; intro E n b h; cases h) (fun q fs As rest h hp hA hr => (call_V (i := i_87) (j := i_83) (C := RX4) (T := TX4) (N := 9) dX4_takeNumber_30 mok_83 rfl ⟨by decide, by decide⟩ np_83 rfl rfl wt_357 wt_358 wt_359 hp hA hr rfl).thr (fun _ => True.intro))⟩
theorem ok_87_6 : BkOK mi i_87 (bpf P_87) 6 (B_87.getD 6 bk0) := ⟨33, rfl, t_retZ dX4_takeNumber_33 rfl⟩
theorem ok_87_7 : BkOK mi i_87 (bpf P_87) 7 (B_87.getD 7 bk0) := ⟨39, ⟨1, s_aload_n dX4_takeNumber_34 rfl, ⟨3, s_get (C := RX4) (T := TX4) (N := 9) dX4_takeNumber_35 rfl (by decide) wt_187 uw_X4, ⟨1, s_iload_n dX4_takeNumber_38 rfl, rfl⟩⟩⟩, t_ge dX4_takeNumber_39 (by decide) rfl⟩
theorem ok_87_8 : BkOK mi i_87 (bpf P_87) 8 (B_87.getD 8 bk0) := ⟨45, ⟨1, s_aload_n dX4_takeNumber_42 rfl, ⟨2, s_bipush dX4_takeNumber_43 rfl, rfl⟩⟩, t_cv rfl mi_83 mok_83 rfl (fun _ => ⟨rfl, by decide +kernel⟩) (fun hs' e => by cases e; intro E n b h; cases h) (fun q fs As rest h hp hA hr => (call_V (i := i_87) (j := i_83) (C := RX4) (T := TX4) (N := 9) dX4_takeNumber_45 mok_83 rfl ⟨by decide, by decide⟩ np_83 rfl rfl wt_357 wt_358 wt_359 hp hA hr rfl).thr (fun _ => True.intro))⟩
theorem ok_87_9 : BkOK mi i_87 (bpf P_87) 9 (B_87.getD 9 bk0) := ⟨48, rfl, t_retZ dX4_takeNumber_48 rfl⟩
theorem ok_87_10 : BkOK mi i_87 (bpf P_87) 10 (B_87.getD 10 bk0) := ⟨58, ⟨1, s_aload_n dX4_takeNumber_49 rfl, ⟨1, s_aload_n dX4_takeNumber_50 rfl, ⟨3, s_get (C := RX4) (T := TX4) (N := 9) dX4_takeNumber_51 rfl (by decide) wt_187 uw_X4, ⟨3, s_put (C := RX4) (T := TX4) (N := 9) tyX4 tyX4_ok nmX4 dX4_takeNumber_54 rfl (by decide) rfl (tyX4_ok 8 (by decide)) wt_188 uw_X4, ⟨1, s_aload_n dX4_takeNumber_57 rfl, rfl⟩⟩⟩⟩⟩, t_cv rfl mi_89 mok_89 rfl (fun _ => ⟨rfl, by decide +kernel⟩) (fun hs' e => by cases e; intro E n b h; cases h) (fun q fs As rest h hp hA hr => (call_V (i := i_87) (j := i_89) (C := RX4) (T := TX4) (N := 9) dX4_takeNumber_58 mok_89 rfl ⟨by decide, by decide⟩ np_89 rfl rfl wt_272 wt_273 wt_274 hp hA hr rfl).thr (fun _ => True.intro))⟩
theorem ok_87_11 : BkOK mi i_87 (bpf P_87) 11 (B_87.getD 11 bk0) := ⟨62, ⟨1, s_iconst dX4_takeNumber_61 rfl, rfl⟩, t_retZ dX4_takeNumber_62 rfl⟩
theorem ok_87 : ∀ b, BkOK mi i_87 (bpf P_87) b (B_87.getD b bk0)
  | 0 => ok_87_0
  | 1 => ok_87_1
  | 2 => ok_87_2
  | 3 => ok_87_3
  | 4 => ok_87_4
  | 5 => ok_87_5
  | 6 => ok_87_6
  | 7 => ok_87_7
  | 8 => ok_87_8
  | 9 => ok_87_9
  | 10 => ok_87_10
  | 11 => ok_87_11
  | b + 12 => bk_none mi i_87 (bpf P_87) (b + 12)
theorem ok_88_0 : BkOK mi i_88 (bpf P_88) 0 (B_88.getD 0 bk0) := ⟨5, ⟨1, s_aload_n dX4_isWord_0 rfl, ⟨3, s_get (C := RX4) (T := TX4) (N := 9) dX4_isWord_1 rfl (by decide) wt_184 uw_X4, ⟨1, s_iconst dX4_isWord_4 rfl, rfl⟩⟩⟩, t_nei dX4_isWord_5 (by decide) rfl⟩
theorem ok_88_1 : BkOK mi i_88 (bpf P_88) 1 (B_88.getD 1 bk0) := ⟨18, ⟨1, s_aload_n dX4_isWord_8 rfl, ⟨3, s_get (C := RX4) (T := TX4) (N := 9) dX4_isWord_9 rfl (by decide) wt_186 uw_X4, ⟨1, s_aload_n dX4_isWord_12 rfl, ⟨3, s_get (C := RX4) (T := TX4) (N := 9) dX4_isWord_13 rfl (by decide) wt_185 uw_X4, ⟨1, s_isub dX4_isWord_16, ⟨1, s_aload_n dX4_isWord_17 rfl, rfl⟩⟩⟩⟩⟩⟩, t_cx rfl mi_294 mok_294 rfl (fun q n0 x As rest h hp hA hr => call_VS dX4_isWord_18 mok_294 rfl ⟨by decide, by decide⟩ np_294 wt_309 wt_310 wt_311 hp hA hr (by decide +kernel))⟩
theorem ok_88_2 : BkOK mi i_88 (bpf P_88) 2 (B_88.getD 2 bk0) := ⟨21, rfl, t_eq dX4_isWord_21 (by decide) rfl⟩
theorem ok_88_3 : BkOK mi i_88 (bpf P_88) 3 (B_88.getD 3 bk0) := ⟨25, ⟨1, s_iconst dX4_isWord_24 rfl, rfl⟩, t_retZ dX4_isWord_25 rfl⟩
theorem ok_88_4 : BkOK mi i_88 (bpf P_88) 4 (B_88.getD 4 bk0) := ⟨28, ⟨1, s_iconst dX4_isWord_26 rfl, ⟨1, s_istore_n dX4_isWord_27 rfl (by decide), rfl⟩⟩, t_fall rfl⟩
theorem ok_88_5 : BkOK mi i_88 (bpf P_88) 5 (B_88.getD 5 bk0) := ⟨30, ⟨1, s_iload_n dX4_isWord_28 rfl, ⟨1, s_aload_n dX4_isWord_29 rfl, rfl⟩⟩, t_cx rfl mi_294 mok_294 rfl (fun q n0 x As rest h hp hA hr => call_VS dX4_isWord_30 mok_294 rfl ⟨by decide, by decide⟩ np_294 wt_309 wt_310 wt_311 hp hA hr (by decide +kernel))⟩
theorem ok_88_6 : BkOK mi i_88 (bpf P_88) 6 (B_88.getD 6 bk0) := ⟨33, rfl, t_ge dX4_isWord_33 (by decide) rfl⟩
theorem ok_88_7 : BkOK mi i_88 (bpf P_88) 7 (B_88.getD 7 bk0) := ⟨46, ⟨1, s_aload_n dX4_isWord_36 rfl, ⟨3, s_get (C := RX4) (T := TX4) (N := 9) dX4_isWord_37 rfl (by decide) wt_177 uw_X4, ⟨1, s_aload_n dX4_isWord_40 rfl, ⟨3, s_get (C := RX4) (T := TX4) (N := 9) dX4_isWord_41 rfl (by decide) wt_185 uw_X4, ⟨1, s_iload_n dX4_isWord_44 rfl, ⟨1, s_iadd dX4_isWord_45, rfl⟩⟩⟩⟩⟩⟩, t_cv rfl mi_62 mok_62 rfl (fun _ => ⟨rfl, by decide +kernel⟩) (fun hs' e => by cases e; intro E n b h; cases h) (fun q fs As rest h hp hA hr => (call_V (i := i_88) (j := i_62) (C := RX2) (T := TX2) (N := 1) dX4_isWord_46 mok_62 rfl ⟨by decide, by decide⟩ np_62 rfl rfl wt_276 wt_277 wt_278 hp hA hr rfl).thr (fun _ => True.intro))⟩
theorem ok_88_8 : BkOK mi i_88 (bpf P_88) 8 (B_88.getD 8 bk0) := ⟨51, ⟨1, s_aload_n dX4_isWord_49 rfl, ⟨1, s_iload_n dX4_isWord_50 rfl, rfl⟩⟩, t_cx rfl mi_295 mok_295 rfl (fun q n0 x As rest h hp hA hr => call_VS dX4_isWord_51 mok_295 rfl ⟨by decide, by decide⟩ np_295 wt_319 wt_320 wt_321 hp hA hr (by decide +kernel))⟩
theorem ok_88_9 : BkOK mi i_88 (bpf P_88) 9 (B_88.getD 9 bk0) := ⟨54, rfl, t_eq dX4_isWord_54 (by decide) rfl⟩
theorem ok_88_10 : BkOK mi i_88 (bpf P_88) 10 (B_88.getD 10 bk0) := ⟨58, ⟨1, s_iconst dX4_isWord_57 rfl, rfl⟩, t_retZ dX4_isWord_58 rfl⟩
theorem ok_88_11 : BkOK mi i_88 (bpf P_88) 11 (B_88.getD 11 bk0) := ⟨62, ⟨3, s_iinc dX4_isWord_59 rfl (by decide), rfl⟩, t_go dX4_isWord_62 (by decide)⟩
theorem ok_88_12 : BkOK mi i_88 (bpf P_88) 12 (B_88.getD 12 bk0) := ⟨66, ⟨1, s_iconst dX4_isWord_65 rfl, rfl⟩, t_retZ dX4_isWord_66 rfl⟩
theorem ok_88 : ∀ b, BkOK mi i_88 (bpf P_88) b (B_88.getD b bk0)
  | 0 => ok_88_0
  | 1 => ok_88_1
  | 2 => ok_88_2
  | 3 => ok_88_3
  | 4 => ok_88_4
  | 5 => ok_88_5
  | 6 => ok_88_6
  | 7 => ok_88_7
  | 8 => ok_88_8
  | 9 => ok_88_9
  | 10 => ok_88_10
  | 11 => ok_88_11
  | 12 => ok_88_12
  | b + 13 => bk_none mi i_88 (bpf P_88) (b + 13)
theorem ok_89_0 : BkOK mi i_89 (bpf P_89) 0 (B_89.getD 0 bk0) := ⟨8, ⟨1, s_aload_n dX4_scan_0 rfl, ⟨1, s_aload_n dX4_scan_1 rfl, ⟨3, s_get (C := RX4) (T := TX4) (N := 9) dX4_scan_2 rfl (by decide) wt_186 uw_X4, ⟨3, s_put (C := RX4) (T := TX4) (N := 9) tyX4 tyX4_ok nmX4 dX4_scan_5 rfl (by decide) rfl (tyX4_ok 5 (by decide)) wt_185 uw_X4, rfl⟩⟩⟩⟩, t_fall rfl⟩
theorem ok_89_1 : BkOK mi i_89 (bpf P_89) 1 (B_89.getD 1 bk0) := ⟨16, ⟨1, s_aload_n dX4_scan_8 rfl, ⟨3, s_get (C := RX4) (T := TX4) (N := 9) dX4_scan_9 rfl (by decide) wt_185 uw_X4, ⟨1, s_aload_n dX4_scan_12 rfl, ⟨3, s_get (C := RX4) (T := TX4) (N := 9) dX4_scan_13 rfl (by decide) wt_178 uw_X4, rfl⟩⟩⟩⟩, t_ge dX4_scan_16 (by decide) rfl⟩
theorem ok_89_2 : BkOK mi i_89 (bpf P_89) 2 (B_89.getD 2 bk0) := ⟨27, ⟨1, s_aload_n dX4_scan_19 rfl, ⟨3, s_get (C := RX4) (T := TX4) (N := 9) dX4_scan_20 rfl (by decide) wt_177 uw_X4, ⟨1, s_aload_n dX4_scan_23 rfl, ⟨3, s_get (C := RX4) (T := TX4) (N := 9) dX4_scan_24 rfl (by decide) wt_185 uw_X4, rfl⟩⟩⟩⟩, t_cv rfl mi_62 mok_62 rfl (fun _ => ⟨rfl, by decide +kernel⟩) (fun hs' e => by cases e; intro E n b h; cases h) (fun q fs As rest h hp hA hr => (call_V (i := i_89) (j := i_62) (C := RX2) (T := TX2) (N := 1) dX4_scan_27 mok_62 rfl ⟨by decide, by decide⟩ np_62 rfl rfl wt_276 wt_277 wt_278 hp hA hr rfl).thr (fun _ => True.intro))⟩
theorem ok_89_3 : BkOK mi i_89 (bpf P_89) 3 (B_89.getD 3 bk0) := ⟨32, ⟨2, s_bipush dX4_scan_30 rfl, rfl⟩, t_nei dX4_scan_32 (by decide) rfl⟩
theorem ok_89_4 : BkOK mi i_89 (bpf P_89) 4 (B_89.getD 4 bk0) := ⟨45, ⟨1, s_aload_n dX4_scan_35 rfl, ⟨1, s_dup dX4_scan_36, ⟨3, s_get (C := RX4) (T := TX4) (N := 9) dX4_scan_37 rfl (by decide) wt_185 uw_X4, ⟨1, s_iconst dX4_scan_40 rfl, ⟨1, s_iadd dX4_scan_41, ⟨3, s_put (C := RX4) (T := TX4) (N := 9) tyX4 tyX4_ok nmX4 dX4_scan_42 rfl (by decide) rfl (tyX4_ok 5 (by decide)) wt_185 uw_X4, rfl⟩⟩⟩⟩⟩⟩, t_go dX4_scan_45 (by decide)⟩
theorem ok_89_5 : BkOK mi i_89 (bpf P_89) 5 (B_89.getD 5 bk0) := ⟨64, ⟨1, s_aload_n dX4_scan_48 rfl, ⟨1, s_aload_n dX4_scan_49 rfl, ⟨3, s_get (C := RX4) (T := TX4) (N := 9) dX4_scan_50 rfl (by decide) wt_185 uw_X4, ⟨3, s_put (C := RX4) (T := TX4) (N := 9) tyX4 tyX4_ok nmX4 dX4_scan_53 rfl (by decide) rfl (tyX4_ok 6 (by decide)) wt_186 uw_X4, ⟨1, s_aload_n dX4_scan_56 rfl, ⟨3, s_get (C := RX4) (T := TX4) (N := 9) dX4_scan_57 rfl (by decide) wt_185 uw_X4, ⟨1, s_aload_n dX4_scan_60 rfl, ⟨3, s_get (C := RX4) (T := TX4) (N := 9) dX4_scan_61 rfl (by decide) wt_178 uw_X4, rfl⟩⟩⟩⟩⟩⟩⟩⟩, t_lt dX4_scan_64 (by decide) rfl⟩
theorem ok_89_6 : BkOK mi i_89 (bpf P_89) 6 (B_89.getD 6 bk0) := ⟨72, ⟨1, s_aload_n dX4_scan_67 rfl, ⟨1, s_iconst dX4_scan_68 rfl, ⟨3, s_put (C := RX4) (T := TX4) (N := 9) tyX4 tyX4_ok nmX4 dX4_scan_69 rfl (by decide) rfl (tyX4_ok 4 (by decide)) wt_184 uw_X4, rfl⟩⟩⟩, t_go dX4_scan_72 (by decide)⟩
theorem ok_89_7 : BkOK mi i_89 (bpf P_89) 7 (B_89.getD 7 bk0) := ⟨80, ⟨1, s_aload_n dX4_scan_75 rfl, ⟨1, s_aload_n dX4_scan_76 rfl, ⟨3, s_get (C := RX4) (T := TX4) (N := 9) dX4_scan_77 rfl (by decide) wt_185 uw_X4, rfl⟩⟩⟩, t_cv rfl mi_90 mok_90 rfl (fun _ => ⟨rfl, by decide +kernel⟩) (fun hs' e => by cases e; intro E n b h; cases h) (fun q fs As rest h hp hA hr => (call_V (i := i_89) (j := i_90) (C := RX4) (T := TX4) (N := 9) dX4_scan_80 mok_90 rfl ⟨by decide, by decide⟩ np_90 rfl rfl wt_280 wt_281 wt_282 hp hA hr rfl).thr (fun _ => True.intro))⟩
theorem ok_89_8 : BkOK mi i_89 (bpf P_89) 8 (B_89.getD 8 bk0) := ⟨83, rfl, t_eq0 dX4_scan_83 (by decide) rfl⟩
theorem ok_89_9 : BkOK mi i_89 (bpf P_89) 9 (B_89.getD 9 bk0) := ⟨91, ⟨1, s_aload_n dX4_scan_86 rfl, ⟨1, s_iconst dX4_scan_87 rfl, ⟨3, s_put (C := RX4) (T := TX4) (N := 9) tyX4 tyX4_ok nmX4 dX4_scan_88 rfl (by decide) rfl (tyX4_ok 4 (by decide)) wt_184 uw_X4, rfl⟩⟩⟩, t_fall rfl⟩
theorem ok_89_10 : BkOK mi i_89 (bpf P_89) 10 (B_89.getD 10 bk0) := ⟨99, ⟨1, s_aload_n dX4_scan_91 rfl, ⟨3, s_get (C := RX4) (T := TX4) (N := 9) dX4_scan_92 rfl (by decide) wt_186 uw_X4, ⟨1, s_aload_n dX4_scan_95 rfl, ⟨3, s_get (C := RX4) (T := TX4) (N := 9) dX4_scan_96 rfl (by decide) wt_178 uw_X4, rfl⟩⟩⟩⟩, t_ge dX4_scan_99 (by decide) rfl⟩
theorem ok_89_11 : BkOK mi i_89 (bpf P_89) 11 (B_89.getD 11 bk0) := ⟨107, ⟨1, s_aload_n dX4_scan_102 rfl, ⟨1, s_aload_n dX4_scan_103 rfl, ⟨3, s_get (C := RX4) (T := TX4) (N := 9) dX4_scan_104 rfl (by decide) wt_186 uw_X4, rfl⟩⟩⟩, t_cv rfl mi_90 mok_90 rfl (fun _ => ⟨rfl, by decide +kernel⟩) (fun hs' e => by cases e; intro E n b h; cases h) (fun q fs As rest h hp hA hr => (call_V (i := i_89) (j := i_90) (C := RX4) (T := TX4) (N := 9) dX4_scan_107 mok_90 rfl ⟨by decide, by decide⟩ np_90 rfl rfl wt_280 wt_281 wt_282 hp hA hr rfl).thr (fun _ => True.intro))⟩
theorem ok_89_12 : BkOK mi i_89 (bpf P_89) 12 (B_89.getD 12 bk0) := ⟨110, rfl, t_eq0 dX4_scan_110 (by decide) rfl⟩
theorem ok_89_13 : BkOK mi i_89 (bpf P_89) 13 (B_89.getD 13 bk0) := ⟨123, ⟨1, s_aload_n dX4_scan_113 rfl, ⟨1, s_dup dX4_scan_114, ⟨3, s_get (C := RX4) (T := TX4) (N := 9) dX4_scan_115 rfl (by decide) wt_186 uw_X4, ⟨1, s_iconst dX4_scan_118 rfl, ⟨1, s_iadd dX4_scan_119, ⟨3, s_put (C := RX4) (T := TX4) (N := 9) tyX4 tyX4_ok nmX4 dX4_scan_120 rfl (by decide) rfl (tyX4_ok 6 (by decide)) wt_186 uw_X4, rfl⟩⟩⟩⟩⟩⟩, t_go dX4_scan_123 (by decide)⟩
theorem ok_89_14 : BkOK mi i_89 (bpf P_89) 14 (B_89.getD 14 bk0) := ⟨131, ⟨1, s_aload_n dX4_scan_126 rfl, ⟨1, s_aload_n dX4_scan_127 rfl, ⟨3, s_get (C := RX4) (T := TX4) (N := 9) dX4_scan_128 rfl (by decide) wt_185 uw_X4, rfl⟩⟩⟩, t_cv rfl mi_91 mok_91 rfl (fun _ => ⟨rfl, by decide +kernel⟩) (fun hs' e => by cases e; intro E n b h; cases h) (fun q fs As rest h hp hA hr => (call_V (i := i_89) (j := i_91) (C := RX4) (T := TX4) (N := 9) dX4_scan_131 mok_91 rfl ⟨by decide, by decide⟩ np_91 rfl rfl wt_287 wt_288 wt_289 hp hA hr rfl).thr (fun _ => True.intro))⟩
theorem ok_89_15 : BkOK mi i_89 (bpf P_89) 15 (B_89.getD 15 bk0) := ⟨134, rfl, t_eq0 dX4_scan_134 (by decide) rfl⟩
theorem ok_89_16 : BkOK mi i_89 (bpf P_89) 16 (B_89.getD 16 bk0) := ⟨147, ⟨1, s_aload_n dX4_scan_137 rfl, ⟨1, s_iconst dX4_scan_138 rfl, ⟨3, s_put (C := RX4) (T := TX4) (N := 9) tyX4 tyX4_ok nmX4 dX4_scan_139 rfl (by decide) rfl (tyX4_ok 4 (by decide)) wt_184 uw_X4, ⟨1, s_aload_n dX4_scan_142 rfl, ⟨1, s_iconst dX4_scan_143 rfl, ⟨3, s_put (C := RX4) (T := TX4) (N := 9) tyX4 tyX4_ok nmX4 dX4_scan_144 rfl (by decide) rfl (tyX4_ok 7 (by decide)) wt_187 uw_X4, rfl⟩⟩⟩⟩⟩⟩, t_fall rfl⟩
theorem ok_89_17 : BkOK mi i_89 (bpf P_89) 17 (B_89.getD 17 bk0) := ⟨155, ⟨1, s_aload_n dX4_scan_147 rfl, ⟨3, s_get (C := RX4) (T := TX4) (N := 9) dX4_scan_148 rfl (by decide) wt_186 uw_X4, ⟨1, s_aload_n dX4_scan_151 rfl, ⟨3, s_get (C := RX4) (T := TX4) (N := 9) dX4_scan_152 rfl (by decide) wt_178 uw_X4, rfl⟩⟩⟩⟩, t_ge dX4_scan_155 (by decide) rfl⟩
theorem ok_89_18 : BkOK mi i_89 (bpf P_89) 18 (B_89.getD 18 bk0) := ⟨163, ⟨1, s_aload_n dX4_scan_158 rfl, ⟨1, s_aload_n dX4_scan_159 rfl, ⟨3, s_get (C := RX4) (T := TX4) (N := 9) dX4_scan_160 rfl (by decide) wt_186 uw_X4, rfl⟩⟩⟩, t_cv rfl mi_91 mok_91 rfl (fun _ => ⟨rfl, by decide +kernel⟩) (fun hs' e => by cases e; intro E n b h; cases h) (fun q fs As rest h hp hA hr => (call_V (i := i_89) (j := i_91) (C := RX4) (T := TX4) (N := 9) dX4_scan_163 mok_91 rfl ⟨by decide, by decide⟩ np_91 rfl rfl wt_287 wt_288 wt_289 hp hA hr rfl).thr (fun _ => True.intro))⟩
theorem ok_89_19 : BkOK mi i_89 (bpf P_89) 19 (B_89.getD 19 bk0) := ⟨166, rfl, t_eq0 dX4_scan_166 (by decide) rfl⟩
theorem ok_89_20 : BkOK mi i_89 (bpf P_89) 20 (B_89.getD 20 bk0) := ⟨187, ⟨1, s_aload_n dX4_scan_169 rfl, ⟨2, s_ldc dX4_scan_170 wt_291, ⟨1, s_aload_n dX4_scan_172 rfl, ⟨3, s_get (C := RX4) (T := TX4) (N := 9) dX4_scan_173 rfl (by decide) wt_187 uw_X4, ⟨2, s_bipush dX4_scan_176 rfl, ⟨1, s_imul dX4_scan_178, ⟨1, s_aload_n dX4_scan_179 rfl, ⟨3, s_get (C := RX4) (T := TX4) (N := 9) dX4_scan_180 rfl (by decide) wt_177 uw_X4, ⟨1, s_aload_n dX4_scan_183 rfl, ⟨3, s_get (C := RX4) (T := TX4) (N := 9) dX4_scan_184 rfl (by decide) wt_186 uw_X4, rfl⟩⟩⟩⟩⟩⟩⟩⟩⟩⟩, t_cv rfl mi_62 mok_62 rfl (fun _ => ⟨rfl, by decide +kernel⟩) (fun hs' e => by cases e; intro E n b h; cases h) (fun q fs As rest h hp hA hr => (call_V (i := i_89) (j := i_62) (C := RX2) (T := TX2) (N := 1) dX4_scan_187 mok_62 rfl ⟨by decide, by decide⟩ np_62 rfl rfl wt_276 wt_277 wt_278 hp hA hr rfl).thr (fun _ => True.intro))⟩
theorem ok_89_21 : BkOK mi i_89 (bpf P_89) 21 (B_89.getD 21 bk0) := ⟨210, ⟨1, s_iadd dX4_scan_190, ⟨2, s_bipush dX4_scan_191 rfl, ⟨1, s_isub dX4_scan_193, ⟨3, s_mmin dX4_scan_194 wt_292x wt_293 wt_4 wt_294 ⟨by decide, by decide⟩, ⟨3, s_put (C := RX4) (T := TX4) (N := 9) tyX4 tyX4_ok nmX4 dX4_scan_197 rfl (by decide) rfl (tyX4_ok 7 (by decide)) wt_187 uw_X4, ⟨1, s_aload_n dX4_scan_200 rfl, ⟨1, s_dup dX4_scan_201, ⟨3, s_get (C := RX4) (T := TX4) (N := 9) dX4_scan_202 rfl (by decide) wt_186 uw_X4, ⟨1, s_iconst dX4_scan_205 rfl, ⟨1, s_iadd dX4_scan_206, ⟨3, s_put (C := RX4) (T := TX4) (N := 9) tyX4 tyX4_ok nmX4 dX4_scan_207 rfl (by decide) rfl (tyX4_ok 6 (by decide)) wt_186 uw_X4, rfl⟩⟩⟩⟩⟩⟩⟩⟩⟩⟩⟩, t_go dX4_scan_210 (by decide)⟩
theorem ok_89_22 : BkOK mi i_89 (bpf P_89) 22 (B_89.getD 22 bk0) := ⟨222, ⟨1, s_aload_n dX4_scan_213 rfl, ⟨1, s_aload_n dX4_scan_214 rfl, ⟨3, s_get (C := RX4) (T := TX4) (N := 9) dX4_scan_215 rfl (by decide) wt_177 uw_X4, ⟨1, s_aload_n dX4_scan_218 rfl, ⟨3, s_get (C := RX4) (T := TX4) (N := 9) dX4_scan_219 rfl (by decide) wt_185 uw_X4, rfl⟩⟩⟩⟩⟩, t_cv rfl mi_62 mok_62 rfl (fun _ => ⟨rfl, by decide +kernel⟩) (fun hs' e => by cases e; intro E n b h; cases h) (fun q fs As rest h hp hA hr => (call_V (i := i_89) (j := i_62) (C := RX2) (T := TX2) (N := 1) dX4_scan_222 mok_62 rfl ⟨by decide, by decide⟩ np_62 rfl rfl wt_276 wt_277 wt_278 hp hA hr rfl).thr (fun _ => True.intro))⟩
theorem ok_89_23 : BkOK mi i_89 (bpf P_89) 23 (B_89.getD 23 bk0) := ⟨227, ⟨2, s_bipush dX4_scan_225 rfl, rfl⟩, t_nei dX4_scan_227 (by decide) rfl⟩
theorem ok_89_24 : BkOK mi i_89 (bpf P_89) 24 (B_89.getD 24 bk0) := ⟨231, ⟨1, s_iconst dX4_scan_230 rfl, rfl⟩, t_go dX4_scan_231 (by decide)⟩
theorem ok_89_25 : BkOK mi i_89 (bpf P_89) 25 (B_89.getD 25 bk0) := ⟨235, ⟨1, s_iconst dX4_scan_234 rfl, rfl⟩, t_fall rfl⟩
theorem ok_89_26 : BkOK mi i_89 (bpf P_89) 26 (B_89.getD 26 bk0) := ⟨248, ⟨3, s_put (C := RX4) (T := TX4) (N := 9) tyX4 tyX4_ok nmX4 dX4_scan_235 rfl (by decide) rfl (tyX4_ok 4 (by decide)) wt_184 uw_X4, ⟨1, s_aload_n dX4_scan_238 rfl, ⟨1, s_aload_n dX4_scan_239 rfl, ⟨3, s_get (C := RX4) (T := TX4) (N := 9) dX4_scan_240 rfl (by decide) wt_185 uw_X4, ⟨1, s_iconst dX4_scan_243 rfl, ⟨1, s_iadd dX4_scan_244, ⟨3, s_put (C := RX4) (T := TX4) (N := 9) tyX4 tyX4_ok nmX4 dX4_scan_245 rfl (by decide) rfl (tyX4_ok 6 (by decide)) wt_186 uw_X4, rfl⟩⟩⟩⟩⟩⟩⟩, t_fall rfl⟩
theorem ok_89_27 : BkOK mi i_89 (bpf P_89) 27 (B_89.getD 27 bk0) := ⟨248, rfl, t_retV dX4_scan_248 rfl⟩
theorem ok_89 : ∀ b, BkOK mi i_89 (bpf P_89) b (B_89.getD b bk0)
  | 0 => ok_89_0
  | 1 => ok_89_1
  | 2 => ok_89_2
  | 3 => ok_89_3
  | 4 => ok_89_4
  | 5 => ok_89_5
  | 6 => ok_89_6
  | 7 => ok_89_7
  | 8 => ok_89_8
  | 9 => ok_89_9
  | 10 => ok_89_10
  | 11 => ok_89_11
  | 12 => ok_89_12
  | 13 => ok_89_13
  | 14 => ok_89_14
  | 15 => ok_89_15
  | 16 => ok_89_16
  | 17 => ok_89_17
  | 18 => ok_89_18
  | 19 => ok_89_19
  | 20 => ok_89_20
  | 21 => ok_89_21
  | 22 => ok_89_22
  | 23 => ok_89_23
  | 24 => ok_89_24
  | 25 => ok_89_25
  | 26 => ok_89_26
  | 27 => ok_89_27
  | b + 28 => bk_none mi i_89 (bpf P_89) (b + 28)
theorem ok_90_0 : BkOK mi i_90 (bpf P_90) 0 (B_90.getD 0 bk0) := ⟨5, ⟨1, s_aload_n dX4_isLetter_0 rfl, ⟨3, s_get (C := RX4) (T := TX4) (N := 9) dX4_isLetter_1 rfl (by decide) wt_177 uw_X4, ⟨1, s_iload_n dX4_isLetter_4 rfl, rfl⟩⟩⟩, t_cv rfl mi_62 mok_62 rfl (fun _ => ⟨rfl, by decide +kernel⟩) (fun hs' e => by cases e; intro E n b h; cases h) (fun q fs As rest h hp hA hr => (call_V (i := i_90) (j := i_62) (C := RX2) (T := TX2) (N := 1) dX4_isLetter_5 mok_62 rfl ⟨by decide, by decide⟩ np_62 rfl rfl wt_276 wt_277 wt_278 hp hA hr rfl).thr (fun _ => True.intro))⟩
theorem ok_90_1 : BkOK mi i_90 (bpf P_90) 1 (B_90.getD 1 bk0) := ⟨12, ⟨2, s_bipush dX4_isLetter_8 rfl, ⟨2, s_bipush dX4_isLetter_10 rfl, rfl⟩⟩, t_cs rfl mi_142 mok_142 rfl (fun As rest h hA hr => call_SN dX4_isLetter_12 mok_142 rfl ⟨by decide, by decide⟩ np_142 wt_284 wt_285 hA hr)⟩
theorem ok_90_2 : BkOK mi i_90 (bpf P_90) 2 (B_90.getD 2 bk0) := ⟨15, rfl, t_retZ dX4_isLetter_15 rfl⟩
theorem ok_90 : ∀ b, BkOK mi i_90 (bpf P_90) b (B_90.getD b bk0)
  | 0 => ok_90_0
  | 1 => ok_90_1
  | 2 => ok_90_2
  | b + 3 => bk_none mi i_90 (bpf P_90) (b + 3)
theorem ok_91_0 : BkOK mi i_91 (bpf P_91) 0 (B_91.getD 0 bk0) := ⟨5, ⟨1, s_aload_n dX4_isDigit_0 rfl, ⟨3, s_get (C := RX4) (T := TX4) (N := 9) dX4_isDigit_1 rfl (by decide) wt_177 uw_X4, ⟨1, s_iload_n dX4_isDigit_4 rfl, rfl⟩⟩⟩, t_cv rfl mi_62 mok_62 rfl (fun _ => ⟨rfl, by decide +kernel⟩) (fun hs' e => by cases e; intro E n b h; cases h) (fun q fs As rest h hp hA hr => (call_V (i := i_91) (j := i_62) (C := RX2) (T := TX2) (N := 1) dX4_isDigit_5 mok_62 rfl ⟨by decide, by decide⟩ np_62 rfl rfl wt_276 wt_277 wt_278 hp hA hr rfl).thr (fun _ => True.intro))⟩
theorem ok_91_1 : BkOK mi i_91 (bpf P_91) 1 (B_91.getD 1 bk0) := ⟨12, ⟨2, s_bipush dX4_isDigit_8 rfl, ⟨2, s_bipush dX4_isDigit_10 rfl, rfl⟩⟩, t_cs rfl mi_142 mok_142 rfl (fun As rest h hA hr => call_SN dX4_isDigit_12 mok_142 rfl ⟨by decide, by decide⟩ np_142 wt_284 wt_285 hA hr)⟩
theorem ok_91_2 : BkOK mi i_91 (bpf P_91) 2 (B_91.getD 2 bk0) := ⟨15, rfl, t_retZ dX4_isDigit_15 rfl⟩
theorem ok_91 : ∀ b, BkOK mi i_91 (bpf P_91) b (B_91.getD b bk0)
  | 0 => ok_91_0
  | 1 => ok_91_1
  | 2 => ok_91_2
  | b + 3 => bk_none mi i_91 (bpf P_91) (b + 3)
theorem ok_92_0 : BkOK mi i_92 (bpf P_92) 0 (B_92.getD 0 bk0) := ⟨9, ⟨1, s_aload_n dX5_init_0 rfl, ⟨3, s_obj dX5_init_1 wt_27x wt_28 wt_29 ⟨by decide, by decide⟩, ⟨1, s_aload_n dX5_init_4 rfl, ⟨3, s_new (C := RX0) (T := TX0) (N := 10) tyX0 tyX0_ok dX5_init_5 rfl nfX0_ok rfl rfl wt_30 wt_31 wt_2 uw_X0, ⟨1, s_dup dX5_init_8, rfl⟩⟩⟩⟩⟩, t_ci rfl mi_0 mok_0 rfl (fun q As rest h hA hr => call_I dX5_init_9 mok_0 rfl ⟨by decide, by decide⟩ np_0 rfl rfl wt_32 wt_33 hA hr)⟩
theorem ok_92_1 : BkOK mi i_92 (bpf P_92) 1 (B_92.getD 1 bk0) := ⟨20, ⟨3, s_putF (C := RX5) (T := TX5) (N := 12) tyX5 tyX5_ok nmX5 dX5_init_12 rfl (by decide) rfl rfl rfl (tyX5_ok 0 (by decide)) wt_223 uw_X5, ⟨1, s_aload_n dX5_init_15 rfl, ⟨3, s_new (C := RX0) (T := TX0) (N := 10) tyX0 tyX0_ok dX5_init_16 rfl nfX0_ok rfl rfl wt_30 wt_31 wt_2 uw_X0, ⟨1, s_dup dX5_init_19, rfl⟩⟩⟩⟩, t_ci rfl mi_0 mok_0 rfl (fun q As rest h hA hr => call_I dX5_init_20 mok_0 rfl ⟨by decide, by decide⟩ np_0 rfl rfl wt_32 wt_33 hA hr)⟩
theorem ok_92_2 : BkOK mi i_92 (bpf P_92) 2 (B_92.getD 2 bk0) := ⟨31, ⟨3, s_putF (C := RX5) (T := TX5) (N := 12) tyX5 tyX5_ok nmX5 dX5_init_23 rfl (by decide) rfl rfl rfl (tyX5_ok 1 (by decide)) wt_224 uw_X5, ⟨1, s_aload_n dX5_init_26 rfl, ⟨3, s_new (C := RX1) (T := TX1) (N := 13) tyX1 tyX1_ok dX5_init_27 rfl nfX1_ok rfl rfl wt_118 wt_119 wt_5 uw_X1, ⟨1, s_dup dX5_init_30, rfl⟩⟩⟩⟩, t_ci rfl mi_28 mok_28 rfl (fun q As rest h hA hr => call_IN dX5_init_31 mok_28 rfl ⟨by decide, by decide⟩ np_28 rfl rfl wt_120 wt_121 hA hr)⟩
theorem ok_92_3 : BkOK mi i_92 (bpf P_92) 3 (B_92.getD 3 bk0) := ⟨42, ⟨3, s_putF (C := RX5) (T := TX5) (N := 12) tyX5 tyX5_ok nmX5 dX5_init_34 rfl (by decide) rfl rfl rfl (tyX5_ok 2 (by decide)) wt_225 uw_X5, ⟨1, s_aload_n dX5_init_37 rfl, ⟨3, s_new (C := RX1) (T := TX1) (N := 13) tyX1 tyX1_ok dX5_init_38 rfl nfX1_ok rfl rfl wt_118 wt_119 wt_5 uw_X1, ⟨1, s_dup dX5_init_41, rfl⟩⟩⟩⟩, t_ci rfl mi_28 mok_28 rfl (fun q As rest h hA hr => call_IN dX5_init_42 mok_28 rfl ⟨by decide, by decide⟩ np_28 rfl rfl wt_120 wt_121 hA hr)⟩
theorem ok_92_4 : BkOK mi i_92 (bpf P_92) 4 (B_92.getD 4 bk0) := ⟨53, ⟨3, s_putF (C := RX5) (T := TX5) (N := 12) tyX5 tyX5_ok nmX5 dX5_init_45 rfl (by decide) rfl rfl rfl (tyX5_ok 3 (by decide)) wt_226 uw_X5, ⟨1, s_aload_n dX5_init_48 rfl, ⟨3, s_new (C := RX4) (T := TX4) (N := 9) tyX4 tyX4_ok dX5_init_49 rfl nfX4_ok rfl rfl wt_169 wt_170 wt_6 uw_X4, ⟨1, s_dup dX5_init_52, rfl⟩⟩⟩⟩, t_ci rfl mi_69 mok_69 rfl (fun q As rest h hA hr => call_IN dX5_init_53 mok_69 rfl ⟨by decide, by decide⟩ np_69 rfl rfl wt_171 wt_172 hA hr)⟩
theorem ok_92_5 : BkOK mi i_92 (bpf P_92) 5 (B_92.getD 5 bk0) := ⟨66, ⟨3, s_putF (C := RX5) (T := TX5) (N := 12) tyX5 tyX5_ok nmX5 dX5_init_56 rfl (by decide) rfl rfl rfl (tyX5_ok 4 (by decide)) wt_227 uw_X5, ⟨1, s_aload_n dX5_init_59 rfl, ⟨3, s_new (C := RX2) (T := TX2) (N := 1) tyX2 tyX2_ok dX5_init_60 rfl nfX2_ok rfl rfl wt_208 wt_37 wt_3 uw_X2, ⟨1, s_dup dX5_init_63, ⟨2, s_bipush dX5_init_64 rfl, rfl⟩⟩⟩⟩⟩, t_ci rfl mi_61 mok_61 rfl (fun q As rest h hA hr => call_I dX5_init_66 mok_61 rfl ⟨by decide, by decide⟩ np_61 rfl rfl wt_209 wt_39 hA hr)⟩
theorem ok_92_6 : BkOK mi i_92 (bpf P_92) 6 (B_92.getD 6 bk0) := ⟨80, ⟨3, s_putF (C := RX5) (T := TX5) (N := 12) tyX5 tyX5_ok nmX5 dX5_init_69 rfl (by decide) rfl rfl rfl (tyX5_ok 5 (by decide)) wt_228 uw_X5, ⟨1, s_aload_n dX5_init_72 rfl, ⟨3, s_new (C := RX2) (T := TX2) (N := 1) tyX2 tyX2_ok dX5_init_73 rfl nfX2_ok rfl rfl wt_208 wt_37 wt_3 uw_X2, ⟨1, s_dup dX5_init_76, ⟨3, s_sipush dX5_init_77 rfl, rfl⟩⟩⟩⟩⟩, t_ci rfl mi_61 mok_61 rfl (fun q As rest h hA hr => call_I dX5_init_80 mok_61 rfl ⟨by decide, by decide⟩ np_61 rfl rfl wt_209 wt_39 hA hr)⟩
theorem ok_92_7 : BkOK mi i_92 (bpf P_92) 7 (B_92.getD 7 bk0) := ⟨98, ⟨3, s_putF (C := RX5) (T := TX5) (N := 12) tyX5 tyX5_ok nmX5 dX5_init_83 rfl (by decide) rfl rfl rfl (tyX5_ok 6 (by decide)) wt_229 uw_X5, ⟨1, s_aload_n dX5_init_86 rfl, ⟨1, s_iconst dX5_init_87 rfl, ⟨3, s_put (C := RX5) (T := TX5) (N := 12) tyX5 tyX5_ok nmX5 dX5_init_88 rfl (by decide) rfl (tyX5_ok 7 (by decide)) wt_230 uw_X5, ⟨1, s_aload_n dX5_init_91 rfl, ⟨3, s_new (C := RX3) (T := TX3) (N := 1) tyX3 tyX3_ok dX5_init_92 rfl nfX3_ok rfl rfl wt_210 wt_211 wt_7 uw_X3, ⟨1, s_dup dX5_init_95, ⟨2, s_bipush dX5_init_96 rfl, rfl⟩⟩⟩⟩⟩⟩⟩⟩, t_ci rfl mi_65 mok_65 rfl (fun q As rest h hA hr => call_I dX5_init_98 mok_65 rfl ⟨by decide, by decide⟩ np_65 rfl rfl wt_212 wt_213 hA hr)⟩
theorem ok_92_8 : BkOK mi i_92 (bpf P_92) 8 (B_92.getD 8 bk0) := ⟨120, ⟨3, s_putF (C := RX5) (T := TX5) (N := 12) tyX5 tyX5_ok nmX5 dX5_init_101 rfl (by decide) rfl rfl rfl (tyX5_ok 8 (by decide)) wt_231 uw_X5, ⟨1, s_aload_n dX5_init_104 rfl, ⟨1, s_iconst dX5_init_105 rfl, ⟨3, s_put (C := RX5) (T := TX5) (N := 12) tyX5 tyX5_ok nmX5 dX5_init_106 rfl (by decide) rfl (tyX5_ok 9 (by decide)) wt_232 uw_X5, ⟨1, s_aload_n dX5_init_109 rfl, ⟨1, s_iconst dX5_init_110 rfl, ⟨3, s_put (C := RX5) (T := TX5) (N := 12) tyX5 tyX5_ok nmX5 dX5_init_111 rfl (by decide) rfl (tyX5_ok 10 (by decide)) wt_233 uw_X5, ⟨1, s_aload_n dX5_init_114 rfl, ⟨3, s_new (C := RX3) (T := TX3) (N := 1) tyX3 tyX3_ok dX5_init_115 rfl nfX3_ok rfl rfl wt_210 wt_211 wt_7 uw_X3, ⟨1, s_dup dX5_init_118, ⟨1, s_iconst dX5_init_119 rfl, rfl⟩⟩⟩⟩⟩⟩⟩⟩⟩⟩⟩, t_ci rfl mi_65 mok_65 rfl (fun q As rest h hA hr => call_I dX5_init_120 mok_65 rfl ⟨by decide, by decide⟩ np_65 rfl rfl wt_212 wt_213 hA hr)⟩
theorem ok_92_9 : BkOK mi i_92 (bpf P_92) 9 (B_92.getD 9 bk0) := ⟨126, ⟨3, s_putF (C := RX5) (T := TX5) (N := 12) tyX5 tyX5_ok nmX5 dX5_init_123 rfl (by decide) rfl rfl rfl (tyX5_ok 11 (by decide)) wt_234 uw_X5, rfl⟩, t_retV dX5_init_126 rfl⟩
theorem ok_92 : ∀ b, BkOK mi i_92 (bpf P_92) b (B_92.getD b bk0)
  | 0 => ok_92_0
  | 1 => ok_92_1
  | 2 => ok_92_2
  | 3 => ok_92_3
  | 4 => ok_92_4
  | 5 => ok_92_5
  | 6 => ok_92_6
  | 7 => ok_92_7
  | 8 => ok_92_8
  | 9 => ok_92_9
  | b + 10 => bk_none mi i_92 (bpf P_92) (b + 10)
theorem ok_93_0 : BkOK mi i_93 (bpf P_93) 0 (B_93.getD 0 bk0) := ⟨1, ⟨1, s_iload_n dX5_append_0 rfl, rfl⟩, t_cs rfl mi_150 mok_150 rfl (fun As rest h hA hr => call_S dX5_append_1 mok_150 rfl ⟨by decide, by decide⟩ np_150 wt_692 wt_693 hA hr)⟩
theorem ok_93_1 : BkOK mi i_93 (bpf P_93) 1 (B_93.getD 1 bk0) := ⟨5, ⟨1, s_iload_n dX5_append_4 rfl, rfl⟩, t_cs rfl mi_150 mok_150 rfl (fun As rest h hA hr => call_S dX5_append_5 mok_150 rfl ⟨by decide, by decide⟩ np_150 wt_692 wt_693 hA hr)⟩
theorem ok_93_2 : BkOK mi i_93 (bpf P_93) 2 (B_93.getD 2 bk0) := ⟨10, ⟨1, s_iadd dX5_append_8, ⟨1, s_iload_n dX5_append_9 rfl, rfl⟩⟩, t_cs rfl mi_150 mok_150 rfl (fun As rest h hA hr => call_S dX5_append_10 mok_150 rfl ⟨by decide, by decide⟩ np_150 wt_692 wt_693 hA hr)⟩
theorem ok_93_3 : BkOK mi i_93 (bpf P_93) 3 (B_93.getD 3 bk0) := ⟨16, ⟨1, s_iadd dX5_append_13, ⟨2, s_iload dX5_append_14, rfl⟩⟩, t_cs rfl mi_150 mok_150 rfl (fun As rest h hA hr => call_S dX5_append_16 mok_150 rfl ⟨by decide, by decide⟩ np_150 wt_692 wt_693 hA hr)⟩
theorem ok_93_4 : BkOK mi i_93 (bpf P_93) 4 (B_93.getD 4 bk0) := ⟨22, ⟨1, s_iadd dX5_append_19, ⟨2, s_iload dX5_append_20, rfl⟩⟩, t_cs rfl mi_150 mok_150 rfl (fun As rest h hA hr => call_S dX5_append_22 mok_150 rfl ⟨by decide, by decide⟩ np_150 wt_692 wt_693 hA hr)⟩
theorem ok_93_5 : BkOK mi i_93 (bpf P_93) 5 (B_93.getD 5 bk0) := ⟨41, ⟨1, s_iadd dX5_append_25, ⟨2, s_istore dX5_append_26 (by decide), ⟨1, s_aload_n dX5_append_28 rfl, ⟨3, s_get (C := RX5) (T := TX5) (N := 12) dX5_append_29 rfl (by decide) wt_227 uw_X5, ⟨3, s_getN (C := RX4) (T := TX4) (N := 9) dX5_append_32 rfl (by decide) wt_179 uw_X4, ⟨2, s_iload dX5_append_35, ⟨1, s_iadd dX5_append_37, ⟨3, s_sipush dX5_append_38 rfl, rfl⟩⟩⟩⟩⟩⟩⟩⟩, t_le dX5_append_41 (by decide) rfl⟩
theorem ok_93_6 : BkOK mi i_93 (bpf P_93) 6 (B_93.getD 6 bk0) := ⟨44, rfl, t_thr ⟨75, 77, ["java/lang/RuntimeException", "java/lang/Exception"], dX5_append_44, dX5_append_47, dX5_append_48, dX5_append_51, thr_0.1, thr_0.2.1, thr_0.2.2, by decide, by decide⟩⟩
theorem ok_93_7 : BkOK mi i_93 (bpf P_93) 7 (B_93.getD 7 bk0) := ⟨57, ⟨1, s_aload_n dX5_append_52 rfl, ⟨3, s_get (C := RX5) (T := TX5) (N := 12) dX5_append_53 rfl (by decide) wt_227 uw_X5, ⟨1, s_iload_n dX5_append_56 rfl, rfl⟩⟩⟩, t_cv rfl mi_70 mok_70 rfl (fun _ => ⟨rfl, by decide +kernel⟩) (fun hs' e => by cases e; intro E n b h; cases h) (fun q fs As rest h hp hA hr => (call_V (i := i_93) (j := i_70) (C := RX4) (T := TX4) (N := 9) dX5_append_57 mok_70 rfl ⟨by decide, by decide⟩ np_70 rfl rfl wt_759 wt_760 wt_761 hp hA hr rfl).thr (fun _ => True.intro))⟩
theorem ok_93_8 : BkOK mi i_93 (bpf P_93) 8 (B_93.getD 8 bk0) := ⟨65, ⟨1, s_aload_n dX5_append_60 rfl, ⟨3, s_get (C := RX5) (T := TX5) (N := 12) dX5_append_61 rfl (by decide) wt_227 uw_X5, ⟨1, s_iload_n dX5_append_64 rfl, rfl⟩⟩⟩, t_cv rfl mi_70 mok_70 rfl (fun _ => ⟨rfl, by decide +kernel⟩) (fun hs' e => by cases e; intro E n b h; cases h) (fun q fs As rest h hp hA hr => (call_V (i := i_93) (j := i_70) (C := RX4) (T := TX4) (N := 9) dX5_append_65 mok_70 rfl ⟨by decide, by decide⟩ np_70 rfl rfl wt_759 wt_760 wt_761 hp hA hr rfl).thr (fun _ => True.intro))⟩
theorem ok_93_9 : BkOK mi i_93 (bpf P_93) 9 (B_93.getD 9 bk0) := ⟨73, ⟨1, s_aload_n dX5_append_68 rfl, ⟨3, s_get (C := RX5) (T := TX5) (N := 12) dX5_append_69 rfl (by decide) wt_227 uw_X5, ⟨1, s_iload_n dX5_append_72 rfl, rfl⟩⟩⟩, t_cv rfl mi_70 mok_70 rfl (fun _ => ⟨rfl, by decide +kernel⟩) (fun hs' e => by cases e; intro E n b h; cases h) (fun q fs As rest h hp hA hr => (call_V (i := i_93) (j := i_70) (C := RX4) (T := TX4) (N := 9) dX5_append_73 mok_70 rfl ⟨by decide, by decide⟩ np_70 rfl rfl wt_759 wt_760 wt_761 hp hA hr rfl).thr (fun _ => True.intro))⟩
theorem ok_93_10 : BkOK mi i_93 (bpf P_93) 10 (B_93.getD 10 bk0) := ⟨82, ⟨1, s_aload_n dX5_append_76 rfl, ⟨3, s_get (C := RX5) (T := TX5) (N := 12) dX5_append_77 rfl (by decide) wt_227 uw_X5, ⟨2, s_iload dX5_append_80, rfl⟩⟩⟩, t_cv rfl mi_70 mok_70 rfl (fun _ => ⟨rfl, by decide +kernel⟩) (fun hs' e => by cases e; intro E n b h; cases h) (fun q fs As rest h hp hA hr => (call_V (i := i_93) (j := i_70) (C := RX4) (T := TX4) (N := 9) dX5_append_82 mok_70 rfl ⟨by decide, by decide⟩ np_70 rfl rfl wt_759 wt_760 wt_761 hp hA hr rfl).thr (fun _ => True.intro))⟩
theorem ok_93_11 : BkOK mi i_93 (bpf P_93) 11 (B_93.getD 11 bk0) := ⟨91, ⟨1, s_aload_n dX5_append_85 rfl, ⟨3, s_get (C := RX5) (T := TX5) (N := 12) dX5_append_86 rfl (by decide) wt_227 uw_X5, ⟨2, s_iload dX5_append_89, rfl⟩⟩⟩, t_cv rfl mi_70 mok_70 rfl (fun _ => ⟨rfl, by decide +kernel⟩) (fun hs' e => by cases e; intro E n b h; cases h) (fun q fs As rest h hp hA hr => (call_V (i := i_93) (j := i_70) (C := RX4) (T := TX4) (N := 9) dX5_append_91 mok_70 rfl ⟨by decide, by decide⟩ np_70 rfl rfl wt_759 wt_760 wt_761 hp hA hr rfl).thr (fun _ => True.intro))⟩
theorem ok_93_12 : BkOK mi i_93 (bpf P_93) 12 (B_93.getD 12 bk0) := ⟨101, ⟨1, s_aload_n dX5_append_94 rfl, ⟨3, s_get (C := RX5) (T := TX5) (N := 12) dX5_append_95 rfl (by decide) wt_227 uw_X5, ⟨3, s_getN (C := RX4) (T := TX4) (N := 9) dX5_append_98 rfl (by decide) wt_179 uw_X4, rfl⟩⟩⟩, t_ret dX5_append_101 rfl⟩
theorem ok_93 : ∀ b, BkOK mi i_93 (bpf P_93) b (B_93.getD b bk0)
  | 0 => ok_93_0
  | 1 => ok_93_1
  | 2 => ok_93_2
  | 3 => ok_93_3
  | 4 => ok_93_4
  | 5 => ok_93_5
  | 6 => ok_93_6
  | 7 => ok_93_7
  | 8 => ok_93_8
  | 9 => ok_93_9
  | 10 => ok_93_10
  | 11 => ok_93_11
  | 12 => ok_93_12
  | b + 13 => bk_none mi i_93 (bpf P_93) (b + 13)
theorem ok_94_0 : BkOK mi i_94 (bpf P_94) 0 (B_94.getD 0 bk0) := ⟨8, ⟨1, s_aload_n dX5_load_0 rfl, ⟨3, s_get (C := RX5) (T := TX5) (N := 12) dX5_load_1 rfl (by decide) wt_227 uw_X5, ⟨1, s_aload_n dX5_load_4 rfl, ⟨3, s_get (C := RX5) (T := TX5) (N := 12) dX5_load_5 rfl (by decide) wt_224 uw_X5, rfl⟩⟩⟩⟩, t_cv rfl mi_71 mok_71 rfl (fun _ => ⟨rfl, by decide +kernel⟩) (fun hs' e => by cases e; intro E n b h; cases h) (fun q fs As rest h hp hA hr => (call_V (i := i_94) (j := i_71) (C := RX4) (T := TX4) (N := 9) dX5_load_8 mok_71 rfl ⟨by decide, by decide⟩ np_71 rfl rfl wt_264 wt_265 wt_266 hp hA hr rfl).thr (fun _ => True.intro))⟩
theorem ok_94_1 : BkOK mi i_94 (bpf P_94) 1 (B_94.getD 1 bk0) := ⟨21, ⟨1, s_istore_n dX5_load_11 rfl (by decide), ⟨1, s_aload_n dX5_load_12 rfl, ⟨3, s_get (C := RX5) (T := TX5) (N := 12) dX5_load_13 rfl (by decide) wt_227 uw_X5, ⟨1, s_iconst dX5_load_16 rfl, ⟨3, s_putN (C := RX4) (T := TX4) (N := 9) tyX4 tyX4_ok nmX4 dX5_load_17 rfl (by decide) rfl (tyX4_ok 1 (by decide)) wt_179 uw_X4, ⟨1, s_iload_n dX5_load_20 rfl, rfl⟩⟩⟩⟩⟩⟩, t_ne0 dX5_load_21 (by decide) rfl⟩
theorem ok_94_2 : BkOK mi i_94 (bpf P_94) 2 (B_94.getD 2 bk0) := ⟨31, ⟨1, s_aload_n dX5_load_24 rfl, ⟨3, s_get (C := RX5) (T := TX5) (N := 12) dX5_load_25 rfl (by decide) wt_227 uw_X5, ⟨3, s_getN (C := RX4) (T := TX4) (N := 9) dX5_load_28 rfl (by decide) wt_181 uw_X4, rfl⟩⟩⟩, t_ret dX5_load_31 rfl⟩
theorem ok_94_3 : BkOK mi i_94 (bpf P_94) 3 (B_94.getD 3 bk0) := ⟨33, ⟨1, s_aload_n dX5_load_32 rfl, rfl⟩, t_cv rfl mi_138 mok_138 rfl (fun _ => ⟨rfl, by decide +kernel⟩) (fun hs' e => by cases e; intro E n b h; cases h) (fun q fs As rest h hp hA hr => (call_V (i := i_94) (j := i_138) (C := RX5) (T := TX5) (N := 12) dX5_load_33 mok_138 rfl ⟨by decide, by decide⟩ np_138 rfl rfl wt_444 wt_446 ws_0 hp hA hr rfl).thr (fun _ => True.intro))⟩
theorem ok_94_4 : BkOK mi i_94 (bpf P_94) 4 (B_94.getD 4 bk0) := ⟨44, ⟨1, s_aload_n dX5_load_36 rfl, ⟨3, s_get (C := RX5) (T := TX5) (N := 12) dX5_load_37 rfl (by decide) wt_223 uw_X5, ⟨1, s_aload_n dX5_load_40 rfl, ⟨3, s_get (C := RX5) (T := TX5) (N := 12) dX5_load_41 rfl (by decide) wt_224 uw_X5, rfl⟩⟩⟩⟩, t_cv rfl mi_2 mok_2 rfl (fun _ => ⟨rfl, by decide +kernel⟩) (fun hs' e => by cases e; intro E n b h; cases h) (fun q fs As rest h hp hA hr => (call_V (i := i_94) (j := i_2) (C := RX0) (T := TX0) (N := 10) dX5_load_44 mok_2 rfl ⟨by decide, by decide⟩ np_2 rfl rfl wt_469 wt_454 wt_455 hp hA hr rfl).thr (fun _ => True.intro))⟩
theorem ok_94_5 : BkOK mi i_94 (bpf P_94) 5 (B_94.getD 5 bk0) := ⟨54, ⟨1, s_aload_n dX5_load_47 rfl, ⟨3, s_get (C := RX5) (T := TX5) (N := 12) dX5_load_48 rfl (by decide) wt_223 uw_X5, ⟨3, s_getN (C := RX0) (T := TX0) (N := 10) dX5_load_51 rfl (by decide) wt_74 uw_X0, rfl⟩⟩⟩, t_ret dX5_load_54 rfl⟩
theorem ok_94 : ∀ b, BkOK mi i_94 (bpf P_94) b (B_94.getD b bk0)
  | 0 => ok_94_0
  | 1 => ok_94_1
  | 2 => ok_94_2
  | 3 => ok_94_3
  | 4 => ok_94_4
  | 5 => ok_94_5
  | b + 6 => bk_none mi i_94 (bpf P_94) (b + 6)
theorem ok_95_0 : BkOK mi i_95 (bpf P_95) 0 (B_95.getD 0 bk0) := ⟨7, ⟨1, s_aload_n dX5_errorPosition_0 rfl, ⟨3, s_get (C := RX5) (T := TX5) (N := 12) dX5_errorPosition_1 rfl (by decide) wt_227 uw_X5, ⟨3, s_getN (C := RX4) (T := TX4) (N := 9) dX5_errorPosition_4 rfl (by decide) wt_183 uw_X4, rfl⟩⟩⟩, t_ret dX5_errorPosition_7 rfl⟩
theorem ok_95 : ∀ b, BkOK mi i_95 (bpf P_95) b (B_95.getD b bk0)
  | 0 => ok_95_0
  | b + 1 => bk_none mi i_95 (bpf P_95) (b + 1)
theorem ok_96_0 : BkOK mi i_96 (bpf P_96) 0 (B_96.getD 0 bk0) := ⟨1, ⟨1, s_iload_n dX5_count_0 rfl, rfl⟩, t_table dX5_count_1 (by decide) (by decide) ⟨by decide, by decide⟩ (by decide +kernel)⟩
theorem ok_96_1 : BkOK mi i_96 (bpf P_96) 1 (B_96.getD 1 bk0) := ⟨51, ⟨1, s_aload_n dX5_count_44 rfl, ⟨3, s_get (C := RX5) (T := TX5) (N := 12) dX5_count_45 rfl (by decide) wt_223 uw_X5, ⟨3, s_getN (C := RX0) (T := TX0) (N := 10) dX5_count_48 rfl (by decide) wt_74 uw_X0, rfl⟩⟩⟩, t_ret dX5_count_51 rfl⟩
theorem ok_96_2 : BkOK mi i_96 (bpf P_96) 2 (B_96.getD 2 bk0) := ⟨56, ⟨1, s_aload_n dX5_count_52 rfl, ⟨3, s_get (C := RX5) (T := TX5) (N := 12) dX5_count_53 rfl (by decide) wt_223 uw_X5, rfl⟩⟩, t_cv rfl mi_11 mok_11 rfl (fun _ => ⟨rfl, by decide +kernel⟩) (fun hs' e => by cases e; intro E n b h; cases h) (fun q fs As rest h hp hA hr => (call_V (i := i_96) (j := i_11) (C := RX0) (T := TX0) (N := 10) dX5_count_56 mok_11 rfl ⟨by decide, by decide⟩ np_11 rfl rfl wt_771 wt_772 wt_773 hp hA hr rfl).thr (fun _ => True.intro))⟩
theorem ok_96_3 : BkOK mi i_96 (bpf P_96) 3 (B_96.getD 3 bk0) := ⟨59, rfl, t_ret dX5_count_59 rfl⟩
theorem ok_96_4 : BkOK mi i_96 (bpf P_96) 4 (B_96.getD 4 bk0) := ⟨67, ⟨1, s_aload_n dX5_count_60 rfl, ⟨3, s_get (C := RX5) (T := TX5) (N := 12) dX5_count_61 rfl (by decide) wt_223 uw_X5, ⟨3, s_getN (C := RX0) (T := TX0) (N := 10) dX5_count_64 rfl (by decide) wt_71 uw_X0, rfl⟩⟩⟩, t_eq0 dX5_count_67 (by decide) rfl⟩
theorem ok_96_5 : BkOK mi i_96 (bpf P_96) 5 (B_96.getD 5 bk0) := ⟨71, ⟨1, s_iconst dX5_count_70 rfl, rfl⟩, t_go dX5_count_71 (by decide)⟩
theorem ok_96_6 : BkOK mi i_96 (bpf P_96) 6 (B_96.getD 6 bk0) := ⟨75, ⟨1, s_iconst dX5_count_74 rfl, rfl⟩, t_fall rfl⟩
theorem ok_96_7 : BkOK mi i_96 (bpf P_96) 7 (B_96.getD 7 bk0) := ⟨75, rfl, t_ret dX5_count_75 rfl⟩
theorem ok_96_8 : BkOK mi i_96 (bpf P_96) 8 (B_96.getD 8 bk0) := ⟨80, ⟨1, s_aload_n dX5_count_76 rfl, ⟨3, s_get (C := RX5) (T := TX5) (N := 12) dX5_count_77 rfl (by decide) wt_223 uw_X5, rfl⟩⟩, t_cv rfl mi_12 mok_12 rfl (fun _ => ⟨rfl, by decide +kernel⟩) (fun hs' e => by cases e; intro E n b h; cases h) (fun q fs As rest h hp hA hr => (call_V (i := i_96) (j := i_12) (C := RX0) (T := TX0) (N := 10) dX5_count_80 mok_12 rfl ⟨by decide, by decide⟩ np_12 rfl rfl wt_775 wt_776 wt_777 hp hA hr rfl).thr (fun _ => True.intro))⟩
theorem ok_96_9 : BkOK mi i_96 (bpf P_96) 9 (B_96.getD 9 bk0) := ⟨83, rfl, t_ret dX5_count_83 rfl⟩
theorem ok_96_10 : BkOK mi i_96 (bpf P_96) 10 (B_96.getD 10 bk0) := ⟨88, ⟨1, s_aload_n dX5_count_84 rfl, ⟨3, s_get (C := RX5) (T := TX5) (N := 12) dX5_count_85 rfl (by decide) wt_223 uw_X5, rfl⟩⟩, t_cv rfl mi_13 mok_13 rfl (fun _ => ⟨rfl, by decide +kernel⟩) (fun hs' e => by cases e; intro E n b h; cases h) (fun q fs As rest h hp hA hr => (call_V (i := i_96) (j := i_13) (C := RX0) (T := TX0) (N := 10) dX5_count_88 mok_13 rfl ⟨by decide, by decide⟩ np_13 rfl rfl wt_780 wt_781 wt_782 hp hA hr rfl).thr (fun _ => True.intro))⟩
theorem ok_96_11 : BkOK mi i_96 (bpf P_96) 11 (B_96.getD 11 bk0) := ⟨91, rfl, t_ret dX5_count_91 rfl⟩
theorem ok_96_12 : BkOK mi i_96 (bpf P_96) 12 (B_96.getD 12 bk0) := ⟨96, ⟨1, s_aload_n dX5_count_92 rfl, ⟨3, s_get (C := RX5) (T := TX5) (N := 12) dX5_count_93 rfl (by decide) wt_223 uw_X5, rfl⟩⟩, t_cv rfl mi_14 mok_14 rfl (fun _ => ⟨rfl, by decide +kernel⟩) (fun hs' e => by cases e; intro E n b h; cases h) (fun q fs As rest h hp hA hr => (call_V (i := i_96) (j := i_14) (C := RX0) (T := TX0) (N := 10) dX5_count_96 mok_14 rfl ⟨by decide, by decide⟩ np_14 rfl rfl wt_784 wt_785 wt_786 hp hA hr rfl).thr (fun _ => True.intro))⟩
theorem ok_96_13 : BkOK mi i_96 (bpf P_96) 13 (B_96.getD 13 bk0) := ⟨99, rfl, t_ret dX5_count_99 rfl⟩
theorem ok_96_14 : BkOK mi i_96 (bpf P_96) 14 (B_96.getD 14 bk0) := ⟨104, ⟨1, s_aload_n dX5_count_100 rfl, ⟨3, s_get (C := RX5) (T := TX5) (N := 12) dX5_count_101 rfl (by decide) wt_223 uw_X5, rfl⟩⟩, t_cv rfl mi_15 mok_15 rfl (fun _ => ⟨rfl, by decide +kernel⟩) (fun hs' e => by cases e; intro E n b h; cases h) (fun q fs As rest h hp hA hr => (call_V (i := i_96) (j := i_15) (C := RX0) (T := TX0) (N := 10) dX5_count_104 mok_15 rfl ⟨by decide, by decide⟩ np_15 rfl rfl wt_788 wt_789 wt_790 hp hA hr rfl).thr (fun _ => True.intro))⟩
theorem ok_96_15 : BkOK mi i_96 (bpf P_96) 15 (B_96.getD 15 bk0) := ⟨107, rfl, t_ret dX5_count_107 rfl⟩
theorem ok_96_16 : BkOK mi i_96 (bpf P_96) 16 (B_96.getD 16 bk0) := ⟨108, rfl, t_thr ⟨121, 123, ["java/lang/RuntimeException", "java/lang/Exception"], dX5_count_108, dX5_count_111, dX5_count_112, dX5_count_115, thr_1.1, thr_1.2.1, thr_1.2.2, by decide, by decide⟩⟩
theorem ok_96 : ∀ b, BkOK mi i_96 (bpf P_96) b (B_96.getD b bk0)
  | 0 => ok_96_0
  | 1 => ok_96_1
  | 2 => ok_96_2
  | 3 => ok_96_3
  | 4 => ok_96_4
  | 5 => ok_96_5
  | 6 => ok_96_6
  | 7 => ok_96_7
  | 8 => ok_96_8
  | 9 => ok_96_9
  | 10 => ok_96_10
  | 11 => ok_96_11
  | 12 => ok_96_12
  | 13 => ok_96_13
  | 14 => ok_96_14
  | 15 => ok_96_15
  | 16 => ok_96_16
  | b + 17 => bk_none mi i_96 (bpf P_96) (b + 17)
theorem ok_97_0 : BkOK mi i_97 (bpf P_97) 0 (B_97.getD 0 bk0) := ⟨2, ⟨1, s_aload_n dX5_event_0 rfl, ⟨1, s_iload_n dX5_event_1 rfl, rfl⟩⟩, t_cv rfl mi_131 mok_131 rfl (fun _ => ⟨rfl, by decide +kernel⟩) (fun hs' e => by cases e; intro E n b h; cases h) (fun q fs As rest h hp hA hr => (call_V (i := i_97) (j := i_131) (C := RX5) (T := TX5) (N := 12) dX5_event_2 mok_131 rfl ⟨by decide, by decide⟩ np_131 rfl rfl wt_815 wt_817 ws_4 hp hA hr rfl).thr (fun _ => True.intro))⟩
theorem ok_97_1 : BkOK mi i_97 (bpf P_97) 1 (B_97.getD 1 bk0) := ⟨6, ⟨1, s_iload_n dX5_event_5 rfl, rfl⟩, t_table dX5_event_6 (by decide) (by decide) ⟨by decide, by decide⟩ (by decide +kernel)⟩
theorem ok_97_2 : BkOK mi i_97 (bpf P_97) 2 (B_97.getD 2 bk0) := ⟨40, ⟨1, s_aload_n dX5_event_32 rfl, ⟨3, s_get (C := RX5) (T := TX5) (N := 12) dX5_event_33 rfl (by decide) wt_223 uw_X5, ⟨3, s_getN (C := RX0) (T := TX0) (N := 10) dX5_event_36 rfl (by decide) wt_78 uw_X0, ⟨1, s_iload_n dX5_event_39 rfl, rfl⟩⟩⟩⟩, t_cv rfl mi_62 mok_62 rfl (fun _ => ⟨rfl, by decide +kernel⟩) (fun hs' e => by cases e; intro E n b h; cases h) (fun q fs As rest h hp hA hr => (call_V (i := i_97) (j := i_62) (C := RX2) (T := TX2) (N := 1) dX5_event_40 mok_62 rfl ⟨by decide, by decide⟩ np_62 rfl rfl wt_661 wt_277 wt_278 hp hA hr rfl).thr (fun _ => True.intro))⟩
theorem ok_97_3 : BkOK mi i_97 (bpf P_97) 3 (B_97.getD 3 bk0) := ⟨43, rfl, t_ret dX5_event_43 rfl⟩
theorem ok_97_4 : BkOK mi i_97 (bpf P_97) 4 (B_97.getD 4 bk0) := ⟨52, ⟨1, s_aload_n dX5_event_44 rfl, ⟨3, s_get (C := RX5) (T := TX5) (N := 12) dX5_event_45 rfl (by decide) wt_223 uw_X5, ⟨3, s_getN (C := RX0) (T := TX0) (N := 10) dX5_event_48 rfl (by decide) wt_81 uw_X0, ⟨1, s_iload_n dX5_event_51 rfl, rfl⟩⟩⟩⟩, t_cv rfl mi_62 mok_62 rfl (fun _ => ⟨rfl, by decide +kernel⟩) (fun hs' e => by cases e; intro E n b h; cases h) (fun q fs As rest h hp hA hr => (call_V (i := i_97) (j := i_62) (C := RX2) (T := TX2) (N := 1) dX5_event_52 mok_62 rfl ⟨by decide, by decide⟩ np_62 rfl rfl wt_661 wt_277 wt_278 hp hA hr rfl).thr (fun _ => True.intro))⟩
theorem ok_97_5 : BkOK mi i_97 (bpf P_97) 5 (B_97.getD 5 bk0) := ⟨55, rfl, t_ret dX5_event_55 rfl⟩
theorem ok_97_6 : BkOK mi i_97 (bpf P_97) 6 (B_97.getD 6 bk0) := ⟨64, ⟨1, s_aload_n dX5_event_56 rfl, ⟨3, s_get (C := RX5) (T := TX5) (N := 12) dX5_event_57 rfl (by decide) wt_225 uw_X5, ⟨1, s_aload_n dX5_event_60 rfl, ⟨3, s_get (C := RX5) (T := TX5) (N := 12) dX5_event_61 rfl (by decide) wt_223 uw_X5, rfl⟩⟩⟩⟩, t_cv rfl mi_30 mok_30 rfl (fun _ => ⟨rfl, by decide +kernel⟩) (fun hs' e => by cases e; intro E n b h; cases h) (fun q fs As rest h hp hA hr => (call_V (i := i_97) (j := i_30) (C := RX1) (T := TX1) (N := 13) dX5_event_64 mok_30 rfl ⟨by decide, by decide⟩ np_30 rfl rfl wt_479 wt_480 wt_481 hp hA hr rfl).thr (fun _ => True.intro))⟩
theorem ok_97_7 : BkOK mi i_97 (bpf P_97) 7 (B_97.getD 7 bk0) := ⟨75, ⟨1, s_aload_n dX5_event_67 rfl, ⟨3, s_get (C := RX5) (T := TX5) (N := 12) dX5_event_68 rfl (by decide) wt_225 uw_X5, ⟨3, s_getN (C := RX1) (T := TX1) (N := 13) dX5_event_71 rfl (by decide) wt_131 uw_X1, ⟨1, s_iload_n dX5_event_74 rfl, rfl⟩⟩⟩⟩, t_cv rfl mi_62 mok_62 rfl (fun _ => ⟨rfl, by decide +kernel⟩) (fun hs' e => by cases e; intro E n b h; cases h) (fun q fs As rest h hp hA hr => (call_V (i := i_97) (j := i_62) (C := RX2) (T := TX2) (N := 1) dX5_event_75 mok_62 rfl ⟨by decide, by decide⟩ np_62 rfl rfl wt_661 wt_277 wt_278 hp hA hr rfl).thr (fun _ => True.intro))⟩
theorem ok_97_8 : BkOK mi i_97 (bpf P_97) 8 (B_97.getD 8 bk0) := ⟨78, rfl, t_ret dX5_event_78 rfl⟩
theorem ok_97_9 : BkOK mi i_97 (bpf P_97) 9 (B_97.getD 9 bk0) := ⟨79, rfl, t_thr ⟨121, 123, ["java/lang/RuntimeException", "java/lang/Exception"], dX5_event_79, dX5_event_82, dX5_event_83, dX5_event_86, thr_1.1, thr_1.2.1, thr_1.2.2, by decide, by decide⟩⟩
theorem ok_97 : ∀ b, BkOK mi i_97 (bpf P_97) b (B_97.getD b bk0)
  | 0 => ok_97_0
  | 1 => ok_97_1
  | 2 => ok_97_2
  | 3 => ok_97_3
  | 4 => ok_97_4
  | 5 => ok_97_5
  | 6 => ok_97_6
  | 7 => ok_97_7
  | 8 => ok_97_8
  | 9 => ok_97_9
  | b + 10 => bk_none mi i_97 (bpf P_97) (b + 10)
theorem ok_98_0 : BkOK mi i_98 (bpf P_98) 0 (B_98.getD 0 bk0) := ⟨3, ⟨1, s_aload_n dX5_note_0 rfl, ⟨1, s_iload_n dX5_note_1 rfl, ⟨1, s_iload_n dX5_note_2 rfl, rfl⟩⟩⟩, t_cv rfl mi_132 mok_132 rfl (fun _ => ⟨rfl, by decide +kernel⟩) (fun hs' e => by cases e; intro E n b h; cases h) (fun q fs As rest h hp hA hr => (call_V (i := i_98) (j := i_132) (C := RX5) (T := TX5) (N := 12) dX5_note_3 mok_132 rfl ⟨by decide, by decide⟩ np_132 rfl rfl wt_842 wt_844 ws_5 hp hA hr rfl).thr (fun _ => True.intro))⟩
theorem ok_98_1 : BkOK mi i_98 (bpf P_98) 1 (B_98.getD 1 bk0) := ⟨7, ⟨1, s_iload_n dX5_note_6 rfl, rfl⟩, t_lookup2 (a := 0) (b := 1) dX5_note_7 (by decide) (by decide) (by decide) (by decide)⟩
theorem ok_98_2 : BkOK mi i_98 (bpf P_98) 2 (B_98.getD 2 bk0) := ⟨38, ⟨1, s_aload_n dX5_note_32 rfl, ⟨3, s_get (C := RX5) (T := TX5) (N := 12) dX5_note_33 rfl (by decide) wt_223 uw_X5, ⟨1, s_iload_n dX5_note_36 rfl, ⟨1, s_iload_n dX5_note_37 rfl, rfl⟩⟩⟩⟩, t_cv rfl mi_10 mok_10 rfl (fun _ => ⟨rfl, by decide +kernel⟩) (fun hs' e => by cases e; intro E n b h; cases h) (fun q fs As rest h hp hA hr => (call_V (i := i_98) (j := i_10) (C := RX0) (T := TX0) (N := 10) dX5_note_38 mok_10 rfl ⟨by decide, by decide⟩ np_10 rfl rfl wt_846 wt_509 wt_510 hp hA hr rfl).thr (fun _ => True.intro))⟩
theorem ok_98_3 : BkOK mi i_98 (bpf P_98) 3 (B_98.getD 3 bk0) := ⟨41, rfl, t_ret dX5_note_41 rfl⟩
theorem ok_98_4 : BkOK mi i_98 (bpf P_98) 4 (B_98.getD 4 bk0) := ⟨51, ⟨1, s_aload_n dX5_note_42 rfl, ⟨3, s_get (C := RX5) (T := TX5) (N := 12) dX5_note_43 rfl (by decide) wt_223 uw_X5, ⟨3, s_getN (C := RX0) (T := TX0) (N := 10) dX5_note_46 rfl (by decide) wt_86 uw_X0, ⟨1, s_iload_n dX5_note_49 rfl, ⟨1, s_iload_n dX5_note_50 rfl, rfl⟩⟩⟩⟩⟩, t_cs rfl mi_146 mok_146 rfl (fun As rest h hA hr => call_S dX5_note_51 mok_146 rfl ⟨by decide, by decide⟩ np_146 wt_655 wt_416 hA hr)⟩
theorem ok_98_5 : BkOK mi i_98 (bpf P_98) 5 (B_98.getD 5 bk0) := ⟨54, rfl, t_cv rfl mi_62 mok_62 rfl (fun _ => ⟨rfl, by decide +kernel⟩) (fun hs' e => by cases e; intro E n b h; cases h) (fun q fs As rest h hp hA hr => (call_V (i := i_98) (j := i_62) (C := RX2) (T := TX2) (N := 1) dX5_note_54 mok_62 rfl ⟨by decide, by decide⟩ np_62 rfl rfl wt_661 wt_277 wt_278 hp hA hr rfl).thr (fun _ => True.intro))⟩
theorem ok_98_6 : BkOK mi i_98 (bpf P_98) 6 (B_98.getD 6 bk0) := ⟨57, rfl, t_ret dX5_note_57 rfl⟩
theorem ok_98_7 : BkOK mi i_98 (bpf P_98) 7 (B_98.getD 7 bk0) := ⟨58, rfl, t_thr ⟨121, 123, ["java/lang/RuntimeException", "java/lang/Exception"], dX5_note_58, dX5_note_61, dX5_note_62, dX5_note_65, thr_1.1, thr_1.2.1, thr_1.2.2, by decide, by decide⟩⟩
theorem ok_98 : ∀ b, BkOK mi i_98 (bpf P_98) b (B_98.getD b bk0)
  | 0 => ok_98_0
  | 1 => ok_98_1
  | 2 => ok_98_2
  | 3 => ok_98_3
  | 4 => ok_98_4
  | 5 => ok_98_5
  | 6 => ok_98_6
  | 7 => ok_98_7
  | b + 8 => bk_none mi i_98 (bpf P_98) (b + 8)
theorem ok_99_0 : BkOK mi i_99 (bpf P_99) 0 (B_99.getD 0 bk0) := ⟨2, ⟨1, s_aload_n dX5_weight_0 rfl, ⟨1, s_iload_n dX5_weight_1 rfl, rfl⟩⟩, t_cv rfl mi_134 mok_134 rfl (fun _ => ⟨rfl, by decide +kernel⟩) (fun hs' e => by cases e; intro E n b h; cases h) (fun q fs As rest h hp hA hr => (call_V (i := i_99) (j := i_134) (C := RX5) (T := TX5) (N := 12) dX5_weight_2 mok_134 rfl ⟨by decide, by decide⟩ np_134 rfl rfl wt_854 wt_856 ws_6 hp hA hr rfl).thr (fun _ => True.intro))⟩
theorem ok_99_1 : BkOK mi i_99 (bpf P_99) 1 (B_99.getD 1 bk0) := ⟨13, ⟨1, s_aload_n dX5_weight_5 rfl, ⟨3, s_get (C := RX5) (T := TX5) (N := 12) dX5_weight_6 rfl (by decide) wt_223 uw_X5, ⟨3, s_getN (C := RX0) (T := TX0) (N := 10) dX5_weight_9 rfl (by decide) wt_90 uw_X0, ⟨1, s_iload_n dX5_weight_12 rfl, rfl⟩⟩⟩⟩, t_cv rfl mi_62 mok_62 rfl (fun _ => ⟨rfl, by decide +kernel⟩) (fun hs' e => by cases e; intro E n b h; cases h) (fun q fs As rest h hp hA hr => (call_V (i := i_99) (j := i_62) (C := RX2) (T := TX2) (N := 1) dX5_weight_13 mok_62 rfl ⟨by decide, by decide⟩ np_62 rfl rfl wt_661 wt_277 wt_278 hp hA hr rfl).thr (fun _ => True.intro))⟩
theorem ok_99_2 : BkOK mi i_99 (bpf P_99) 2 (B_99.getD 2 bk0) := ⟨16, rfl, t_ret dX5_weight_16 rfl⟩
theorem ok_99 : ∀ b, BkOK mi i_99 (bpf P_99) b (B_99.getD b bk0)
  | 0 => ok_99_0
  | 1 => ok_99_1
  | 2 => ok_99_2
  | b + 3 => bk_none mi i_99 (bpf P_99) (b + 3)
theorem ok_100_0 : BkOK mi i_100 (bpf P_100) 0 (B_100.getD 0 bk0) := ⟨2, ⟨1, s_aload_n dX5_span_0 rfl, ⟨1, s_iload_n dX5_span_1 rfl, rfl⟩⟩, t_cv rfl mi_133 mok_133 rfl (fun _ => ⟨rfl, by decide +kernel⟩) (fun hs' e => by cases e; intro E n b h; cases h) (fun q fs As rest h hp hA hr => (call_V (i := i_100) (j := i_133) (C := RX5) (T := TX5) (N := 12) dX5_span_2 mok_133 rfl ⟨by decide, by decide⟩ np_133 rfl rfl wt_865 wt_867 ws_7 hp hA hr rfl).thr (fun _ => True.intro))⟩
theorem ok_100_1 : BkOK mi i_100 (bpf P_100) 1 (B_100.getD 1 bk0) := ⟨7, ⟨1, s_aload_n dX5_span_5 rfl, ⟨1, s_iload_n dX5_span_6 rfl, rfl⟩⟩, t_cv rfl mi_133 mok_133 rfl (fun _ => ⟨rfl, by decide +kernel⟩) (fun hs' e => by cases e; intro E n b h; cases h) (fun q fs As rest h hp hA hr => (call_V (i := i_100) (j := i_133) (C := RX5) (T := TX5) (N := 12) dX5_span_7 mok_133 rfl ⟨by decide, by decide⟩ np_133 rfl rfl wt_865 wt_867 ws_7 hp hA hr rfl).thr (fun _ => True.intro))⟩
theorem ok_100_2 : BkOK mi i_100 (bpf P_100) 2 (B_100.getD 2 bk0) := ⟨12, ⟨1, s_iload_n dX5_span_10 rfl, ⟨1, s_iload_n dX5_span_11 rfl, rfl⟩⟩, t_nei dX5_span_12 (by decide) rfl⟩
theorem ok_100_3 : BkOK mi i_100 (bpf P_100) 3 (B_100.getD 3 bk0) := ⟨15, rfl, t_thr ⟨121, 123, ["java/lang/RuntimeException", "java/lang/Exception"], dX5_span_15, dX5_span_18, dX5_span_19, dX5_span_22, thr_1.1, thr_1.2.1, thr_1.2.2, by decide, by decide⟩⟩
theorem ok_100_4 : BkOK mi i_100 (bpf P_100) 4 (B_100.getD 4 bk0) := ⟨24, ⟨1, s_iload_n dX5_span_23 rfl, rfl⟩, t_table dX5_span_24 (by decide) (by decide) ⟨by decide, by decide⟩ (by decide +kernel)⟩
theorem ok_100_5 : BkOK mi i_100 (bpf P_100) 5 (B_100.getD 5 bk0) := ⟨61, ⟨1, s_aload_n dX5_span_52 rfl, ⟨3, s_get (C := RX5) (T := TX5) (N := 12) dX5_span_53 rfl (by decide) wt_223 uw_X5, ⟨3, s_getN (C := RX0) (T := TX0) (N := 10) dX5_span_56 rfl (by decide) wt_92 uw_X0, ⟨1, s_iload_n dX5_span_59 rfl, ⟨1, s_iload_n dX5_span_60 rfl, rfl⟩⟩⟩⟩⟩, t_cs rfl mi_147 mok_147 rfl (fun As rest h hA hr => call_S dX5_span_61 mok_147 rfl ⟨by decide, by decide⟩ np_147 wt_869 wt_67 hA hr)⟩
theorem ok_100_6 : BkOK mi i_100 (bpf P_100) 6 (B_100.getD 6 bk0) := ⟨64, rfl, t_cv rfl mi_62 mok_62 rfl (fun _ => ⟨rfl, by decide +kernel⟩) (fun hs' e => by cases e; intro E n b h; cases h) (fun q fs As rest h hp hA hr => (call_V (i := i_100) (j := i_62) (C := RX2) (T := TX2) (N := 1) dX5_span_64 mok_62 rfl ⟨by decide, by decide⟩ np_62 rfl rfl wt_661 wt_277 wt_278 hp hA hr rfl).thr (fun _ => True.intro))⟩
theorem ok_100_7 : BkOK mi i_100 (bpf P_100) 7 (B_100.getD 7 bk0) := ⟨67, rfl, t_ret dX5_span_67 rfl⟩
theorem ok_100_8 : BkOK mi i_100 (bpf P_100) 8 (B_100.getD 8 bk0) := ⟨77, ⟨1, s_aload_n dX5_span_68 rfl, ⟨3, s_get (C := RX5) (T := TX5) (N := 12) dX5_span_69 rfl (by decide) wt_223 uw_X5, ⟨3, s_getN (C := RX0) (T := TX0) (N := 10) dX5_span_72 rfl (by decide) wt_94 uw_X0, ⟨1, s_iload_n dX5_span_75 rfl, ⟨1, s_iload_n dX5_span_76 rfl, rfl⟩⟩⟩⟩⟩, t_cs rfl mi_147 mok_147 rfl (fun As rest h hA hr => call_S dX5_span_77 mok_147 rfl ⟨by decide, by decide⟩ np_147 wt_869 wt_67 hA hr)⟩
theorem ok_100_9 : BkOK mi i_100 (bpf P_100) 9 (B_100.getD 9 bk0) := ⟨80, rfl, t_cv rfl mi_62 mok_62 rfl (fun _ => ⟨rfl, by decide +kernel⟩) (fun hs' e => by cases e; intro E n b h; cases h) (fun q fs As rest h hp hA hr => (call_V (i := i_100) (j := i_62) (C := RX2) (T := TX2) (N := 1) dX5_span_80 mok_62 rfl ⟨by decide, by decide⟩ np_62 rfl rfl wt_661 wt_277 wt_278 hp hA hr rfl).thr (fun _ => True.intro))⟩
theorem ok_100_10 : BkOK mi i_100 (bpf P_100) 10 (B_100.getD 10 bk0) := ⟨83, rfl, t_ret dX5_span_83 rfl⟩
theorem ok_100_11 : BkOK mi i_100 (bpf P_100) 11 (B_100.getD 11 bk0) := ⟨93, ⟨1, s_aload_n dX5_span_84 rfl, ⟨3, s_get (C := RX5) (T := TX5) (N := 12) dX5_span_85 rfl (by decide) wt_223 uw_X5, ⟨3, s_getN (C := RX0) (T := TX0) (N := 10) dX5_span_88 rfl (by decide) wt_96 uw_X0, ⟨1, s_iload_n dX5_span_91 rfl, ⟨1, s_iload_n dX5_span_92 rfl, rfl⟩⟩⟩⟩⟩, t_cs rfl mi_147 mok_147 rfl (fun As rest h hA hr => call_S dX5_span_93 mok_147 rfl ⟨by decide, by decide⟩ np_147 wt_869 wt_67 hA hr)⟩
theorem ok_100_12 : BkOK mi i_100 (bpf P_100) 12 (B_100.getD 12 bk0) := ⟨96, rfl, t_cv rfl mi_62 mok_62 rfl (fun _ => ⟨rfl, by decide +kernel⟩) (fun hs' e => by cases e; intro E n b h; cases h) (fun q fs As rest h hp hA hr => (call_V (i := i_100) (j := i_62) (C := RX2) (T := TX2) (N := 1) dX5_span_96 mok_62 rfl ⟨by decide, by decide⟩ np_62 rfl rfl wt_661 wt_277 wt_278 hp hA hr rfl).thr (fun _ => True.intro))⟩
theorem ok_100_13 : BkOK mi i_100 (bpf P_100) 13 (B_100.getD 13 bk0) := ⟨99, rfl, t_ret dX5_span_99 rfl⟩
theorem ok_100_14 : BkOK mi i_100 (bpf P_100) 14 (B_100.getD 14 bk0) := ⟨100, rfl, t_thr ⟨121, 123, ["java/lang/RuntimeException", "java/lang/Exception"], dX5_span_100, dX5_span_103, dX5_span_104, dX5_span_107, thr_1.1, thr_1.2.1, thr_1.2.2, by decide, by decide⟩⟩
theorem ok_100 : ∀ b, BkOK mi i_100 (bpf P_100) b (B_100.getD b bk0)
  | 0 => ok_100_0
  | 1 => ok_100_1
  | 2 => ok_100_2
  | 3 => ok_100_3
  | 4 => ok_100_4
  | 5 => ok_100_5
  | 6 => ok_100_6
  | 7 => ok_100_7
  | 8 => ok_100_8
  | 9 => ok_100_9
  | 10 => ok_100_10
  | 11 => ok_100_11
  | 12 => ok_100_12
  | 13 => ok_100_13
  | 14 => ok_100_14
  | b + 15 => bk_none mi i_100 (bpf P_100) (b + 15)
theorem ok_101_0 : BkOK mi i_101 (bpf P_101) 0 (B_101.getD 0 bk0) := ⟨2, ⟨1, s_aload_n dX5_link_0 rfl, ⟨1, s_iload_n dX5_link_1 rfl, rfl⟩⟩, t_cv rfl mi_133 mok_133 rfl (fun _ => ⟨rfl, by decide +kernel⟩) (fun hs' e => by cases e; intro E n b h; cases h) (fun q fs As rest h hp hA hr => (call_V (i := i_101) (j := i_133) (C := RX5) (T := TX5) (N := 12) dX5_link_2 mok_133 rfl ⟨by decide, by decide⟩ np_133 rfl rfl wt_865 wt_867 ws_7 hp hA hr rfl).thr (fun _ => True.intro))⟩
theorem ok_101_1 : BkOK mi i_101 (bpf P_101) 1 (B_101.getD 1 bk0) := ⟨7, ⟨1, s_aload_n dX5_link_5 rfl, ⟨1, s_iload_n dX5_link_6 rfl, rfl⟩⟩, t_cv rfl mi_133 mok_133 rfl (fun _ => ⟨rfl, by decide +kernel⟩) (fun hs' e => by cases e; intro E n b h; cases h) (fun q fs As rest h hp hA hr => (call_V (i := i_101) (j := i_133) (C := RX5) (T := TX5) (N := 12) dX5_link_7 mok_133 rfl ⟨by decide, by decide⟩ np_133 rfl rfl wt_865 wt_867 ws_7 hp hA hr rfl).thr (fun _ => True.intro))⟩
theorem ok_101_2 : BkOK mi i_101 (bpf P_101) 2 (B_101.getD 2 bk0) := ⟨15, ⟨1, s_iload_n dX5_link_10 rfl, ⟨2, s_bipush dX5_link_11 rfl, ⟨2, s_bipush dX5_link_13 rfl, rfl⟩⟩⟩, t_cs rfl mi_142 mok_142 rfl (fun As rest h hA hr => call_S dX5_link_15 mok_142 rfl ⟨by decide, by decide⟩ np_142 wt_819 wt_285 hA hr)⟩
theorem ok_101_3 : BkOK mi i_101 (bpf P_101) 3 (B_101.getD 3 bk0) := ⟨18, rfl, t_eq0 dX5_link_18 (by decide) rfl⟩
theorem ok_101_4 : BkOK mi i_101 (bpf P_101) 4 (B_101.getD 4 bk0) := ⟨27, ⟨2, s_iload dX5_link_21, ⟨2, s_bipush dX5_link_23 rfl, ⟨2, s_bipush dX5_link_25 rfl, rfl⟩⟩⟩, t_cs rfl mi_142 mok_142 rfl (fun As rest h hA hr => call_S dX5_link_27 mok_142 rfl ⟨by decide, by decide⟩ np_142 wt_819 wt_285 hA hr)⟩
theorem ok_101_5 : BkOK mi i_101 (bpf P_101) 5 (B_101.getD 5 bk0) := ⟨30, rfl, t_ne0 dX5_link_30 (by decide) rfl⟩
theorem ok_101_6 : BkOK mi i_101 (bpf P_101) 6 (B_101.getD 6 bk0) := ⟨33, rfl, t_thr ⟨121, 123, ["java/lang/RuntimeException", "java/lang/Exception"], dX5_link_33, dX5_link_36, dX5_link_37, dX5_link_40, thr_1.1, thr_1.2.1, thr_1.2.2, by decide, by decide⟩⟩
theorem ok_101_7 : BkOK mi i_101 (bpf P_101) 7 (B_101.getD 7 bk0) := ⟨50, ⟨1, s_aload_n dX5_link_41 rfl, ⟨3, s_get (C := RX5) (T := TX5) (N := 12) dX5_link_42 rfl (by decide) wt_223 uw_X5, ⟨1, s_iload_n dX5_link_45 rfl, ⟨1, s_iload_n dX5_link_46 rfl, ⟨1, s_iload_n dX5_link_47 rfl, ⟨2, s_iload dX5_link_48, rfl⟩⟩⟩⟩⟩⟩, t_cv rfl mi_26 mok_26 rfl (fun _ => ⟨rfl, by decide +kernel⟩) (fun hs' e => by cases e; intro E n b h; cases h) (fun q fs As rest h hp hA hr => (call_V (i := i_101) (j := i_26) (C := RX0) (T := TX0) (N := 10) dX5_link_50 mok_26 rfl ⟨by decide, by decide⟩ np_26 rfl rfl wt_877 wt_553 wt_554 hp hA hr rfl).thr (fun _ => True.intro))⟩
theorem ok_101_8 : BkOK mi i_101 (bpf P_101) 8 (B_101.getD 8 bk0) := ⟨53, rfl, t_ret dX5_link_53 rfl⟩
theorem ok_101 : ∀ b, BkOK mi i_101 (bpf P_101) b (B_101.getD b bk0)
  | 0 => ok_101_0
  | 1 => ok_101_1
  | 2 => ok_101_2
  | 3 => ok_101_3
  | 4 => ok_101_4
  | 5 => ok_101_5
  | 6 => ok_101_6
  | 7 => ok_101_7
  | 8 => ok_101_8
  | b + 9 => bk_none mi i_101 (bpf P_101) (b + 9)
