/-! The reference: links, events, passages. -/
section MC
variable {g : Gm} {I : Mm} {m : Nat}
theorem s_linkOf {f k f' k' : Int} (hm : isM g m) (hW : Wf (mv I m)) (hf : 1 ≤ f ∧ f ≤ 5) (hf' : 1 ≤ f' ∧ f' ≤ 5) (hk : 0 ≤ k ∧ k ≤ 1000) (hk' : 0 ≤ k' ∧ k' ≤ 1000) :
    cl 195 [.ref m, .int (iI f), .int (iI k), .int (iI f'), .int (iI k')] (mk g I) = some (.inl (some (.int (iI (linkS (mv I m) f k f' k')))), mk g I) := by
  have hm' := hm
  obtain ⟨t_0, ⟨t_1, d_1, n_1⟩, ⟨t_2, d_2, n_2⟩, ⟨t_3, d_3, n_3⟩, ⟨t_4, d_4, n_4⟩, ⟨t_5, d_5, n_5⟩, ⟨t_6, n_6⟩, ⟨t_7, d_7, n_7⟩, ⟨t_8, d_8, n_8⟩, ⟨t_9, d_9, n_9⟩, ⟨t_10, d_10, n_10⟩, ⟨t_11, d_11, n_11⟩, ⟨t_12, d_12, n_12⟩, ⟨t_13, d_13, n_13⟩, ⟨t_14, d_14, n_14⟩, ⟨t_15, n_15⟩, ⟨t_16, n_16⟩, ⟨t_17, d_17, n_17⟩, ⟨t_18, d_18, n_18⟩⟩ := hm
  obtain ⟨w0, w1, w2, w3, w4⟩ := hW
  have wt : ∀ w, 0 ≤ w → w < 10 → 0 ≤ I (m + 1) (2 + w) ∧ I (m + 1) (2 + w) ≤ 99 := w3
  have x9 := wt 9 (by decide) (by decide)
  simp only [Int.reduceAdd] at x9
  obtain ⟨D, hD⟩ : ∃ D : Int, D = if 0 ≤ k' - k then k' - k else k - k' := ⟨_, rfl⟩
  have hDb : 0 ≤ D ∧ D ≤ 1000 := by rw [hD]; split <;> omega
  have hR : I (m + 1) 1 = 0 ∨ I (m + 1) 1 = 1 := w0
  -- the way, its sign
  obtain ⟨W, hWy⟩ : ∃ W : Int, W = if I (m + 1) 1 = 0 then k - k' else k' - k := ⟨_, rfl⟩
  have hWb : -1000 ≤ W ∧ W ≤ 1000 := by rw [hWy]; split <;> omega
  have hWD : D = if W < 0 then -W else W := by rw [hWy, hD]; (repeat' split) <;> omega
  have hW0 : W = 0 ↔ k = k' := by rw [hWy]; split <;> omega
  have start : cl 195 [.ref m, .int (iI f), .int (iI k), .int (iI f'), .int (iI k')] (mk g I) = rn 195 6 [some (.ref m), some (.int (iI f)), some (.int (iI k)), some (.int (iI f')), some (.int (iI k')), some (.int (iI W)), none, none] [.int (iI D)] (mk g I) := by
    rcases hR with hR | hR
    · have e : W = k - k' := by rw [hWy, if_pos hR]
      by_cases hs : 0 ≤ k - k'
      · have e2 : D = k - k' := by rw [hWD, e, if_neg (by omega)]
        rw [e2, e]
        simp (maxSteps := 2000000) (disch := first | assumption | omega) only [aft_v, aft_n, aft_t, Nat.add_assoc, Nat.reduceAdd, if_true, if_false, not_true_eq_false, not_false_eq_true, Classical.not_not, Int.reduceAdd, Int.reduceSub, Int.reduceMul, Int.reduceNeg, Int.reduceLT, Int.reduceLE, Int.reduceEq, Int.add_zero, Int.zero_add, Int.sub_zero, c_195, w_195_0, w_195_1, w_195_2, w_195_3, w_195_4, w_195_5, hR, show ¬ (0 : Int) = 1 by decide, hs]
      · have e2 : D = -(k - k') := by rw [hWD, e, if_pos (by omega)]
        rw [e2, e]
        simp (maxSteps := 2000000) (disch := first | assumption | omega) only [aft_v, aft_n, aft_t, Nat.add_assoc, Nat.reduceAdd, if_true, if_false, not_true_eq_false, not_false_eq_true, Classical.not_not, Int.reduceAdd, Int.reduceSub, Int.reduceMul, Int.reduceNeg, Int.reduceLT, Int.reduceLE, Int.reduceEq, Int.add_zero, Int.zero_add, Int.sub_zero, c_195, w_195_0, w_195_1, w_195_2, w_195_3, w_195_4, w_195_5, hR, show ¬ (0 : Int) = 1 by decide, hs]
    · have e : W = k' - k := by rw [hWy, if_neg (by omega)]
      by_cases hs : 0 ≤ k' - k
      · have e2 : D = k' - k := by rw [hWD, e, if_neg (by omega)]
        rw [e2, e]
        simp (maxSteps := 2000000) (disch := first | assumption | omega) only [aft_v, aft_n, aft_t, Nat.add_assoc, Nat.reduceAdd, if_true, if_false, not_true_eq_false, not_false_eq_true, Classical.not_not, Int.reduceAdd, Int.reduceSub, Int.reduceMul, Int.reduceNeg, Int.reduceLT, Int.reduceLE, Int.reduceEq, Int.add_zero, Int.zero_add, Int.sub_zero, c_195, w_195_0, w_195_1, w_195_2, w_195_3, w_195_4, w_195_5, hR, hs]
      · have e2 : D = -(k' - k) := by rw [hWD, e, if_pos (by omega)]
        rw [e2, e]
        simp (maxSteps := 2000000) (disch := first | assumption | omega) only [aft_v, aft_n, aft_t, Nat.add_assoc, Nat.reduceAdd, if_true, if_false, not_true_eq_false, not_false_eq_true, Classical.not_not, Int.reduceAdd, Int.reduceSub, Int.reduceMul, Int.reduceNeg, Int.reduceLT, Int.reduceLE, Int.reduceEq, Int.add_zero, Int.zero_add, Int.sub_zero, c_195, w_195_0, w_195_1, w_195_2, w_195_3, w_195_4, w_195_5, hR, hs]
  rw [start]
  have hkd : kindS (mv I m) f k f' k' = if W = 0 then 0 else if f = f' then 1 else if (0 < W) = (f < f') then 2 else if min f f' = 1 ∧ max f f' < 5 ∧ D ≤ I (m + 1) 11 then 3 else 4 := by
    have e : kindS (mv I m) f k f' k' = if k = k' then 0 else if f = f' then 1 else if (0 < (if I (m + 1) 1 = 0 then k - k' else k' - k)) = (f < f') then 2 else if min f f' = 1 ∧ max f f' < 5 ∧ (if 0 ≤ k' - k then k' - k else k - k') ≤ I (m + 1) 11 then 3 else 4 := rfl
    rw [e, ← hWy, ← hD]
    by_cases h0 : W = 0
    · rw [if_pos h0, if_pos (hW0.mp h0)]
    · rw [if_neg h0, if_neg (fun z => h0 (hW0.mpr z))]
  have hls : linkS (mv I m) f k f' k' = if kindS (mv I m) f k f' k' = 0 then (if f = f' then I (m + 1) 4 else I (m + 1) 5) else if kindS (mv I m) f k f' k' = 1 then I (m + 1) 6 * D else if kindS (mv I m) f k f' k' = 2 then stretchS (mv I m) D f f' else if kindS (mv I m) f k f' k' = 3 then I (m + 1) 3 else -1 := by rw [hD]; rfl
  by_cases c0 : W = 0
  · rw [if_pos c0] at hkd
    rw [hls, hkd, if_pos rfl]
    by_cases c1 : f = f'
    · rw [if_pos c1]
      simp (maxSteps := 2000000) (disch := first | assumption | omega) only [aft_v, aft_n, aft_t, Nat.add_assoc, Nat.reduceAdd, if_true, if_false, not_true_eq_false, not_false_eq_true, Classical.not_not, Int.reduceAdd, Int.reduceSub, Int.reduceMul, Int.reduceNeg, Int.reduceLT, Int.reduceLE, Int.reduceEq, Int.add_zero, Int.zero_add, Int.sub_zero, c_195, w_195_0, w_195_1, w_195_2, w_195_3, w_195_4, w_195_5, w_195_6, w_195_7, w_195_8, w_195_9, w_195_10, w_195_11, w_195_12, w_195_13, w_195_14, w_195_15, w_195_16, w_195_17, w_195_18, w_195_19, w_195_20, w_195_21, w_195_22, w_195_23, w_195_24, w_195_25, w_195_26, w_195_27, w_195_28, w_195_29, w_195_30, w_195_31, w_195_32, w_195_33, w_195_34, w_195_35, w_195_36, w_195_37, w_195_38, c0, c1, s_weightOf]
    · rw [if_neg c1]
      simp (maxSteps := 2000000) (disch := first | assumption | omega) only [aft_v, aft_n, aft_t, Nat.add_assoc, Nat.reduceAdd, if_true, if_false, not_true_eq_false, not_false_eq_true, Classical.not_not, Int.reduceAdd, Int.reduceSub, Int.reduceMul, Int.reduceNeg, Int.reduceLT, Int.reduceLE, Int.reduceEq, Int.add_zero, Int.zero_add, Int.sub_zero, c_195, w_195_0, w_195_1, w_195_2, w_195_3, w_195_4, w_195_5, w_195_6, w_195_7, w_195_8, w_195_9, w_195_10, w_195_11, w_195_12, w_195_13, w_195_14, w_195_15, w_195_16, w_195_17, w_195_18, w_195_19, w_195_20, w_195_21, w_195_22, w_195_23, w_195_24, w_195_25, w_195_26, w_195_27, w_195_28, w_195_29, w_195_30, w_195_31, w_195_32, w_195_33, w_195_34, w_195_35, w_195_36, w_195_37, w_195_38, c0, c1, s_weightOf]
  rw [if_neg c0] at hkd
  by_cases c1 : f = f'
  · rw [if_pos c1] at hkd
    rw [hls, hkd, if_neg (by decide), if_pos rfl]
    simp (maxSteps := 2000000) (disch := first | assumption | omega) only [aft_v, aft_n, aft_t, Nat.add_assoc, Nat.reduceAdd, if_true, if_false, not_true_eq_false, not_false_eq_true, Classical.not_not, Int.reduceAdd, Int.reduceSub, Int.reduceMul, Int.reduceNeg, Int.reduceLT, Int.reduceLE, Int.reduceEq, Int.add_zero, Int.zero_add, Int.sub_zero, c_195, w_195_0, w_195_1, w_195_2, w_195_3, w_195_4, w_195_5, w_195_6, w_195_7, w_195_8, w_195_9, w_195_10, w_195_11, w_195_12, w_195_13, w_195_14, w_195_15, w_195_16, w_195_17, w_195_18, w_195_19, w_195_20, w_195_21, w_195_22, w_195_23, w_195_24, w_195_25, w_195_26, w_195_27, w_195_28, w_195_29, w_195_30, w_195_31, w_195_32, w_195_33, w_195_34, w_195_35, w_195_36, w_195_37, w_195_38, c0, c1, s_weightOf]
  rw [if_neg c1] at hkd
  have hbi : ((0 < W) = (f < f')) ↔ (0 < W ↔ f < f') := ⟨fun e => by rw [e], propext⟩
  by_cases c2 : (0 < W) = (f < f')
  · rw [if_pos c2] at hkd
    rw [hls, hkd, if_neg (by decide), if_neg (by decide), if_pos rfl]
    have c2' := hbi.mp c2
    have sp := w4 f f' hf.1 hf.2 hf'.1 hf'.2 c1
    have sp' : 1 ≤ I (m + 1) (prS f f') ∧ I (m + 1) (prS f f') ≤ I (m + 1) (prS f f' + 1) ∧ I (m + 1) (prS f f' + 1) ≤ I (m + 1) (prS f f' + 2) ∧ I (m + 1) (prS f f' + 2) ≤ 24 := sp
    have ho := s_offBy (g := g) (I := I) (d := D) hm' hf hf' c1 (by omega) (by omega) (by omega) (by omega)
    have hob : -1 ≤ offS (mv I m) D f f' ∧ offS (mv I m) D f f' ≤ 1000 := by
      have e : offS (mv I m) D f f' = if I (m + 1) (prS f f' + 2) < D then -1 else if D < I (m + 1) (prS f f') then I (m + 1) (prS f f') - D else if I (m + 1) (prS f f' + 1) < D then D - I (m + 1) (prS f f' + 1) else 0 := rfl
      rw [e]; (repeat' split) <;> omega
    have hs := stretch_off (P := mv I m) (d := D) (a := f) (b := f') (wt 0 (by decide) (by decide)).1 sp.2.1
    have hs : stretchS (mv I m) D f f' = if offS (mv I m) D f f' = -1 then -1 else I (m + 1) 2 * offS (mv I m) D f f' := hs
    rw [hs]
    generalize offS (mv I m) D f f' = O at *
    by_cases co : O = -1
    · subst co; rw [if_pos rfl]
      by_cases c3 : 0 < W
      · simp (maxSteps := 2000000) (disch := first | assumption | omega) only [aft_v, aft_n, aft_t, Nat.add_assoc, Nat.reduceAdd, if_true, if_false, not_true_eq_false, not_false_eq_true, Classical.not_not, Int.reduceAdd, Int.reduceSub, Int.reduceMul, Int.reduceNeg, Int.reduceLT, Int.reduceLE, Int.reduceEq, Int.add_zero, Int.zero_add, Int.sub_zero, c_195, w_195_0, w_195_1, w_195_2, w_195_3, w_195_4, w_195_5, w_195_6, w_195_7, w_195_8, w_195_9, w_195_10, w_195_11, w_195_12, w_195_13, w_195_14, w_195_15, w_195_16, w_195_17, w_195_18, w_195_19, w_195_20, w_195_21, w_195_22, w_195_23, w_195_24, w_195_25, w_195_26, w_195_27, w_195_28, w_195_29, w_195_30, w_195_31, w_195_32, w_195_33, w_195_34, w_195_35, w_195_36, w_195_37, w_195_38, c0, c1, ho, if_neg (show ¬ W ≤ 0 by omega), if_neg (show ¬ f' ≤ f by omega)]
      · simp (maxSteps := 2000000) (disch := first | assumption | omega) only [aft_v, aft_n, aft_t, Nat.add_assoc, Nat.reduceAdd, if_true, if_false, not_true_eq_false, not_false_eq_true, Classical.not_not, Int.reduceAdd, Int.reduceSub, Int.reduceMul, Int.reduceNeg, Int.reduceLT, Int.reduceLE, Int.reduceEq, Int.add_zero, Int.zero_add, Int.sub_zero, c_195, w_195_0, w_195_1, w_195_2, w_195_3, w_195_4, w_195_5, w_195_6, w_195_7, w_195_8, w_195_9, w_195_10, w_195_11, w_195_12, w_195_13, w_195_14, w_195_15, w_195_16, w_195_17, w_195_18, w_195_19, w_195_20, w_195_21, w_195_22, w_195_23, w_195_24, w_195_25, w_195_26, w_195_27, w_195_28, w_195_29, w_195_30, w_195_31, w_195_32, w_195_33, w_195_34, w_195_35, w_195_36, w_195_37, w_195_38, c0, c1, ho, if_pos (show W ≤ 0 by omega), if_pos (show f' ≤ f by omega)]
    · rw [if_neg co]
      by_cases c3 : 0 < W
      · simp (maxSteps := 2000000) (disch := first | assumption | omega) only [aft_v, aft_n, aft_t, Nat.add_assoc, Nat.reduceAdd, if_true, if_false, not_true_eq_false, not_false_eq_true, Classical.not_not, Int.reduceAdd, Int.reduceSub, Int.reduceMul, Int.reduceNeg, Int.reduceLT, Int.reduceLE, Int.reduceEq, Int.add_zero, Int.zero_add, Int.sub_zero, c_195, w_195_0, w_195_1, w_195_2, w_195_3, w_195_4, w_195_5, w_195_6, w_195_7, w_195_8, w_195_9, w_195_10, w_195_11, w_195_12, w_195_13, w_195_14, w_195_15, w_195_16, w_195_17, w_195_18, w_195_19, w_195_20, w_195_21, w_195_22, w_195_23, w_195_24, w_195_25, w_195_26, w_195_27, w_195_28, w_195_29, w_195_30, w_195_31, w_195_32, w_195_33, w_195_34, w_195_35, w_195_36, w_195_37, w_195_38, c0, c1, ho, if_neg (show ¬ W ≤ 0 by omega), if_neg (show ¬ f' ≤ f by omega), co, s_weightOf]
      · simp (maxSteps := 2000000) (disch := first | assumption | omega) only [aft_v, aft_n, aft_t, Nat.add_assoc, Nat.reduceAdd, if_true, if_false, not_true_eq_false, not_false_eq_true, Classical.not_not, Int.reduceAdd, Int.reduceSub, Int.reduceMul, Int.reduceNeg, Int.reduceLT, Int.reduceLE, Int.reduceEq, Int.add_zero, Int.zero_add, Int.sub_zero, c_195, w_195_0, w_195_1, w_195_2, w_195_3, w_195_4, w_195_5, w_195_6, w_195_7, w_195_8, w_195_9, w_195_10, w_195_11, w_195_12, w_195_13, w_195_14, w_195_15, w_195_16, w_195_17, w_195_18, w_195_19, w_195_20, w_195_21, w_195_22, w_195_23, w_195_24, w_195_25, w_195_26, w_195_27, w_195_28, w_195_29, w_195_30, w_195_31, w_195_32, w_195_33, w_195_34, w_195_35, w_195_36, w_195_37, w_195_38, c0, c1, ho, if_pos (show W ≤ 0 by omega), if_pos (show f' ≤ f by omega), co, s_weightOf]
  rw [if_neg c2] at hkd
  have c2' : ¬ (0 < W ↔ f < f') := fun z => c2 (hbi.mpr z)
  by_cases c3 : min f f' = 1 ∧ max f f' < 5 ∧ D ≤ I (m + 1) 11
  · rw [if_pos c3] at hkd
    rw [hls, hkd, if_neg (by decide), if_neg (by decide), if_neg (by decide), if_pos rfl]
    by_cases c4 : 0 < W
    · simp (maxSteps := 2000000) (disch := first | assumption | omega) only [aft_v, aft_n, aft_t, Nat.add_assoc, Nat.reduceAdd, if_true, if_false, not_true_eq_false, not_false_eq_true, Classical.not_not, Int.reduceAdd, Int.reduceSub, Int.reduceMul, Int.reduceNeg, Int.reduceLT, Int.reduceLE, Int.reduceEq, Int.add_zero, Int.zero_add, Int.sub_zero, c_195, w_195_0, w_195_1, w_195_2, w_195_3, w_195_4, w_195_5, w_195_6, w_195_7, w_195_8, w_195_9, w_195_10, w_195_11, w_195_12, w_195_13, w_195_14, w_195_15, w_195_16, w_195_17, w_195_18, w_195_19, w_195_20, w_195_21, w_195_22, w_195_23, w_195_24, w_195_25, w_195_26, w_195_27, w_195_28, w_195_29, w_195_30, w_195_31, w_195_32, w_195_33, w_195_34, w_195_35, w_195_36, w_195_37, w_195_38, c0, c1, if_neg (show ¬ W ≤ 0 by omega), if_pos (show f' ≤ f by omega), show ¬ (1 : Int) = 0 by decide, show ¬ (0 : Int) = 1 by decide, c3.1, if_neg (show ¬ 5 ≤ max f f' by omega), s_weightOf, if_neg (show ¬ I (m + 1) 11 < D by omega)]
    · simp (maxSteps := 2000000) (disch := first | assumption | omega) only [aft_v, aft_n, aft_t, Nat.add_assoc, Nat.reduceAdd, if_true, if_false, not_true_eq_false, not_false_eq_true, Classical.not_not, Int.reduceAdd, Int.reduceSub, Int.reduceMul, Int.reduceNeg, Int.reduceLT, Int.reduceLE, Int.reduceEq, Int.add_zero, Int.zero_add, Int.sub_zero, c_195, w_195_0, w_195_1, w_195_2, w_195_3, w_195_4, w_195_5, w_195_6, w_195_7, w_195_8, w_195_9, w_195_10, w_195_11, w_195_12, w_195_13, w_195_14, w_195_15, w_195_16, w_195_17, w_195_18, w_195_19, w_195_20, w_195_21, w_195_22, w_195_23, w_195_24, w_195_25, w_195_26, w_195_27, w_195_28, w_195_29, w_195_30, w_195_31, w_195_32, w_195_33, w_195_34, w_195_35, w_195_36, w_195_37, w_195_38, c0, c1, if_pos (show W ≤ 0 by omega), if_neg (show ¬ f' ≤ f by omega), show ¬ (1 : Int) = 0 by decide, show ¬ (0 : Int) = 1 by decide, c3.1, if_neg (show ¬ 5 ≤ max f f' by omega), s_weightOf, if_neg (show ¬ I (m + 1) 11 < D by omega)]
  · rw [if_neg c3] at hkd
    rw [hls, hkd, if_neg (by decide), if_neg (by decide), if_neg (by decide), if_neg (by decide)]
    have fin : rn 195 33 [some (.ref m), some (.int (iI f)), some (.int (iI k)), some (.int (iI f')), some (.int (iI k')), some (.int (iI W)), some (.int (iI D)), none] [] (mk g I) = some (.inl (some (.int (iI (-1)))), mk g I) := by
      simp (maxSteps := 2000000) (disch := first | assumption | omega) only [aft_v, aft_n, aft_t, Nat.add_assoc, Nat.reduceAdd, if_true, if_false, not_true_eq_false, not_false_eq_true, Classical.not_not, Int.reduceAdd, Int.reduceSub, Int.reduceMul, Int.reduceNeg, Int.reduceLT, Int.reduceLE, Int.reduceEq, Int.add_zero, Int.zero_add, Int.sub_zero, w_195_33, w_195_34, w_195_35, w_195_36, w_195_37, w_195_38]
    have mid : rn 195 28 [some (.ref m), some (.int (iI f)), some (.int (iI k)), some (.int (iI f')), some (.int (iI k')), some (.int (iI W)), some (.int (iI D)), none] [] (mk g I) = some (.inl (some (.int (iI (-1)))), mk g I) := by
      by_cases d1 : min f f' = 1
      · by_cases d2 : 5 ≤ max f f'
        · simp (maxSteps := 2000000) (disch := first | assumption | omega) only [aft_v, aft_n, aft_t, Nat.add_assoc, Nat.reduceAdd, if_true, if_false, not_true_eq_false, not_false_eq_true, Classical.not_not, Int.reduceAdd, Int.reduceSub, Int.reduceMul, Int.reduceNeg, Int.reduceLT, Int.reduceLE, Int.reduceEq, Int.add_zero, Int.zero_add, Int.sub_zero, w_195_28, w_195_29, w_195_30, w_195_31, d1, if_pos d2, fin]
        · simp (maxSteps := 2000000) (disch := first | assumption | omega) only [aft_v, aft_n, aft_t, Nat.add_assoc, Nat.reduceAdd, if_true, if_false, not_true_eq_false, not_false_eq_true, Classical.not_not, Int.reduceAdd, Int.reduceSub, Int.reduceMul, Int.reduceNeg, Int.reduceLT, Int.reduceLE, Int.reduceEq, Int.add_zero, Int.zero_add, Int.sub_zero, w_195_28, w_195_29, w_195_30, w_195_31, d1, if_neg d2, s_weightOf, if_pos (show I (m + 1) 11 < D by omega), fin]
      · simp (maxSteps := 2000000) (disch := first | assumption | omega) only [aft_v, aft_n, aft_t, Nat.add_assoc, Nat.reduceAdd, if_true, if_false, not_true_eq_false, not_false_eq_true, Classical.not_not, Int.reduceAdd, Int.reduceSub, Int.reduceMul, Int.reduceNeg, Int.reduceLT, Int.reduceLE, Int.reduceEq, Int.add_zero, Int.zero_add, Int.sub_zero, w_195_28, w_195_29, w_195_30, w_195_31, d1, fin]
    by_cases c4 : 0 < W
    · simp (maxSteps := 2000000) (disch := first | assumption | omega) only [aft_v, aft_n, aft_t, Nat.add_assoc, Nat.reduceAdd, if_true, if_false, not_true_eq_false, not_false_eq_true, Classical.not_not, Int.reduceAdd, Int.reduceSub, Int.reduceMul, Int.reduceNeg, Int.reduceLT, Int.reduceLE, Int.reduceEq, Int.add_zero, Int.zero_add, Int.sub_zero, w_195_6, w_195_7, w_195_12, w_195_15, w_195_16, w_195_17, w_195_18, w_195_19, w_195_20, w_195_21, c0, c1, if_neg (show ¬ W ≤ 0 by omega), if_pos (show f' ≤ f by omega), show ¬ (1 : Int) = 0 by decide, show ¬ (0 : Int) = 1 by decide, mid]
    · simp (maxSteps := 2000000) (disch := first | assumption | omega) only [aft_v, aft_n, aft_t, Nat.add_assoc, Nat.reduceAdd, if_true, if_false, not_true_eq_false, not_false_eq_true, Classical.not_not, Int.reduceAdd, Int.reduceSub, Int.reduceMul, Int.reduceNeg, Int.reduceLT, Int.reduceLE, Int.reduceEq, Int.add_zero, Int.zero_add, Int.sub_zero, w_195_6, w_195_7, w_195_12, w_195_15, w_195_16, w_195_17, w_195_18, w_195_19, w_195_20, w_195_21, c0, c1, if_pos (show W ≤ 0 by omega), if_neg (show ¬ f' ≤ f by omega), show ¬ (1 : Int) = 0 by decide, show ¬ (0 : Int) = 1 by decide, mid]
theorem link_bM {P : PT} {f k f' k' : Int} (hW : Wf P) (hf : 1 ≤ f ∧ f ≤ 5) (hf' : 1 ≤ f' ∧ f' ≤ 5) (hk : 0 ≤ k ∧ k ≤ 108) (hk' : 0 ≤ k' ∧ k' ≤ 108) : -1 ≤ linkS P f k f' k' ∧ linkS P f k f' k' ≤ 10692 := by
  obtain ⟨w0, w1, w2, w3, w4⟩ := hW
  have h1 := w3 1 (by decide) (by decide)
  have h2 := w3 2 (by decide) (by decide)
  have h3 := w3 3 (by decide) (by decide)
  have h4 := w3 4 (by decide) (by decide)
  have h0 := w3 0 (by decide) (by decide)
  obtain ⟨D, hD⟩ : ∃ D : Int, D = if 0 ≤ k' - k then k' - k else k - k' := ⟨_, rfl⟩
  have hDb : 0 ≤ D ∧ D ≤ 108 := by rw [hD]; split <;> omega
  have hm := mul_b (a := pW P 4) (b := D) (A := 99) (B := 108) h4.1 h4.2 hDb.1 hDb.2
  unfold linkS
  rw [← hD]
  by_cases c1 : f = f'
  · have hk2 : ¬ kindS P f k f' k' = 2 := by
      unfold kindS
      by_cases c0 : k = k'
      · rw [if_pos c0]; decide
      · rw [if_neg c0, if_pos c1]; decide
    by_cases c0 : kindS P f k f' k' = 0
    · rw [if_pos c0]; split <;> omega
    rw [if_neg c0]
    by_cases c1 : kindS P f k f' k' = 1
    · rw [if_pos c1]; omega
    rw [if_neg c1, if_neg hk2]
    split <;> omega
  · have sp := w4 f f' hf.1 hf.2 hf'.1 hf'.2 c1
    have hs : -1 ≤ stretchS P D f f' ∧ stretchS P D f f' ≤ 2376 := by
      unfold stretchS
      split
      · omega
      · have := mul_b (a := pW P 0) (b := max 0 (max (pLo P f f' - D) (D - pHi P f f'))) (A := 99) (B := 24) (by omega) (by omega) (by omega) (by omega)
        omega
    by_cases c0 : kindS P f k f' k' = 0
    · rw [if_pos c0]; split <;> omega
    rw [if_neg c0]
    by_cases c1 : kindS P f k f' k' = 1
    · rw [if_pos c1]; omega
    rw [if_neg c1]
    (repeat' split) <;> omega
end MC
