/-! The reference: counts, weights. -/
section MA
variable {g : Gm} {I : Mm} {m : Nat}
theorem s_count {c : Int} (hm : isM g m) (hW : Wf (mv I m)) (hc : 0 ≤ c ∧ c ≤ 6) : cl 219 [.ref m, .int (iI c)] (mk g I) = some (.inl (some (.int (iI (ctS (mv I m) c)))), mk g (upd2 I m 7 0)) := by
  have hm' := hm
  obtain ⟨t_0, ⟨t_1, d_1, n_1⟩, ⟨t_2, d_2, n_2⟩, ⟨t_3, d_3, n_3⟩, ⟨t_4, d_4, n_4⟩, ⟨t_5, d_5, n_5⟩, ⟨t_6, n_6⟩, ⟨t_7, d_7, n_7⟩, ⟨t_8, d_8, n_8⟩, ⟨t_9, d_9, n_9⟩, ⟨t_10, d_10, n_10⟩, ⟨t_11, d_11, n_11⟩, ⟨t_12, d_12, n_12⟩, ⟨t_13, d_13, n_13⟩, ⟨t_14, d_14, n_14⟩, ⟨t_15, n_15⟩, ⟨t_16, n_16⟩, ⟨t_17, d_17, n_17⟩, ⟨t_18, d_18, n_18⟩⟩ := hm
  have hW' : Wf (mv (upd2 I m 7 0) m) := by rw [mv_u]; exact hW
  have z : ∀ j, upd2 I m 7 0 (m + 1) j = I (m + 1) j := fun j => upd2_p (by omega)
  have q0 := s_events (I := upd2 I m 7 0) hm'
  have q1 := s_allNotesM hm' hW'
  have q3 := s_keysAt0 hm' hW'
  have q4 := s_keysAt1 hm' hW'
  have q5 := s_blacks hm' hW'
  have q6 := s_freePassagesM hm' hW'
  rw [mv_u, z] at q1 q3 q4
  rw [mv_u] at q5 q6
  rw [z] at q0
  have u7 : upd2 I m 7 0 m 7 = 0 := upd2_at
  have e0 : pE (mv I m) = I (m + 1) 0 := rfl
  have e2 : pR (mv I m) = I (m + 1) 1 := rfl
  have start : cl 219 [.ref m, .int (iI c)] (mk g I) = rn 219 6 [some (.ref m), some (.int (iI c))] [] (mk g (upd2 I m 7 0)) := by
    simp (maxSteps := 2000000) (disch := first | assumption | omega) only [aft_v, aft_n, aft_t, Nat.add_assoc, Nat.reduceAdd, if_true, if_false, not_true_eq_false, not_false_eq_true, Classical.not_not, Int.reduceAdd, Int.reduceSub, Int.reduceMul, Int.reduceNeg, Int.reduceLT, Int.reduceLE, Int.reduceEq, Int.add_zero, Int.zero_add, Int.sub_zero, c_219, w_219_0, w_219_1, w_219_2, w_219_3, w_219_4, s_isIn, if_pos hc, u7, if_pos (Int.le_refl 0)]
  rw [start]
  unfold ctS
  rw [e0, e2]
  rcases (show c = 0 ∨ c = 1 ∨ c = 2 ∨ c = 3 ∨ c = 4 ∨ c = 5 ∨ c = 6 by omega) with rfl | rfl | rfl | rfl | rfl | rfl | rfl
  · simp (maxSteps := 2000000) (disch := first | assumption | omega) only [aft_v, aft_n, aft_t, Nat.add_assoc, Nat.reduceAdd, if_true, if_false, not_true_eq_false, not_false_eq_true, Classical.not_not, Int.reduceAdd, Int.reduceSub, Int.reduceMul, Int.reduceNeg, Int.reduceLT, Int.reduceLE, Int.reduceEq, Int.add_zero, Int.zero_add, Int.sub_zero, w_219_6, w_219_7, w_219_8, q0]
  · simp (maxSteps := 2000000) (disch := first | assumption | omega) only [aft_v, aft_n, aft_t, Nat.add_assoc, Nat.reduceAdd, if_true, if_false, not_true_eq_false, not_false_eq_true, Classical.not_not, Int.reduceAdd, Int.reduceSub, Int.reduceMul, Int.reduceNeg, Int.reduceLT, Int.reduceLE, Int.reduceEq, Int.add_zero, Int.zero_add, Int.sub_zero, w_219_6, w_219_9, w_219_10, q1, show ¬ (1 : Int) = 0 by decide]
  · simp (maxSteps := 2000000) (disch := first | assumption | omega) only [aft_v, aft_n, aft_t, Nat.add_assoc, Nat.reduceAdd, if_true, if_false, not_true_eq_false, not_false_eq_true, Classical.not_not, Int.reduceAdd, Int.reduceSub, Int.reduceMul, Int.reduceNeg, Int.reduceLT, Int.reduceLE, Int.reduceEq, Int.add_zero, Int.zero_add, Int.sub_zero, w_219_6, w_219_11, z 1, show ¬ (2 : Int) = 0 by decide, show ¬ (2 : Int) = 1 by decide]
  · simp (maxSteps := 2000000) (disch := first | assumption | omega) only [aft_v, aft_n, aft_t, Nat.add_assoc, Nat.reduceAdd, if_true, if_false, not_true_eq_false, not_false_eq_true, Classical.not_not, Int.reduceAdd, Int.reduceSub, Int.reduceMul, Int.reduceNeg, Int.reduceLT, Int.reduceLE, Int.reduceEq, Int.add_zero, Int.zero_add, Int.sub_zero, w_219_6, w_219_12, w_219_13, q3, show ¬ (3 : Int) = 0 by decide, show ¬ (3 : Int) = 1 by decide, show ¬ (3 : Int) = 2 by decide]
  · simp (maxSteps := 2000000) (disch := first | assumption | omega) only [aft_v, aft_n, aft_t, Nat.add_assoc, Nat.reduceAdd, if_true, if_false, not_true_eq_false, not_false_eq_true, Classical.not_not, Int.reduceAdd, Int.reduceSub, Int.reduceMul, Int.reduceNeg, Int.reduceLT, Int.reduceLE, Int.reduceEq, Int.add_zero, Int.zero_add, Int.sub_zero, w_219_6, w_219_14, w_219_15, q4, show ¬ (4 : Int) = 0 by decide, show ¬ (4 : Int) = 1 by decide, show ¬ (4 : Int) = 2 by decide, show ¬ (4 : Int) = 3 by decide]
  · simp (maxSteps := 2000000) (disch := first | assumption | omega) only [aft_v, aft_n, aft_t, Nat.add_assoc, Nat.reduceAdd, if_true, if_false, not_true_eq_false, not_false_eq_true, Classical.not_not, Int.reduceAdd, Int.reduceSub, Int.reduceMul, Int.reduceNeg, Int.reduceLT, Int.reduceLE, Int.reduceEq, Int.add_zero, Int.zero_add, Int.sub_zero, w_219_6, w_219_16, w_219_17, q5, show ¬ (5 : Int) = 0 by decide, show ¬ (5 : Int) = 1 by decide, show ¬ (5 : Int) = 2 by decide, show ¬ (5 : Int) = 3 by decide, show ¬ (5 : Int) = 4 by decide]
  · simp (maxSteps := 2000000) (disch := first | assumption | omega) only [aft_v, aft_n, aft_t, Nat.add_assoc, Nat.reduceAdd, if_true, if_false, not_true_eq_false, not_false_eq_true, Classical.not_not, Int.reduceAdd, Int.reduceSub, Int.reduceMul, Int.reduceNeg, Int.reduceLT, Int.reduceLE, Int.reduceEq, Int.add_zero, Int.zero_add, Int.sub_zero, w_219_6, w_219_18, w_219_19, q6, show ¬ (6 : Int) = 0 by decide, show ¬ (6 : Int) = 1 by decide, show ¬ (6 : Int) = 2 by decide, show ¬ (6 : Int) = 3 by decide, show ¬ (6 : Int) = 4 by decide, show ¬ (6 : Int) = 5 by decide]
theorem s_countBad {c : Int} (hm : isM g m) (hr : (-2147483648 ≤ c ∧ c < 2147483648)) (hc : ¬ (0 ≤ c ∧ c ≤ 6)) : cl 219 [.ref m, .int (iI c)] (mk g I) = some (.inl (some (.int (iI 0))), mk g (upd2 I m 7 1)) := by
  obtain ⟨t_0, ⟨t_1, d_1, n_1⟩, ⟨t_2, d_2, n_2⟩, ⟨t_3, d_3, n_3⟩, ⟨t_4, d_4, n_4⟩, ⟨t_5, d_5, n_5⟩, ⟨t_6, n_6⟩, ⟨t_7, d_7, n_7⟩, ⟨t_8, d_8, n_8⟩, ⟨t_9, d_9, n_9⟩, ⟨t_10, d_10, n_10⟩, ⟨t_11, d_11, n_11⟩, ⟨t_12, d_12, n_12⟩, ⟨t_13, d_13, n_13⟩, ⟨t_14, d_14, n_14⟩, ⟨t_15, n_15⟩, ⟨t_16, n_16⟩, ⟨t_17, d_17, n_17⟩, ⟨t_18, d_18, n_18⟩⟩ := hm
  have u7 : upd2 I m 7 1 m 7 = 1 := upd2_at
  simp (maxSteps := 2000000) (disch := first | assumption | omega) only [aft_v, aft_n, aft_t, Nat.add_assoc, Nat.reduceAdd, if_true, if_false, not_true_eq_false, not_false_eq_true, Classical.not_not, Int.reduceAdd, Int.reduceSub, Int.reduceMul, Int.reduceNeg, Int.reduceLT, Int.reduceLE, Int.reduceEq, Int.add_zero, Int.zero_add, Int.sub_zero, c_219, w_219_0, w_219_1, w_219_2, w_219_3, w_219_4, w_219_5, s_isIn, if_neg hc, u7, if_neg (show ¬ (1 : Int) ≤ 0 by decide)]
theorem s_weightM {w : Int} (hm : isM g m) (hc : 0 ≤ w ∧ w ≤ 9) : cl 222 [.ref m, .int (iI w)] (mk g I) = some (.inl (some (.int (iI (pW (mv I m) w)))), mk g (upd2 I m 7 0)) := by
  have hm' := hm
  obtain ⟨t_0, ⟨t_1, d_1, n_1⟩, ⟨t_2, d_2, n_2⟩, ⟨t_3, d_3, n_3⟩, ⟨t_4, d_4, n_4⟩, ⟨t_5, d_5, n_5⟩, ⟨t_6, n_6⟩, ⟨t_7, d_7, n_7⟩, ⟨t_8, d_8, n_8⟩, ⟨t_9, d_9, n_9⟩, ⟨t_10, d_10, n_10⟩, ⟨t_11, d_11, n_11⟩, ⟨t_12, d_12, n_12⟩, ⟨t_13, d_13, n_13⟩, ⟨t_14, d_14, n_14⟩, ⟨t_15, n_15⟩, ⟨t_16, n_16⟩, ⟨t_17, d_17, n_17⟩, ⟨t_18, d_18, n_18⟩⟩ := hm
  have z : ∀ j, upd2 I m 7 0 (m + 1) j = I (m + 1) j := fun j => upd2_p (by omega)
  have u7 : upd2 I m 7 0 m 7 = 0 := upd2_at
  have q0 := s_weightOf (I := upd2 I m 7 0) (w := w) hm' (by omega)
  rw [z] at q0
  have e0 : pW (mv I m) w = I (m + 1) (2 + w) := rfl
  rw [e0]
  simp (maxSteps := 2000000) (disch := first | assumption | omega) only [aft_v, aft_n, aft_t, Nat.add_assoc, Nat.reduceAdd, if_true, if_false, not_true_eq_false, not_false_eq_true, Classical.not_not, Int.reduceAdd, Int.reduceSub, Int.reduceMul, Int.reduceNeg, Int.reduceLT, Int.reduceLE, Int.reduceEq, Int.add_zero, Int.zero_add, Int.sub_zero, c_222, w_222_0, w_222_1, w_222_2, w_222_3, w_222_4, w_222_5, w_222_6, w_222_7, s_isIn, if_pos hc, u7, if_pos (Int.le_refl 0), q0]
theorem s_weightBad {w : Int} (hm : isM g m) (hr : (-2147483648 ≤ w ∧ w < 2147483648)) (hc : ¬ (0 ≤ w ∧ w ≤ 9)) : cl 222 [.ref m, .int (iI w)] (mk g I) = some (.inl (some (.int (iI 0))), mk g (upd2 I m 7 1)) := by
  obtain ⟨t_0, ⟨t_1, d_1, n_1⟩, ⟨t_2, d_2, n_2⟩, ⟨t_3, d_3, n_3⟩, ⟨t_4, d_4, n_4⟩, ⟨t_5, d_5, n_5⟩, ⟨t_6, n_6⟩, ⟨t_7, d_7, n_7⟩, ⟨t_8, d_8, n_8⟩, ⟨t_9, d_9, n_9⟩, ⟨t_10, d_10, n_10⟩, ⟨t_11, d_11, n_11⟩, ⟨t_12, d_12, n_12⟩, ⟨t_13, d_13, n_13⟩, ⟨t_14, d_14, n_14⟩, ⟨t_15, n_15⟩, ⟨t_16, n_16⟩, ⟨t_17, d_17, n_17⟩, ⟨t_18, d_18, n_18⟩⟩ := hm
  have u7 : upd2 I m 7 1 m 7 = 1 := upd2_at
  simp (maxSteps := 2000000) (disch := first | assumption | omega) only [aft_v, aft_n, aft_t, Nat.add_assoc, Nat.reduceAdd, if_true, if_false, not_true_eq_false, not_false_eq_true, Classical.not_not, Int.reduceAdd, Int.reduceSub, Int.reduceMul, Int.reduceNeg, Int.reduceLT, Int.reduceLE, Int.reduceEq, Int.add_zero, Int.zero_add, Int.sub_zero, c_222, w_222_0, w_222_1, w_222_2, w_222_3, w_222_4, w_222_5, w_222_6, w_222_7, s_isIn, if_neg hc, u7, if_neg (show ¬ (1 : Int) ≤ 0 by decide)]
theorem s_isEvent {e : Int} (hm : isM g m) (hr : (-2147483648 ≤ e ∧ e < 2147483648)) (hn : 0 ≤ I (m + 1) 0 ∧ I (m + 1) 0 ≤ 40) : cl 188 [.ref m, .int (iI e)] (mk g I) = some (.inl (some (.int (iI (if 0 ≤ e ∧ e < I (m + 1) 0 then 1 else 0)))), mk g I) := by
  have hm' := hm
  obtain ⟨t_0, ⟨t_1, d_1, n_1⟩, ⟨t_2, d_2, n_2⟩, ⟨t_3, d_3, n_3⟩, ⟨t_4, d_4, n_4⟩, ⟨t_5, d_5, n_5⟩, ⟨t_6, n_6⟩, ⟨t_7, d_7, n_7⟩, ⟨t_8, d_8, n_8⟩, ⟨t_9, d_9, n_9⟩, ⟨t_10, d_10, n_10⟩, ⟨t_11, d_11, n_11⟩, ⟨t_12, d_12, n_12⟩, ⟨t_13, d_13, n_13⟩, ⟨t_14, d_14, n_14⟩, ⟨t_15, n_15⟩, ⟨t_16, n_16⟩, ⟨t_17, d_17, n_17⟩, ⟨t_18, d_18, n_18⟩⟩ := hm
  by_cases h : 0 ≤ e ∧ e < I (m + 1) 0
  · rw [if_pos h]
    simp (maxSteps := 2000000) (disch := first | assumption | omega) only [aft_v, aft_n, aft_t, Nat.add_assoc, Nat.reduceAdd, if_true, if_false, not_true_eq_false, not_false_eq_true, Classical.not_not, Int.reduceAdd, Int.reduceSub, Int.reduceMul, Int.reduceNeg, Int.reduceLT, Int.reduceLE, Int.reduceEq, Int.add_zero, Int.zero_add, Int.sub_zero, c_188, w_188_0, w_188_1, w_188_2, s_events hm', s_isIn, if_pos (show 0 ≤ e ∧ e ≤ I (m + 1) 0 - 1 by omega)]
  · rw [if_neg h]
    simp (maxSteps := 2000000) (disch := first | assumption | omega) only [aft_v, aft_n, aft_t, Nat.add_assoc, Nat.reduceAdd, if_true, if_false, not_true_eq_false, not_false_eq_true, Classical.not_not, Int.reduceAdd, Int.reduceSub, Int.reduceMul, Int.reduceNeg, Int.reduceLT, Int.reduceLE, Int.reduceEq, Int.add_zero, Int.zero_add, Int.sub_zero, c_188, w_188_0, w_188_1, w_188_2, s_events hm', s_isIn, if_neg (show ¬ (0 ≤ e ∧ e ≤ I (m + 1) 0 - 1) by omega)]
end MA
