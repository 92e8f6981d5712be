/-! The reference: notes, spans. -/
theorem mv_z {I : Mm} {m : Nat} {i v j : Int} : upd2 I m i v (m + 1) j = I (m + 1) j := upd2_p (by omega)
section MA
variable {g : Gm} {I : Mm} {m : Nat}
theorem s_isNote {e k : Int} (hm : isM g m) (hW : Wf (mv I m)) (he : (-2147483648 ≤ e ∧ e < 2147483648)) (hk : (-2147483648 ≤ k ∧ k < 2147483648)) : cl 189 [.ref m, .int (iI e), .int (iI k)] (mk g I) = some (.inl (some (.int (iI (if (0 ≤ e ∧ e < I (m + 1) 0) ∧ 0 ≤ k ∧ k < I (m + 1) (42 + 8 * e) then 1 else 0)))), mk g I) := by
  have hm' := hm
  obtain ⟨t_0, ⟨t_1, d_1, n_1⟩, ⟨t_2, d_2, n_2⟩, ⟨t_3, d_3, n_3⟩, ⟨t_4, d_4, n_4⟩, ⟨t_5, d_5, n_5⟩, ⟨t_6, n_6⟩, ⟨t_7, d_7, n_7⟩, ⟨t_8, d_8, n_8⟩, ⟨t_9, d_9, n_9⟩, ⟨t_10, d_10, n_10⟩, ⟨t_11, d_11, n_11⟩, ⟨t_12, d_12, n_12⟩, ⟨t_13, d_13, n_13⟩, ⟨t_14, d_14, n_14⟩, ⟨t_15, n_15⟩, ⟨t_16, n_16⟩, ⟨t_17, d_17, n_17⟩, ⟨t_18, d_18, n_18⟩⟩ := hm
  have hn : 0 ≤ I (m + 1) 0 ∧ I (m + 1) 0 ≤ 40 := hW.2.1
  have q := s_isEvent (I := I) hm' he hn
  by_cases h : 0 ≤ e ∧ e < I (m + 1) 0
  · have hz : 1 ≤ I (m + 1) (42 + 8 * e) ∧ I (m + 1) (42 + 8 * e) ≤ 3 := (hW.2.2.1 e h.1 h.2).1
    rw [if_pos h] at q
    by_cases h2 : 0 ≤ k ∧ k < I (m + 1) (42 + 8 * e)
    · rw [if_pos ⟨h, h2⟩]
      simp (maxSteps := 2000000) (disch := first | assumption | omega) only [aft_v, aft_n, aft_t, Nat.add_assoc, Nat.reduceAdd, if_true, if_false, not_true_eq_false, not_false_eq_true, Classical.not_not, Int.reduceAdd, Int.reduceSub, Int.reduceMul, Int.reduceNeg, Int.reduceLT, Int.reduceLE, Int.reduceEq, Int.add_zero, Int.zero_add, Int.sub_zero, c_189, w_189_0, w_189_1, w_189_2, w_189_3, w_189_4, w_189_5, w_189_6, w_189_7, q, s_notesOf hm', s_isIn, if_pos (show 0 ≤ k ∧ k ≤ I (m + 1) (42 + 8 * e) - 1 by omega)]
    · rw [if_neg (fun z => h2 z.2)]
      simp (maxSteps := 2000000) (disch := first | assumption | omega) only [aft_v, aft_n, aft_t, Nat.add_assoc, Nat.reduceAdd, if_true, if_false, not_true_eq_false, not_false_eq_true, Classical.not_not, Int.reduceAdd, Int.reduceSub, Int.reduceMul, Int.reduceNeg, Int.reduceLT, Int.reduceLE, Int.reduceEq, Int.add_zero, Int.zero_add, Int.sub_zero, c_189, w_189_0, w_189_1, w_189_2, w_189_3, w_189_4, w_189_5, w_189_6, w_189_7, q, s_notesOf hm', s_isIn, if_neg (show ¬ (0 ≤ k ∧ k ≤ I (m + 1) (42 + 8 * e) - 1) by omega)]
  · rw [if_neg h] at q
    rw [if_neg (fun z => h z.1)]
    simp (maxSteps := 2000000) (disch := first | assumption | omega) only [aft_v, aft_n, aft_t, Nat.add_assoc, Nat.reduceAdd, if_true, if_false, not_true_eq_false, not_false_eq_true, Classical.not_not, Int.reduceAdd, Int.reduceSub, Int.reduceMul, Int.reduceNeg, Int.reduceLT, Int.reduceLE, Int.reduceEq, Int.add_zero, Int.zero_add, Int.sub_zero, c_189, w_189_0, w_189_1, w_189_2, w_189_3, w_189_4, w_189_5, w_189_6, w_189_7, q]
/-- the fault of a question about a note -/
theorem s_note {e k w : Int} (hm : isM g m) (hW : Wf (mv I m)) (he : 0 ≤ e ∧ e < I (m + 1) 0) (hk : 0 ≤ k ∧ k < I (m + 1) (42 + 8 * e)) (hw : w = 0 ∨ w = 1) : cl 221 [.ref m, .int (iI e), .int (iI k), .int (iI w)] (mk g I) = some (.inl (some (.int (iI (if w = 0 then pKy (mv I m) e k else pSe (mv I m) e k)))), mk g (upd2 I m 7 0)) := by
  have hm' := hm
  obtain ⟨t_0, ⟨t_1, d_1, n_1⟩, ⟨t_2, d_2, n_2⟩, ⟨t_3, d_3, n_3⟩, ⟨t_4, d_4, n_4⟩, ⟨t_5, d_5, n_5⟩, ⟨t_6, n_6⟩, ⟨t_7, d_7, n_7⟩, ⟨t_8, d_8, n_8⟩, ⟨t_9, d_9, n_9⟩, ⟨t_10, d_10, n_10⟩, ⟨t_11, d_11, n_11⟩, ⟨t_12, d_12, n_12⟩, ⟨t_13, d_13, n_13⟩, ⟨t_14, d_14, n_14⟩, ⟨t_15, n_15⟩, ⟨t_16, n_16⟩, ⟨t_17, d_17, n_17⟩, ⟨t_18, d_18, n_18⟩⟩ := hm
  have hn : 0 ≤ I (m + 1) 0 ∧ I (m + 1) 0 ≤ 40 := hW.2.1
  have hz : 1 ≤ I (m + 1) (42 + 8 * e) ∧ I (m + 1) (42 + 8 * e) ≤ 3 := (hW.2.2.1 e he.1 he.2).1
  have q := s_isNote (g := g) (I := I) (e := e) (k := k) hm' hW (by omega) (by omega)
  rw [if_pos ⟨he, hk⟩] at q
  have u7 : upd2 I m 7 0 m 7 = 0 := upd2_at
  have r0 := s_keyOfM (I := upd2 I m 7 0) (e := e) (k := k) hm' (by omega) (by omega)
  have r1 := s_setOf (I := upd2 I m 7 0) (e := e) (k := k) hm' (by omega) (by omega)
  rw [mv_z] at r0 r1
  have e0 : pKy (mv I m) e k = I (m + 1) (42 + 8 * e + 2 + k) := rfl
  have e1 : pSe (mv I m) e k = I (m + 1) (42 + 8 * e + 5 + k) := rfl
  rw [e0, e1]
  rcases hw with rfl | rfl
  · rw [if_pos rfl]
    have qi : cl 157 [.int (iI 0), .int (iI 0), .int (iI 1)] (mk g I) = some (.inl (some (.int (iI 1))), mk g I) := s_isIn (a := 0) (b := 0) (c := 1) (by omega) (by omega) (by omega)
    simp (maxSteps := 2000000) (disch := first | assumption | omega) only [aft_v, aft_n, aft_t, Nat.add_assoc, Nat.reduceAdd, if_true, if_false, not_true_eq_false, not_false_eq_true, Classical.not_not, Int.reduceAdd, Int.reduceSub, Int.reduceMul, Int.reduceNeg, Int.reduceLT, Int.reduceLE, Int.reduceEq, Int.add_zero, Int.zero_add, Int.sub_zero, c_221, w_221_0, w_221_1, w_221_2, w_221_3, w_221_4, w_221_5, w_221_6, w_221_7, w_221_8, w_221_9, w_221_10, w_221_11, w_221_12, w_221_13, q, qi, u7, if_pos (Int.le_refl 0), r0]
  · rw [if_neg (by decide)]
    have qi : cl 157 [.int (iI 1), .int (iI 0), .int (iI 1)] (mk g I) = some (.inl (some (.int (iI 1))), mk g I) := s_isIn (a := 1) (b := 0) (c := 1) (by omega) (by omega) (by omega)
    simp (maxSteps := 2000000) (disch := first | assumption | omega) only [aft_v, aft_n, aft_t, Nat.add_assoc, Nat.reduceAdd, if_true, if_false, not_true_eq_false, not_false_eq_true, Classical.not_not, Int.reduceAdd, Int.reduceSub, Int.reduceMul, Int.reduceNeg, Int.reduceLT, Int.reduceLE, Int.reduceEq, Int.add_zero, Int.zero_add, Int.sub_zero, c_221, w_221_0, w_221_1, w_221_2, w_221_3, w_221_4, w_221_5, w_221_6, w_221_7, w_221_8, w_221_9, w_221_10, w_221_11, w_221_12, w_221_13, q, qi, u7, if_pos (Int.le_refl 0), r1, show ¬ (1 : Int) = 0 by decide]
theorem s_noteBad {e k w : Int} (hm : isM g m) (hW : Wf (mv I m)) (he : (-2147483648 ≤ e ∧ e < 2147483648)) (hk : (-2147483648 ≤ k ∧ k < 2147483648)) (hw : (-2147483648 ≤ w ∧ w < 2147483648)) (h : ¬ ((0 ≤ e ∧ e < I (m + 1) 0) ∧ 0 ≤ k ∧ k < I (m + 1) (42 + 8 * e)) ∨ ¬ (0 ≤ w ∧ w ≤ 1)) : ∃ f, 0 < f ∧ f ≤ 2 ∧ (f = if (0 ≤ e ∧ e < I (m + 1) 0) ∧ 0 ≤ k ∧ k < I (m + 1) (42 + 8 * e) then 2 else 1) ∧ cl 221 [.ref m, .int (iI e), .int (iI k), .int (iI w)] (mk g I) = some (.inl (some (.int (iI 0))), mk g (upd2 I m 7 f)) := by
  have hm' := hm
  obtain ⟨t_0, ⟨t_1, d_1, n_1⟩, ⟨t_2, d_2, n_2⟩, ⟨t_3, d_3, n_3⟩, ⟨t_4, d_4, n_4⟩, ⟨t_5, d_5, n_5⟩, ⟨t_6, n_6⟩, ⟨t_7, d_7, n_7⟩, ⟨t_8, d_8, n_8⟩, ⟨t_9, d_9, n_9⟩, ⟨t_10, d_10, n_10⟩, ⟨t_11, d_11, n_11⟩, ⟨t_12, d_12, n_12⟩, ⟨t_13, d_13, n_13⟩, ⟨t_14, d_14, n_14⟩, ⟨t_15, n_15⟩, ⟨t_16, n_16⟩, ⟨t_17, d_17, n_17⟩, ⟨t_18, d_18, n_18⟩⟩ := hm
  have q := s_isNote (g := g) (I := I) (e := e) (k := k) hm' hW he hk
  by_cases hc : (0 ≤ e ∧ e < I (m + 1) 0) ∧ 0 ≤ k ∧ k < I (m + 1) (42 + 8 * e)
  · rw [if_pos hc] at q
    have hw2 : ¬ (0 ≤ w ∧ w ≤ 1) := by rcases h with h | h; exact absurd hc h; exact h
    have u7 : upd2 I m 7 2 m 7 = 2 := upd2_at
    refine ⟨2, by decide, by decide, by rw [if_pos hc], ?_⟩
    simp (maxSteps := 2000000) (disch := first | assumption | omega) only [aft_v, aft_n, aft_t, Nat.add_assoc, Nat.reduceAdd, if_true, if_false, not_true_eq_false, not_false_eq_true, Classical.not_not, Int.reduceAdd, Int.reduceSub, Int.reduceMul, Int.reduceNeg, Int.reduceLT, Int.reduceLE, Int.reduceEq, Int.add_zero, Int.zero_add, Int.sub_zero, c_221, w_221_0, w_221_1, w_221_2, w_221_3, w_221_4, w_221_5, w_221_6, w_221_7, w_221_8, w_221_9, w_221_10, w_221_11, w_221_12, w_221_13, q, s_isIn, u7, if_neg hw2, if_neg (show ¬ (2 : Int) ≤ 0 by decide)]
  · rw [if_neg hc] at q
    have u7 : upd2 I m 7 1 m 7 = 1 := upd2_at
    refine ⟨1, by decide, by decide, by rw [if_neg hc], ?_⟩
    simp (maxSteps := 2000000) (disch := first | assumption | omega) only [aft_v, aft_n, aft_t, Nat.add_assoc, Nat.reduceAdd, if_true, if_false, not_true_eq_false, not_false_eq_true, Classical.not_not, Int.reduceAdd, Int.reduceSub, Int.reduceMul, Int.reduceNeg, Int.reduceLT, Int.reduceLE, Int.reduceEq, Int.add_zero, Int.zero_add, Int.sub_zero, c_221, w_221_0, w_221_1, w_221_2, w_221_3, w_221_4, w_221_5, w_221_6, w_221_7, w_221_8, w_221_9, w_221_10, w_221_11, w_221_12, w_221_13, q, u7, if_neg (show ¬ (1 : Int) ≤ 0 by decide)]
end MA
