/-! Faults of spans and notes, of both. -/
section FA
variable {g : Gm} {I : Mm} {m x : Nat}
theorem s_spanBadF {a b w : Int} (hm : isM g m) (hra : (-2147483648 ≤ a ∧ a < 2147483648)) (hrb : (-2147483648 ≤ b ∧ b < 2147483648)) (h : ¬ ((1 ≤ a ∧ a ≤ 5) ∧ 1 ≤ b ∧ b ≤ 5)) : cl 223 [.ref m, .int (iI a), .int (iI b), .int (iI w)] (mk g I) = some (.inl (some (.int (iI 0))), mk g (upd2 I m 7 1)) := by
  obtain ⟨t_0, ⟨t_1, d_1, n_1⟩, ⟨t_2, d_2, n_2⟩, ⟨t_3, d_3, n_3⟩, ⟨t_4, d_4, n_4⟩, ⟨t_5, d_5, n_5⟩, ⟨t_6, n_6⟩, ⟨t_7, d_7, n_7⟩, ⟨t_8, d_8, n_8⟩, ⟨t_9, d_9, n_9⟩, ⟨t_10, d_10, n_10⟩, ⟨t_11, d_11, n_11⟩, ⟨t_12, d_12, n_12⟩, ⟨t_13, d_13, n_13⟩, ⟨t_14, d_14, n_14⟩, ⟨t_15, n_15⟩, ⟨t_16, n_16⟩, ⟨t_17, d_17, n_17⟩, ⟨t_18, d_18, n_18⟩⟩ := hm
  have u7 : upd2 I m 7 1 m 7 = 1 := upd2_at
  have f1 := s_isFinger (g := g) (I := I) (a := a) hra
  have f2 := s_isFinger (g := g) (I := I) (a := b) hrb
  by_cases ha : 1 ≤ a ∧ a ≤ 5
  · rw [if_pos ha] at f1
    rw [if_neg (fun z => h ⟨ha, z⟩)] at f2
    simp (maxSteps := 2000000) (disch := first | assumption | omega) only [aft_v, aft_n, aft_t, Nat.add_assoc, Nat.reduceAdd, if_true, if_false, not_true_eq_false, not_false_eq_true, Classical.not_not, Int.reduceAdd, Int.reduceSub, Int.reduceMul, Int.reduceNeg, Int.reduceLT, Int.reduceLE, Int.reduceEq, Int.add_zero, Int.zero_add, Int.sub_zero, c_223, w_223_0, w_223_1, w_223_2, w_223_3, w_223_4, w_223_5, w_223_6, w_223_7, w_223_8, w_223_9, w_223_10, w_223_11, w_223_12, w_223_13, w_223_14, f1, f2, u7, if_neg (show ¬ (1 : Int) ≤ 0 by decide)]
  · rw [if_neg ha] at f1
    simp (maxSteps := 2000000) (disch := first | assumption | omega) only [aft_v, aft_n, aft_t, Nat.add_assoc, Nat.reduceAdd, if_true, if_false, not_true_eq_false, not_false_eq_true, Classical.not_not, Int.reduceAdd, Int.reduceSub, Int.reduceMul, Int.reduceNeg, Int.reduceLT, Int.reduceLE, Int.reduceEq, Int.add_zero, Int.zero_add, Int.sub_zero, c_223, w_223_0, w_223_1, w_223_2, w_223_3, w_223_4, w_223_5, w_223_6, w_223_7, w_223_8, w_223_9, w_223_10, w_223_11, w_223_12, w_223_13, w_223_14, f1, u7, if_neg (show ¬ (1 : Int) ≤ 0 by decide)]
theorem s_spanBadW {a b w : Int} (hm : isM g m) (ha : 1 ≤ a ∧ a ≤ 5) (hb : 1 ≤ b ∧ b ≤ 5) (hrw : (-2147483648 ≤ w ∧ w < 2147483648)) (h : a = b ∨ ¬ (0 ≤ w ∧ w ≤ 2)) : cl 223 [.ref m, .int (iI a), .int (iI b), .int (iI w)] (mk g I) = some (.inl (some (.int (iI 0))), mk g (upd2 I m 7 2)) := by
  obtain ⟨t_0, ⟨t_1, d_1, n_1⟩, ⟨t_2, d_2, n_2⟩, ⟨t_3, d_3, n_3⟩, ⟨t_4, d_4, n_4⟩, ⟨t_5, d_5, n_5⟩, ⟨t_6, n_6⟩, ⟨t_7, d_7, n_7⟩, ⟨t_8, d_8, n_8⟩, ⟨t_9, d_9, n_9⟩, ⟨t_10, d_10, n_10⟩, ⟨t_11, d_11, n_11⟩, ⟨t_12, d_12, n_12⟩, ⟨t_13, d_13, n_13⟩, ⟨t_14, d_14, n_14⟩, ⟨t_15, n_15⟩, ⟨t_16, n_16⟩, ⟨t_17, d_17, n_17⟩, ⟨t_18, d_18, n_18⟩⟩ := hm
  have u7 : upd2 I m 7 2 m 7 = 2 := upd2_at
  have f1 := s_isFinger (g := g) (I := I) (a := a) (by omega)
  have f2 := s_isFinger (g := g) (I := I) (a := b) (by omega)
  rw [if_pos ha] at f1
  rw [if_pos hb] at f2
  by_cases hab : a = b
  · subst hab
    simp (maxSteps := 2000000) (disch := first | assumption | omega) only [aft_v, aft_n, aft_t, Nat.add_assoc, Nat.reduceAdd, if_true, if_false, not_true_eq_false, not_false_eq_true, Classical.not_not, Int.reduceAdd, Int.reduceSub, Int.reduceMul, Int.reduceNeg, Int.reduceLT, Int.reduceLE, Int.reduceEq, Int.add_zero, Int.zero_add, Int.sub_zero, c_223, w_223_0, w_223_1, w_223_2, w_223_3, w_223_4, w_223_5, w_223_6, w_223_7, w_223_8, w_223_9, w_223_10, w_223_11, w_223_12, w_223_13, w_223_14, f1, u7, if_neg (show ¬ (2 : Int) ≤ 0 by decide)]
  · have qi := s_isIn (g := g) (I := I) (a := w) (b := 0) (c := 2) (by omega) (by omega) (by omega)
    rw [if_neg (by rcases h with h | h; exact absurd h hab; exact h)] at qi
    simp (maxSteps := 2000000) (disch := first | assumption | omega) only [aft_v, aft_n, aft_t, Nat.add_assoc, Nat.reduceAdd, if_true, if_false, not_true_eq_false, not_false_eq_true, Classical.not_not, Int.reduceAdd, Int.reduceSub, Int.reduceMul, Int.reduceNeg, Int.reduceLT, Int.reduceLE, Int.reduceEq, Int.add_zero, Int.zero_add, Int.sub_zero, c_223, w_223_0, w_223_1, w_223_2, w_223_3, w_223_4, w_223_5, w_223_6, w_223_7, w_223_8, w_223_9, w_223_10, w_223_11, w_223_12, w_223_13, w_223_14, f1, f2, qi, u7, hab, if_neg (show ¬ (2 : Int) ≤ 0 by decide)]
theorem s_hspanBadF {a b w : Int} (hx : isHn g x) (hra : (-2147483648 ≤ a ∧ a < 2147483648)) (hrb : (-2147483648 ≤ b ∧ b < 2147483648)) (h : ¬ ((1 ≤ a ∧ a ≤ 5) ∧ 1 ≤ b ∧ b ≤ 5)) : cl 100 [.ref x, .int (iI a), .int (iI b), .int (iI w)] (mk g I) = some (.inr "java/lang/IndexOutOfBoundsException", mk (gexc g) I) := by
  obtain ⟨h5, hp⟩ := hx
  by_cases ha : 1 ≤ a ∧ a ≤ 5
  · have f1 := s_needFinger (g := g) (I := I) (x := x) (w := a) hra ha
    have f2 := s_needFingerBad (g := g) (I := I) (x := x) (w := b) hrb (fun z => h ⟨ha, z⟩)
    simp (maxSteps := 2000000) (disch := first | assumption | omega) only [aft_v, aft_n, aft_t, Nat.add_assoc, Nat.reduceAdd, if_true, if_false, not_true_eq_false, not_false_eq_true, Classical.not_not, Int.reduceAdd, Int.reduceSub, Int.reduceMul, Int.reduceNeg, Int.reduceLT, Int.reduceLE, Int.reduceEq, Int.add_zero, Int.zero_add, Int.sub_zero, c_100, w_100_0, w_100_1, f1, f2]
  · have f1 := s_needFingerBad (g := g) (I := I) (x := x) (w := a) hra ha
    simp (maxSteps := 2000000) (disch := first | assumption | omega) only [aft_v, aft_n, aft_t, Nat.add_assoc, Nat.reduceAdd, if_true, if_false, not_true_eq_false, not_false_eq_true, Classical.not_not, Int.reduceAdd, Int.reduceSub, Int.reduceMul, Int.reduceNeg, Int.reduceLT, Int.reduceLE, Int.reduceEq, Int.add_zero, Int.zero_add, Int.sub_zero, c_100, w_100_0, f1]
theorem s_hspanBadW {a b w : Int} (hx : isHn g x) (ha : 1 ≤ a ∧ a ≤ 5) (hb : 1 ≤ b ∧ b ≤ 5) (hrw : (-2147483648 ≤ w ∧ w < 2147483648)) (h : a = b ∨ ¬ (0 ≤ w ∧ w ≤ 2)) : cl 100 [.ref x, .int (iI a), .int (iI b), .int (iI w)] (mk g I) = some (.inr "java/lang/IllegalArgumentException", mk (gexc g) I) := by
  obtain ⟨h5, hp⟩ := hx
  have f1 := s_needFinger (g := g) (I := I) (x := x) (w := a) (by omega) ha
  have f2 := s_needFinger (g := g) (I := I) (x := x) (w := b) (by omega) hb
  by_cases hab : a = b
  · subst hab
    simp (maxSteps := 2000000) (disch := first | assumption | omega) only [aft_v, aft_n, aft_t, Nat.add_assoc, Nat.reduceAdd, if_true, if_false, not_true_eq_false, not_false_eq_true, Classical.not_not, Int.reduceAdd, Int.reduceSub, Int.reduceMul, Int.reduceNeg, Int.reduceLT, Int.reduceLE, Int.reduceEq, Int.add_zero, Int.zero_add, Int.sub_zero, c_100, w_100_0, w_100_1, w_100_2, w_100_3, f1]
  · have hw : ¬ (0 ≤ w ∧ w ≤ 2) := by rcases h with h | h; exact absurd h hab; exact h
    simp (maxSteps := 2000000) (disch := first | assumption | omega) only [aft_v, aft_n, aft_t, Nat.add_assoc, Nat.reduceAdd, if_true, if_false, not_true_eq_false, not_false_eq_true, Classical.not_not, Int.reduceAdd, Int.reduceSub, Int.reduceMul, Int.reduceNeg, Int.reduceLT, Int.reduceLE, Int.reduceEq, Int.add_zero, Int.zero_add, Int.sub_zero, c_100, w_100_0, w_100_1, w_100_2, w_100_4, w_100_14, f1, f2, hab, show ¬ w = 0 by omega, show ¬ w = 1 by omega, show ¬ w = 2 by omega]
theorem s_hnoteBad {e k w : Int} (hx : isHn g x) (hB : gd I (x + 1)) (hr : (-2147483648 ≤ e ∧ e < 2147483648)) (hr2 : (-2147483648 ≤ k ∧ k < 2147483648)) (h : ¬ ((0 ≤ e ∧ e < I (x + 1) 1) ∧ 0 ≤ k ∧ k < I (x + 1 + 2) e)) : cl 98 [.ref x, .int (iI e), .int (iI k), .int (iI w)] (mk g I) = some (.inr "java/lang/IndexOutOfBoundsException", mk (gexc g) I) := by
  have q := s_needNoteBad hx hB hr hr2 h
  obtain ⟨h5, hp⟩ := hx
  simp (maxSteps := 2000000) (disch := first | assumption | omega) only [aft_v, aft_n, aft_t, Nat.add_assoc, Nat.reduceAdd, if_true, if_false, not_true_eq_false, not_false_eq_true, Classical.not_not, Int.reduceAdd, Int.reduceSub, Int.reduceMul, Int.reduceNeg, Int.reduceLT, Int.reduceLE, Int.reduceEq, Int.add_zero, Int.zero_add, Int.sub_zero, c_98, w_98_0, q]
theorem s_hnoteBadW {e k w : Int} (hx : isHn g x) (hB : gd I (x + 1)) (he : 0 ≤ e ∧ e < I (x + 1) 1) (hk : 0 ≤ k ∧ k < I (x + 1 + 2) e) (hrw : (-2147483648 ≤ w ∧ w < 2147483648)) (hw : ¬ (0 ≤ w ∧ w ≤ 1)) : cl 98 [.ref x, .int (iI e), .int (iI k), .int (iI w)] (mk g I) = some (.inr "java/lang/IllegalArgumentException", mk (gexc g) I) := by
  have q := s_needNote hx hB he hk
  obtain ⟨h5, hp⟩ := hx
  simp (maxSteps := 2000000) (disch := first | assumption | omega) only [aft_v, aft_n, aft_t, Nat.add_assoc, Nat.reduceAdd, if_true, if_false, not_true_eq_false, not_false_eq_true, Classical.not_not, Int.reduceAdd, Int.reduceSub, Int.reduceMul, Int.reduceNeg, Int.reduceLT, Int.reduceLE, Int.reduceEq, Int.add_zero, Int.zero_add, Int.sub_zero, c_98, w_98_0, w_98_1, w_98_7, q, show ¬ w = 0 by omega, show ¬ w = 1 by omega]
end FA
