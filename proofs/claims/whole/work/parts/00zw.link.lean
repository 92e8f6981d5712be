/-! Links, of both: an answer, and each fault. -/
section LK
variable {g : Gm} {I : Mm} {m x : Nat}
theorem s_linkM {a k b l : Int} (hm : isM g m) (hW : Wf (mv I m)) (ha : 1 ≤ a ∧ a ≤ 5) (hb : 1 ≤ b ∧ b ≤ 5) (hk : 21 ≤ k ∧ k ≤ 108) (hl : 21 ≤ l ∧ l ≤ 108) : cl 225 [.ref m, .int (iI a), .int (iI k), .int (iI b), .int (iI l)] (mk g I) = some (.inl (some (.int (iI (linkS (mv I m) a k b l)))), mk g (upd2 I m 7 0)) := by
  have hm' := hm
  obtain ⟨t_0, ⟨t_1, d_1, n_1⟩, ⟨t_2, d_2, n_2⟩, ⟨t_3, d_3, n_3⟩, ⟨t_4, d_4, n_4⟩, ⟨t_5, d_5, n_5⟩, ⟨t_6, n_6⟩, ⟨t_7, d_7, n_7⟩, ⟨t_8, d_8, n_8⟩, ⟨t_9, d_9, n_9⟩, ⟨t_10, d_10, n_10⟩, ⟨t_11, d_11, n_11⟩, ⟨t_12, d_12, n_12⟩, ⟨t_13, d_13, n_13⟩, ⟨t_14, d_14, n_14⟩, ⟨t_15, n_15⟩, ⟨t_16, n_16⟩, ⟨t_17, d_17, n_17⟩, ⟨t_18, d_18, n_18⟩⟩ := hm
  have u7 : upd2 I m 7 0 m 7 = 0 := upd2_at
  have hW' : Wf (mv (upd2 I m 7 0) m) := by rw [mv_u]; exact hW
  have f1 := s_isFinger (g := g) (I := I) (a := a) (by omega)
  have f2 := s_isFinger (g := g) (I := I) (a := b) (by omega)
  have f3 := s_isOnBoard (g := g) (I := I) (a := k) (by omega)
  have f4 := s_isOnBoard (g := g) (I := I) (a := l) (by omega)
  rw [if_pos ha] at f1
  rw [if_pos hb] at f2
  rw [if_pos hk] at f3
  rw [if_pos hl] at f4
  have q := s_linkOf (f := a) (k := k) (f' := b) (k' := l) hm' hW' ha hb (by omega) (by omega)
  rw [mv_u] at q
  simp (maxSteps := 2000000) (disch := first | assumption | omega) only [aft_v, aft_n, aft_t, Nat.add_assoc, Nat.reduceAdd, if_true, if_false, not_true_eq_false, not_false_eq_true, Classical.not_not, Int.reduceAdd, Int.reduceSub, Int.reduceMul, Int.reduceNeg, Int.reduceLT, Int.reduceLE, Int.reduceEq, Int.add_zero, Int.zero_add, Int.sub_zero, c_225, w_225_0, w_225_1, w_225_2, w_225_3, w_225_4, w_225_5, w_225_6, w_225_7, w_225_8, w_225_9, w_225_10, w_225_11, w_225_12, w_225_13, w_225_14, f1, f2, f3, f4, q, u7, if_pos (Int.le_refl 0)]
theorem s_linkBadF {a k b l : Int} (hm : isM g m) (hra : (-2147483648 ≤ a ∧ a < 2147483648)) (hrb : (-2147483648 ≤ b ∧ b < 2147483648)) (h : ¬ ((1 ≤ a ∧ a ≤ 5) ∧ 1 ≤ b ∧ b ≤ 5)) : cl 225 [.ref m, .int (iI a), .int (iI k), .int (iI b), .int (iI l)] (mk g I) = some (.inl (some (.int (iI 0))), mk g (upd2 I m 7 1)) := by
  obtain ⟨t_0, ⟨t_1, d_1, n_1⟩, ⟨t_2, d_2, n_2⟩, ⟨t_3, d_3, n_3⟩, ⟨t_4, d_4, n_4⟩, ⟨t_5, d_5, n_5⟩, ⟨t_6, n_6⟩, ⟨t_7, d_7, n_7⟩, ⟨t_8, d_8, n_8⟩, ⟨t_9, d_9, n_9⟩, ⟨t_10, d_10, n_10⟩, ⟨t_11, d_11, n_11⟩, ⟨t_12, d_12, n_12⟩, ⟨t_13, d_13, n_13⟩, ⟨t_14, d_14, n_14⟩, ⟨t_15, n_15⟩, ⟨t_16, n_16⟩, ⟨t_17, d_17, n_17⟩, ⟨t_18, d_18, n_18⟩⟩ := hm
  have u7 : upd2 I m 7 1 m 7 = 1 := upd2_at
  have f1 := s_isFinger (g := g) (I := I) (a := a) hra
  have f2 := s_isFinger (g := g) (I := I) (a := b) hrb
  by_cases ha : 1 ≤ a ∧ a ≤ 5
  · rw [if_pos ha] at f1
    rw [if_neg (fun z => h ⟨ha, z⟩)] at f2
    simp (maxSteps := 2000000) (disch := first | assumption | omega) only [aft_v, aft_n, aft_t, Nat.add_assoc, Nat.reduceAdd, if_true, if_false, not_true_eq_false, not_false_eq_true, Classical.not_not, Int.reduceAdd, Int.reduceSub, Int.reduceMul, Int.reduceNeg, Int.reduceLT, Int.reduceLE, Int.reduceEq, Int.add_zero, Int.zero_add, Int.sub_zero, c_225, w_225_0, w_225_1, w_225_2, w_225_3, w_225_4, w_225_5, w_225_6, w_225_7, w_225_8, w_225_9, w_225_10, w_225_11, w_225_12, w_225_13, w_225_14, f1, f2, u7, if_neg (show ¬ (1 : Int) ≤ 0 by decide)]
  · rw [if_neg ha] at f1
    simp (maxSteps := 2000000) (disch := first | assumption | omega) only [aft_v, aft_n, aft_t, Nat.add_assoc, Nat.reduceAdd, if_true, if_false, not_true_eq_false, not_false_eq_true, Classical.not_not, Int.reduceAdd, Int.reduceSub, Int.reduceMul, Int.reduceNeg, Int.reduceLT, Int.reduceLE, Int.reduceEq, Int.add_zero, Int.zero_add, Int.sub_zero, c_225, w_225_0, w_225_1, w_225_2, w_225_3, w_225_4, w_225_5, w_225_6, w_225_7, w_225_8, w_225_9, w_225_10, w_225_11, w_225_12, w_225_13, w_225_14, f1, u7, if_neg (show ¬ (1 : Int) ≤ 0 by decide)]
theorem s_linkBadK {a k b l : Int} (hm : isM g m) (ha : 1 ≤ a ∧ a ≤ 5) (hb : 1 ≤ b ∧ b ≤ 5) (hrk : (-2147483648 ≤ k ∧ k < 2147483648)) (hrl : (-2147483648 ≤ l ∧ l < 2147483648)) (h : ¬ ((21 ≤ k ∧ k ≤ 108) ∧ 21 ≤ l ∧ l ≤ 108)) : cl 225 [.ref m, .int (iI a), .int (iI k), .int (iI b), .int (iI l)] (mk g I) = some (.inl (some (.int (iI 0))), mk g (upd2 I m 7 2)) := by
  obtain ⟨t_0, ⟨t_1, d_1, n_1⟩, ⟨t_2, d_2, n_2⟩, ⟨t_3, d_3, n_3⟩, ⟨t_4, d_4, n_4⟩, ⟨t_5, d_5, n_5⟩, ⟨t_6, n_6⟩, ⟨t_7, d_7, n_7⟩, ⟨t_8, d_8, n_8⟩, ⟨t_9, d_9, n_9⟩, ⟨t_10, d_10, n_10⟩, ⟨t_11, d_11, n_11⟩, ⟨t_12, d_12, n_12⟩, ⟨t_13, d_13, n_13⟩, ⟨t_14, d_14, n_14⟩, ⟨t_15, n_15⟩, ⟨t_16, n_16⟩, ⟨t_17, d_17, n_17⟩, ⟨t_18, d_18, n_18⟩⟩ := hm
  have u7 : upd2 I m 7 2 m 7 = 2 := upd2_at
  have f1 := s_isFinger (g := g) (I := I) (a := a) (by omega)
  have f2 := s_isFinger (g := g) (I := I) (a := b) (by omega)
  have f3 := s_isOnBoard (g := g) (I := I) (a := k) hrk
  have f4 := s_isOnBoard (g := g) (I := I) (a := l) hrl
  rw [if_pos ha] at f1
  rw [if_pos hb] at f2
  by_cases hk : 21 ≤ k ∧ k ≤ 108
  · rw [if_pos hk] at f3
    rw [if_neg (fun z => h ⟨hk, z⟩)] at f4
    simp (maxSteps := 2000000) (disch := first | assumption | omega) only [aft_v, aft_n, aft_t, Nat.add_assoc, Nat.reduceAdd, if_true, if_false, not_true_eq_false, not_false_eq_true, Classical.not_not, Int.reduceAdd, Int.reduceSub, Int.reduceMul, Int.reduceNeg, Int.reduceLT, Int.reduceLE, Int.reduceEq, Int.add_zero, Int.zero_add, Int.sub_zero, c_225, w_225_0, w_225_1, w_225_2, w_225_3, w_225_4, w_225_5, w_225_6, w_225_7, w_225_8, w_225_9, w_225_10, w_225_11, w_225_12, w_225_13, w_225_14, f1, f2, f3, f4, u7, if_neg (show ¬ (2 : Int) ≤ 0 by decide)]
  · rw [if_neg hk] at f3
    simp (maxSteps := 2000000) (disch := first | assumption | omega) only [aft_v, aft_n, aft_t, Nat.add_assoc, Nat.reduceAdd, if_true, if_false, not_true_eq_false, not_false_eq_true, Classical.not_not, Int.reduceAdd, Int.reduceSub, Int.reduceMul, Int.reduceNeg, Int.reduceLT, Int.reduceLE, Int.reduceEq, Int.add_zero, Int.zero_add, Int.sub_zero, c_225, w_225_0, w_225_1, w_225_2, w_225_3, w_225_4, w_225_5, w_225_6, w_225_7, w_225_8, w_225_9, w_225_10, w_225_11, w_225_12, w_225_13, w_225_14, f1, f2, f3, u7, if_neg (show ¬ (2 : Int) ≤ 0 by decide)]
theorem s_hlink {a k b l : Int} (hx : isHn g x) (hB : gd I (x + 1)) (ha : 1 ≤ a ∧ a ≤ 5) (hb : 1 ≤ b ∧ b ≤ 5) (hk : 21 ≤ k ∧ k ≤ 108) (hl : 21 ≤ l ∧ l ≤ 108) : cl 101 [.ref x, .int (iI a), .int (iI k), .int (iI b), .int (iI l)] (mk g I) = some (.inl (some (.int (iI (linkS (pv I (x + 1)) a k b l)))), mk g I) := by
  obtain ⟨h5, hp⟩ := hx
  have q := s_costOfLink (f := a) (k := k) (f' := b) (k' := l) hp hB.1 ha hb (by omega) (by omega)
  obtain ⟨p_0, ⟨p_1, q_1, p_2⟩, ⟨p_3, q_3, p_4⟩, ⟨p_5, q_5, p_6⟩, ⟨p_7, q_7, p_8⟩, ⟨p_9, q_9, p_10⟩, ⟨p_11, q_11, p_12⟩, ⟨p_13, q_13, p_14⟩, ⟨p_15, q_15, p_16⟩⟩ := hp
  have f1 := s_needFinger (g := g) (I := I) (x := x) (w := a) (by omega) ha
  have f2 := s_needFinger (g := g) (I := I) (x := x) (w := b) (by omega) hb
  have f3 := s_isWithin (g := g) (I := I) (a := k) (b := 21) (c := 108) (by omega) (by omega) (by omega)
  have f4 := s_isWithin (g := g) (I := I) (a := l) (b := 21) (c := 108) (by omega) (by omega) (by omega)
  rw [if_pos hk] at f3
  rw [if_pos hl] at f4
  simp (maxSteps := 2000000) (disch := first | assumption | omega) only [aft_v, aft_n, aft_t, Nat.add_assoc, Nat.reduceAdd, if_true, if_false, not_true_eq_false, not_false_eq_true, Classical.not_not, Int.reduceAdd, Int.reduceSub, Int.reduceMul, Int.reduceNeg, Int.reduceLT, Int.reduceLE, Int.reduceEq, Int.add_zero, Int.zero_add, Int.sub_zero, c_101, w_101_0, w_101_1, w_101_2, w_101_3, w_101_4, w_101_5, w_101_6, w_101_7, w_101_8, f1, f2, f3, f4, q]
theorem s_hlinkBadF {a k b l : Int} (hx : isHn g x) (hra : (-2147483648 ≤ a ∧ a < 2147483648)) (hrb : (-2147483648 ≤ b ∧ b < 2147483648)) (h : ¬ ((1 ≤ a ∧ a ≤ 5) ∧ 1 ≤ b ∧ b ≤ 5)) : cl 101 [.ref x, .int (iI a), .int (iI k), .int (iI b), .int (iI l)] (mk g I) = some (.inr "java/lang/IndexOutOfBoundsException", mk (gexc g) I) := by
  obtain ⟨h5, hp⟩ := hx
  by_cases ha : 1 ≤ a ∧ a ≤ 5
  · have f1 := s_needFinger (g := g) (I := I) (x := x) (w := a) hra ha
    have f2 := s_needFingerBad (g := g) (I := I) (x := x) (w := b) hrb (fun z => h ⟨ha, z⟩)
    simp (maxSteps := 2000000) (disch := first | assumption | omega) only [aft_v, aft_n, aft_t, Nat.add_assoc, Nat.reduceAdd, if_true, if_false, not_true_eq_false, not_false_eq_true, Classical.not_not, Int.reduceAdd, Int.reduceSub, Int.reduceMul, Int.reduceNeg, Int.reduceLT, Int.reduceLE, Int.reduceEq, Int.add_zero, Int.zero_add, Int.sub_zero, c_101, w_101_0, w_101_1, w_101_2, w_101_3, w_101_4, w_101_5, w_101_6, w_101_7, w_101_8, f1, f2]
  · have f1 := s_needFingerBad (g := g) (I := I) (x := x) (w := a) hra ha
    simp (maxSteps := 2000000) (disch := first | assumption | omega) only [aft_v, aft_n, aft_t, Nat.add_assoc, Nat.reduceAdd, if_true, if_false, not_true_eq_false, not_false_eq_true, Classical.not_not, Int.reduceAdd, Int.reduceSub, Int.reduceMul, Int.reduceNeg, Int.reduceLT, Int.reduceLE, Int.reduceEq, Int.add_zero, Int.zero_add, Int.sub_zero, c_101, w_101_0, w_101_1, w_101_2, w_101_3, w_101_4, w_101_5, w_101_6, w_101_7, w_101_8, f1]
theorem s_hlinkBadK {a k b l : Int} (hx : isHn g x) (ha : 1 ≤ a ∧ a ≤ 5) (hb : 1 ≤ b ∧ b ≤ 5) (hrk : (-2147483648 ≤ k ∧ k < 2147483648)) (hrl : (-2147483648 ≤ l ∧ l < 2147483648)) (h : ¬ ((21 ≤ k ∧ k ≤ 108) ∧ 21 ≤ l ∧ l ≤ 108)) : cl 101 [.ref x, .int (iI a), .int (iI k), .int (iI b), .int (iI l)] (mk g I) = some (.inr "java/lang/IllegalArgumentException", mk (gexc g) I) := by
  obtain ⟨h5, hp⟩ := hx
  have f1 := s_needFinger (g := g) (I := I) (x := x) (w := a) (by omega) ha
  have f2 := s_needFinger (g := g) (I := I) (x := x) (w := b) (by omega) hb
  have f3 := s_isWithin (g := g) (I := I) (a := k) (b := 21) (c := 108) (by omega) (by omega) (by omega)
  have f4 := s_isWithin (g := g) (I := I) (a := l) (b := 21) (c := 108) (by omega) (by omega) (by omega)
  by_cases hk : 21 ≤ k ∧ k ≤ 108
  · rw [if_pos hk] at f3
    rw [if_neg (fun z => h ⟨hk, z⟩)] at f4
    simp (maxSteps := 2000000) (disch := first | assumption | omega) only [aft_v, aft_n, aft_t, Nat.add_assoc, Nat.reduceAdd, if_true, if_false, not_true_eq_false, not_false_eq_true, Classical.not_not, Int.reduceAdd, Int.reduceSub, Int.reduceMul, Int.reduceNeg, Int.reduceLT, Int.reduceLE, Int.reduceEq, Int.add_zero, Int.zero_add, Int.sub_zero, c_101, w_101_0, w_101_1, w_101_2, w_101_3, w_101_4, w_101_5, w_101_6, w_101_7, w_101_8, f1, f2, f3, f4]
  · rw [if_neg hk] at f3
    simp (maxSteps := 2000000) (disch := first | assumption | omega) only [aft_v, aft_n, aft_t, Nat.add_assoc, Nat.reduceAdd, if_true, if_false, not_true_eq_false, not_false_eq_true, Classical.not_not, Int.reduceAdd, Int.reduceSub, Int.reduceMul, Int.reduceNeg, Int.reduceLT, Int.reduceLE, Int.reduceEq, Int.add_zero, Int.zero_add, Int.sub_zero, c_101, w_101_0, w_101_1, w_101_2, w_101_3, w_101_4, w_101_5, w_101_6, w_101_7, w_101_8, f1, f2, f3]
end LK
