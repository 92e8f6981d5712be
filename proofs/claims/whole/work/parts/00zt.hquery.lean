/-! The class: what it is asked of its piece. -/
/-- the object and its piece -/
def isHn (g : Gm) (x : Nat) : Prop := g.1 x = sX5 x ∧ isPc g (x + 1)
section HQ
variable {g : Gm} {I : Mm} {x : Nat}
theorem s_needWeight {w : Int} (hr : (-2147483648 ≤ w ∧ w < 2147483648)) (hc : 0 ≤ w ∧ w ≤ 9) : cl 134 [.ref x, .int (iI w)] (mk g I) = some (.inl none, mk g I) := by
  simp (maxSteps := 2000000) (disch := first | assumption | omega) only [aft_v, aft_n, aft_t, Nat.add_assoc, Nat.reduceAdd, if_true, if_false, not_true_eq_false, not_false_eq_true, Classical.not_not, Int.reduceAdd, Int.reduceSub, Int.reduceMul, Int.reduceNeg, Int.reduceLT, Int.reduceLE, Int.reduceEq, Int.add_zero, Int.zero_add, Int.sub_zero, c_134, w_134_0, w_134_1, w_134_2, w_134_3, s_isWithin, if_pos hc]
theorem s_needWeightBad {w : Int} (hr : (-2147483648 ≤ w ∧ w < 2147483648)) (hc : ¬ (0 ≤ w ∧ w ≤ 9)) : cl 134 [.ref x, .int (iI w)] (mk g I) = some (.inr "java/lang/IndexOutOfBoundsException", mk (gexc g) I) := by
  simp (maxSteps := 2000000) (disch := first | assumption | omega) only [aft_v, aft_n, aft_t, Nat.add_assoc, Nat.reduceAdd, if_true, if_false, not_true_eq_false, not_false_eq_true, Classical.not_not, Int.reduceAdd, Int.reduceSub, Int.reduceMul, Int.reduceNeg, Int.reduceLT, Int.reduceLE, Int.reduceEq, Int.add_zero, Int.zero_add, Int.sub_zero, c_134, w_134_0, w_134_1, w_134_2, w_134_3, s_isWithin, if_neg hc]
theorem s_needFinger {w : Int} (hr : (-2147483648 ≤ w ∧ w < 2147483648)) (hc : 1 ≤ w ∧ w ≤ 5) : cl 133 [.ref x, .int (iI w)] (mk g I) = some (.inl none, mk g I) := by
  simp (maxSteps := 2000000) (disch := first | assumption | omega) only [aft_v, aft_n, aft_t, Nat.add_assoc, Nat.reduceAdd, if_true, if_false, not_true_eq_false, not_false_eq_true, Classical.not_not, Int.reduceAdd, Int.reduceSub, Int.reduceMul, Int.reduceNeg, Int.reduceLT, Int.reduceLE, Int.reduceEq, Int.add_zero, Int.zero_add, Int.sub_zero, c_133, w_133_0, w_133_1, w_133_2, w_133_3, s_isWithin, if_pos hc]
theorem s_needFingerBad {w : Int} (hr : (-2147483648 ≤ w ∧ w < 2147483648)) (hc : ¬ (1 ≤ w ∧ w ≤ 5)) : cl 133 [.ref x, .int (iI w)] (mk g I) = some (.inr "java/lang/IndexOutOfBoundsException", mk (gexc g) I) := by
  simp (maxSteps := 2000000) (disch := first | assumption | omega) only [aft_v, aft_n, aft_t, Nat.add_assoc, Nat.reduceAdd, if_true, if_false, not_true_eq_false, not_false_eq_true, Classical.not_not, Int.reduceAdd, Int.reduceSub, Int.reduceMul, Int.reduceNeg, Int.reduceLT, Int.reduceLE, Int.reduceEq, Int.add_zero, Int.zero_add, Int.sub_zero, c_133, w_133_0, w_133_1, w_133_2, w_133_3, s_isWithin, if_neg hc]
theorem s_needEvent {e : Int} (hx : isHn g x) (hr : (-2147483648 ≤ e ∧ e < 2147483648)) (hn : 0 ≤ I (x + 1) 1 ∧ I (x + 1) 1 ≤ 40) (hc : 0 ≤ e ∧ e < I (x + 1) 1) : cl 131 [.ref x, .int (iI e)] (mk g I) = some (.inl none, mk g I) := by
  obtain ⟨h5, hp⟩ := hx
  obtain ⟨p_0, ⟨p_1, q_1, p_2⟩, ⟨p_3, q_3, p_4⟩, ⟨p_5, q_5, p_6⟩, ⟨p_7, q_7, p_8⟩, ⟨p_9, q_9, p_10⟩, ⟨p_11, q_11, p_12⟩, ⟨p_13, q_13, p_14⟩, ⟨p_15, q_15, p_16⟩⟩ := hp
  simp (maxSteps := 2000000) (disch := first | assumption | omega) only [aft_v, aft_n, aft_t, Nat.add_assoc, Nat.reduceAdd, if_true, if_false, not_true_eq_false, not_false_eq_true, Classical.not_not, Int.reduceAdd, Int.reduceSub, Int.reduceMul, Int.reduceNeg, Int.reduceLT, Int.reduceLE, Int.reduceEq, Int.add_zero, Int.zero_add, Int.sub_zero, c_131, w_131_0, w_131_1, w_131_2, w_131_3, s_isWithin, if_pos (show 0 ≤ e ∧ e ≤ I (x + 1) 1 - 1 by omega)]
theorem s_needEventBad {e : Int} (hx : isHn g x) (hr : (-2147483648 ≤ e ∧ e < 2147483648)) (hn : 0 ≤ I (x + 1) 1 ∧ I (x + 1) 1 ≤ 40) (hc : ¬ (0 ≤ e ∧ e < I (x + 1) 1)) : cl 131 [.ref x, .int (iI e)] (mk g I) = some (.inr "java/lang/IndexOutOfBoundsException", mk (gexc g) I) := by
  obtain ⟨h5, hp⟩ := hx
  obtain ⟨p_0, ⟨p_1, q_1, p_2⟩, ⟨p_3, q_3, p_4⟩, ⟨p_5, q_5, p_6⟩, ⟨p_7, q_7, p_8⟩, ⟨p_9, q_9, p_10⟩, ⟨p_11, q_11, p_12⟩, ⟨p_13, q_13, p_14⟩, ⟨p_15, q_15, p_16⟩⟩ := hp
  simp (maxSteps := 2000000) (disch := first | assumption | omega) only [aft_v, aft_n, aft_t, Nat.add_assoc, Nat.reduceAdd, if_true, if_false, not_true_eq_false, not_false_eq_true, Classical.not_not, Int.reduceAdd, Int.reduceSub, Int.reduceMul, Int.reduceNeg, Int.reduceLT, Int.reduceLE, Int.reduceEq, Int.add_zero, Int.zero_add, Int.sub_zero, c_131, w_131_0, w_131_1, w_131_2, w_131_3, s_isWithin, if_neg (show ¬ (0 ≤ e ∧ e ≤ I (x + 1) 1 - 1) by omega)]
theorem s_hcount {c : Int} (hx : isHn g x) (hB : gd I (x + 1)) (hc : 0 ≤ c ∧ c ≤ 6) : cl 96 [.ref x, .int (iI c)] (mk g I) = some (.inl (some (.int (iI (ctS (pv I (x + 1)) c)))), mk g I) := by
  obtain ⟨h5, hp⟩ := hx
  have hp' := hp
  have hg := hB
  obtain ⟨hB, hz⟩ := hB
  have q1 := s_allNotes hp' hB
  have q3 := s_leastKey hp' hB
  have q4 := s_greatestKey hp' hB (fun e a b => (hz e a b).1)
  have q5 := s_blackNotes hp' hB
  have q6 := s_freePassages hp' hB
  obtain ⟨b0, b1, -⟩ := hB
  obtain ⟨p_0, ⟨p_1, q_1, p_2⟩, ⟨p_3, q_3, p_4⟩, ⟨p_5, q_5, p_6⟩, ⟨p_7, q_7, p_8⟩, ⟨p_9, q_9, p_10⟩, ⟨p_11, q_11, p_12⟩, ⟨p_13, q_13, p_14⟩, ⟨p_15, q_15, p_16⟩⟩ := hp
  have e0 : pE (pv I (x + 1)) = I (x + 1) 1 := rfl
  have e1 : pSz (pv I (x + 1)) = I (x + 1 + 2) := rfl
  have e2 : pR (pv I (x + 1)) = I (x + 1) 0 := rfl
  unfold ctS
  rw [e0, e1, e2]
  rcases (show c = 0 ∨ c = 1 ∨ c = 2 ∨ c = 3 ∨ c = 4 ∨ c = 5 ∨ c = 6 by omega) with rfl | rfl | rfl | rfl | rfl | rfl | rfl
  · simp (maxSteps := 2000000) (disch := first | assumption | omega) only [aft_v, aft_n, aft_t, Nat.add_assoc, Nat.reduceAdd, if_true, if_false, not_true_eq_false, not_false_eq_true, Classical.not_not, Int.reduceAdd, Int.reduceSub, Int.reduceMul, Int.reduceNeg, Int.reduceLT, Int.reduceLE, Int.reduceEq, Int.add_zero, Int.zero_add, Int.sub_zero, c_96, w_96_0, w_96_1]
  · simp (maxSteps := 2000000) (disch := first | assumption | omega) only [aft_v, aft_n, aft_t, Nat.add_assoc, Nat.reduceAdd, if_true, if_false, not_true_eq_false, not_false_eq_true, Classical.not_not, Int.reduceAdd, Int.reduceSub, Int.reduceMul, Int.reduceNeg, Int.reduceLT, Int.reduceLE, Int.reduceEq, Int.add_zero, Int.zero_add, Int.sub_zero, c_96, w_96_0, w_96_2, w_96_3, q1, show ¬ (1 : Int) = 0 by decide]
  · rcases b0 with b0 | b0
    · simp (maxSteps := 2000000) (disch := first | assumption | omega) only [aft_v, aft_n, aft_t, Nat.add_assoc, Nat.reduceAdd, if_true, if_false, not_true_eq_false, not_false_eq_true, Classical.not_not, Int.reduceAdd, Int.reduceSub, Int.reduceMul, Int.reduceNeg, Int.reduceLT, Int.reduceLE, Int.reduceEq, Int.add_zero, Int.zero_add, Int.sub_zero, c_96, w_96_0, w_96_4, w_96_5, w_96_6, w_96_7, b0, show ¬ (2 : Int) = 0 by decide, show ¬ (2 : Int) = 1 by decide]
    · simp (maxSteps := 2000000) (disch := first | assumption | omega) only [aft_v, aft_n, aft_t, Nat.add_assoc, Nat.reduceAdd, if_true, if_false, not_true_eq_false, not_false_eq_true, Classical.not_not, Int.reduceAdd, Int.reduceSub, Int.reduceMul, Int.reduceNeg, Int.reduceLT, Int.reduceLE, Int.reduceEq, Int.add_zero, Int.zero_add, Int.sub_zero, c_96, w_96_0, w_96_4, w_96_5, w_96_6, w_96_7, b0, show ¬ (2 : Int) = 0 by decide, show ¬ (2 : Int) = 1 by decide, show ¬ (1 : Int) = 0 by decide]
  · simp (maxSteps := 2000000) (disch := first | assumption | omega) only [aft_v, aft_n, aft_t, Nat.add_assoc, Nat.reduceAdd, if_true, if_false, not_true_eq_false, not_false_eq_true, Classical.not_not, Int.reduceAdd, Int.reduceSub, Int.reduceMul, Int.reduceNeg, Int.reduceLT, Int.reduceLE, Int.reduceEq, Int.add_zero, Int.zero_add, Int.sub_zero, c_96, w_96_0, w_96_8, w_96_9, q3, show ¬ (3 : Int) = 0 by decide, show ¬ (3 : Int) = 1 by decide, show ¬ (3 : Int) = 2 by decide]
  · simp (maxSteps := 2000000) (disch := first | assumption | omega) only [aft_v, aft_n, aft_t, Nat.add_assoc, Nat.reduceAdd, if_true, if_false, not_true_eq_false, not_false_eq_true, Classical.not_not, Int.reduceAdd, Int.reduceSub, Int.reduceMul, Int.reduceNeg, Int.reduceLT, Int.reduceLE, Int.reduceEq, Int.add_zero, Int.zero_add, Int.sub_zero, c_96, w_96_0, w_96_10, w_96_11, q4, show ¬ (4 : Int) = 0 by decide, show ¬ (4 : Int) = 1 by decide, show ¬ (4 : Int) = 2 by decide, show ¬ (4 : Int) = 3 by decide]
  · simp (maxSteps := 2000000) (disch := first | assumption | omega) only [aft_v, aft_n, aft_t, Nat.add_assoc, Nat.reduceAdd, if_true, if_false, not_true_eq_false, not_false_eq_true, Classical.not_not, Int.reduceAdd, Int.reduceSub, Int.reduceMul, Int.reduceNeg, Int.reduceLT, Int.reduceLE, Int.reduceEq, Int.add_zero, Int.zero_add, Int.sub_zero, c_96, w_96_0, w_96_12, w_96_13, q5, show ¬ (5 : Int) = 0 by decide, show ¬ (5 : Int) = 1 by decide, show ¬ (5 : Int) = 2 by decide, show ¬ (5 : Int) = 3 by decide, show ¬ (5 : Int) = 4 by decide]
  · simp (maxSteps := 2000000) (disch := first | assumption | omega) only [aft_v, aft_n, aft_t, Nat.add_assoc, Nat.reduceAdd, if_true, if_false, not_true_eq_false, not_false_eq_true, Classical.not_not, Int.reduceAdd, Int.reduceSub, Int.reduceMul, Int.reduceNeg, Int.reduceLT, Int.reduceLE, Int.reduceEq, Int.add_zero, Int.zero_add, Int.sub_zero, c_96, w_96_0, w_96_14, w_96_15, q6, show ¬ (6 : Int) = 0 by decide, show ¬ (6 : Int) = 1 by decide, show ¬ (6 : Int) = 2 by decide, show ¬ (6 : Int) = 3 by decide, show ¬ (6 : Int) = 4 by decide, show ¬ (6 : Int) = 5 by decide]
theorem s_hcountBad {c : Int} (hr : (-2147483648 ≤ c ∧ c < 2147483648)) (hc : ¬ (0 ≤ c ∧ c ≤ 6)) : cl 96 [.ref x, .int (iI c)] (mk g I) = some (.inr "java/lang/IllegalArgumentException", mk (gexc g) I) := by
  simp (maxSteps := 2000000) (disch := first | assumption | omega) only [aft_v, aft_n, aft_t, Nat.add_assoc, Nat.reduceAdd, if_true, if_false, not_true_eq_false, not_false_eq_true, Classical.not_not, Int.reduceAdd, Int.reduceSub, Int.reduceMul, Int.reduceNeg, Int.reduceLT, Int.reduceLE, Int.reduceEq, Int.add_zero, Int.zero_add, Int.sub_zero, c_96, w_96_0, w_96_16, show ¬ c = 0 by omega, show ¬ c = 1 by omega, show ¬ c = 2 by omega, show ¬ c = 3 by omega, show ¬ c = 4 by omega, show ¬ c = 5 by omega, show ¬ c = 6 by omega]
theorem s_hweight {w : Int} (hx : isHn g x) (hc : 0 ≤ w ∧ w ≤ 9) : cl 99 [.ref x, .int (iI w)] (mk g I) = some (.inl (some (.int (iI (pW (pv I (x + 1)) w)))), mk g I) := by
  obtain ⟨h5, hp⟩ := hx
  obtain ⟨p_0, ⟨p_1, q_1, p_2⟩, ⟨p_3, q_3, p_4⟩, ⟨p_5, q_5, p_6⟩, ⟨p_7, q_7, p_8⟩, ⟨p_9, q_9, p_10⟩, ⟨p_11, q_11, p_12⟩, ⟨p_13, q_13, p_14⟩, ⟨p_15, q_15, p_16⟩⟩ := hp
  have e0 : pW (pv I (x + 1)) w = I (x + 1 + 10) w := rfl
  rw [e0]
  have q := s_needWeight (g := g) (I := I) (x := x) (w := w) (by omega) hc
  have qr : cl 62 [.ref (x + 10), .int (iI w)] (mk g I) = some (.inl (some (.int (iI (I (x + 11) w)))), mk g I) := s_row_get (p := x + 1 + 9) p_9 hc.1 (by omega)
  simp (maxSteps := 2000000) (disch := first | assumption | omega) only [aft_v, aft_n, aft_t, Nat.add_assoc, Nat.reduceAdd, if_true, if_false, not_true_eq_false, not_false_eq_true, Classical.not_not, Int.reduceAdd, Int.reduceSub, Int.reduceMul, Int.reduceNeg, Int.reduceLT, Int.reduceLE, Int.reduceEq, Int.add_zero, Int.zero_add, Int.sub_zero, c_99, w_99_0, w_99_1, w_99_2, q, qr]
theorem s_hweightBad {w : Int} (hx : isHn g x) (hr : (-2147483648 ≤ w ∧ w < 2147483648)) (hc : ¬ (0 ≤ w ∧ w ≤ 9)) : cl 99 [.ref x, .int (iI w)] (mk g I) = some (.inr "java/lang/IndexOutOfBoundsException", mk (gexc g) I) := by
  obtain ⟨h5, hp⟩ := hx
  have q := s_needWeightBad (g := g) (I := I) (x := x) (w := w) hr hc
  simp (maxSteps := 2000000) (disch := first | assumption | omega) only [aft_v, aft_n, aft_t, Nat.add_assoc, Nat.reduceAdd, if_true, if_false, not_true_eq_false, not_false_eq_true, Classical.not_not, Int.reduceAdd, Int.reduceSub, Int.reduceMul, Int.reduceNeg, Int.reduceLT, Int.reduceLE, Int.reduceEq, Int.add_zero, Int.zero_add, Int.sub_zero, c_99, w_99_0, w_99_1, w_99_2, q]
/-- counts of two pieces that agree -/
theorem ct_A {P P' : PT} (h : Agr P P') (hz : ∀ e, 0 ≤ e → e < pE P → 1 ≤ pSz P e) {c : Int} : ctS P c = ctS P' c := by
  have a := lk_A h hz
  have b := gk_A h hz
  have s := sz_A h
  rw [← h.2.1] at a b s
  unfold ctS
  rw [← h.2.1, a, b, s, bl_A h, fp_A h, h.1]
end HQ
