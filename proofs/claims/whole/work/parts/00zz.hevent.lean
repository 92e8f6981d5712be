/-! The class: questions about an event. -/
section HE
variable {g : Gm} {I : Mm} {x : Nat}
theorem s_hevent01 {e w : Int} (hx : isHn g x) (hB : gd I (x + 1)) (he : 0 ≤ e ∧ e < I (x + 1) 1) (hw : w = 0 ∨ w = 1) : cl 97 [.ref x, .int (iI e), .int (iI w)] (mk g I) = some (.inl (some (.int (iI (if w = 0 then pSz (pv I (x + 1)) e else pRe (pv I (x + 1)) e)))), mk g I) := by
  obtain ⟨⟨b0, b1, -⟩, -⟩ := hB
  have q := s_needEvent (g := g) (I := I) hx (by omega) b1 he
  obtain ⟨h5, hp⟩ := hx
  obtain ⟨p_0, ⟨p_1, q_1, p_2⟩, ⟨p_3, q_3, p_4⟩, ⟨p_5, q_5, p_6⟩, ⟨p_7, q_7, p_8⟩, ⟨p_9, q_9, p_10⟩, ⟨p_11, q_11, p_12⟩, ⟨p_13, q_13, p_14⟩, ⟨p_15, q_15, p_16⟩⟩ := hp
  have q0 : cl 62 [.ref (x + 2), .int (iI e)] (mk g I) = some (.inl (some (.int (iI (pSz (pv I (x + 1)) e)))), mk g I) := s_row_get (p := x + 1 + 1) p_1 he.1 (by omega)
  have q1 : cl 62 [.ref (x + 4), .int (iI e)] (mk g I) = some (.inl (some (.int (iI (pRe (pv I (x + 1)) e)))), mk g I) := s_row_get (p := x + 1 + 3) p_3 he.1 (by omega)
  rcases hw with rfl | rfl
  · rw [if_pos rfl]
    simp (maxSteps := 2000000) (disch := first | assumption | omega) only [aft_v, aft_n, aft_t, Nat.add_assoc, Nat.reduceAdd, if_true, if_false, not_true_eq_false, not_false_eq_true, Classical.not_not, Int.reduceAdd, Int.reduceSub, Int.reduceMul, Int.reduceNeg, Int.reduceLT, Int.reduceLE, Int.reduceEq, Int.add_zero, Int.zero_add, Int.sub_zero, c_97, w_97_0, w_97_1, w_97_2, w_97_3, q, q0]
  · rw [if_neg (by decide)]
    simp (maxSteps := 2000000) (disch := first | assumption | omega) only [aft_v, aft_n, aft_t, Nat.add_assoc, Nat.reduceAdd, if_true, if_false, not_true_eq_false, not_false_eq_true, Classical.not_not, Int.reduceAdd, Int.reduceSub, Int.reduceMul, Int.reduceNeg, Int.reduceLT, Int.reduceLE, Int.reduceEq, Int.add_zero, Int.zero_add, Int.sub_zero, c_97, w_97_0, w_97_1, w_97_4, w_97_5, q, q1, show ¬ (1 : Int) = 0 by decide]
theorem s_hevent2 {e : Int} (hx : isHn g x) (hl : isPl g (x + 35)) (hB : gd I (x + 1)) (ho : plOk x I) (he : 0 ≤ e ∧ e < I (x + 1) 1) :
    ∃ I', cl 97 [.ref x, .int (iI e), .int (iI 2)] (mk g I) = some (.inl (some (.int (iI (cntS (pv I (x + 1)) e)))), mk g I') ∧ frP (x + 35) I I' ∧ Sol (pv I (x + 1)) (x + 35) I' := by
  obtain ⟨I', e1, f, s⟩ := s_hsolve hx hl hB ho
  refine ⟨I', ?_, f, s⟩
  have b1 := hB.1.2.1
  have q := s_needEvent (g := g) (I := I) hx (by omega) b1 he
  have hc : I' (x + 35 + 2) e = cntS (pv I (x + 1)) e := s.cn he.1 he.2
  obtain ⟨h5, hp⟩ := hx
  have h1 : g.1 (x + 35) = sX1 (x + 35) := hl.1
  obtain ⟨l_0, ⟨l_1, m_1, l_2⟩, ⟨l_3, m_3, l_4⟩, ⟨l_5, m_5, l_6⟩, ⟨l_7, m_7, l_8⟩, ⟨l_9, m_9, l_10⟩, ⟨l_11, m_11, l_12⟩, ⟨l_13, m_13, l_14⟩, ⟨l_15, m_15, l_16⟩, ⟨l_17, m_17, l_18⟩, l_19, l_20⟩ := hl
  have q2 : cl 62 [.ref (x + 36), .int (iI e)] (mk g I') = some (.inl (some (.int (iI (cntS (pv I (x + 1)) e)))), mk g I') := by
    rw [← hc]
    exact s_row_get (p := x + 35 + 1) l_1 he.1 (by omega)
  simp (maxSteps := 2000000) (disch := first | assumption | omega) only [aft_v, aft_n, aft_t, Nat.add_assoc, Nat.reduceAdd, if_true, if_false, not_true_eq_false, not_false_eq_true, Classical.not_not, Int.reduceAdd, Int.reduceSub, Int.reduceMul, Int.reduceNeg, Int.reduceLT, Int.reduceLE, Int.reduceEq, Int.add_zero, Int.zero_add, Int.sub_zero, c_97, w_97_0, w_97_1, w_97_6, w_97_7, w_97_8, q, e1, q2, show ¬ (2 : Int) = 0 by decide, show ¬ (2 : Int) = 1 by decide]
theorem s_heventBad {e w : Int} (hx : isHn g x) (hB : gd I (x + 1)) (hr : (-2147483648 ≤ e ∧ e < 2147483648)) (hc : ¬ (0 ≤ e ∧ e < I (x + 1) 1)) : cl 97 [.ref x, .int (iI e), .int (iI w)] (mk g I) = some (.inr "java/lang/IndexOutOfBoundsException", mk (gexc g) I) := by
  have q := s_needEventBad (g := g) (I := I) hx hr hB.1.2.1 hc
  obtain ⟨h5, hp⟩ := hx
  simp (maxSteps := 2000000) (disch := first | assumption | omega) only [aft_v, aft_n, aft_t, Nat.add_assoc, Nat.reduceAdd, if_true, if_false, not_true_eq_false, not_false_eq_true, Classical.not_not, Int.reduceAdd, Int.reduceSub, Int.reduceMul, Int.reduceNeg, Int.reduceLT, Int.reduceLE, Int.reduceEq, Int.add_zero, Int.zero_add, Int.sub_zero, c_97, w_97_0, q]
theorem s_heventBadW {e w : Int} (hx : isHn g x) (hB : gd I (x + 1)) (he : 0 ≤ e ∧ e < I (x + 1) 1) (hrw : (-2147483648 ≤ w ∧ w < 2147483648)) (hw : ¬ (0 ≤ w ∧ w ≤ 2)) : cl 97 [.ref x, .int (iI e), .int (iI w)] (mk g I) = some (.inr "java/lang/IllegalArgumentException", mk (gexc g) I) := by
  have b1 := hB.1.2.1
  have q := s_needEvent (g := g) (I := I) hx (by omega) b1 he
  obtain ⟨h5, hp⟩ := hx
  simp (maxSteps := 2000000) (disch := first | assumption | omega) only [aft_v, aft_n, aft_t, Nat.add_assoc, Nat.reduceAdd, if_true, if_false, not_true_eq_false, not_false_eq_true, Classical.not_not, Int.reduceAdd, Int.reduceSub, Int.reduceMul, Int.reduceNeg, Int.reduceLT, Int.reduceLE, Int.reduceEq, Int.add_zero, Int.zero_add, Int.sub_zero, c_97, w_97_0, w_97_1, w_97_9, q, show ¬ w = 0 by omega, show ¬ w = 1 by omega, show ¬ w = 2 by omega]
end HE
