/-! The class: notes; links of the reference and the class. -/
section HQ
variable {g : Gm} {I : Mm} {x : Nat}
theorem s_needNote {e k : Int} (hx : isHn g x) (hB : gd I (x + 1)) (he : 0 ≤ e ∧ e < I (x + 1) 1) (hk : 0 ≤ k ∧ k < I (x + 1 + 2) e) : cl 132 [.ref x, .int (iI e), .int (iI k)] (mk g I) = some (.inl none, mk g I) := by
  have hx' := hx
  obtain ⟨h5, hp⟩ := hx
  obtain ⟨p_0, ⟨p_1, q_1, p_2⟩, ⟨p_3, q_3, p_4⟩, ⟨p_5, q_5, p_6⟩, ⟨p_7, q_7, p_8⟩, ⟨p_9, q_9, p_10⟩, ⟨p_11, q_11, p_12⟩, ⟨p_13, q_13, p_14⟩, ⟨p_15, q_15, p_16⟩⟩ := hp
  obtain ⟨⟨b0, b1, b2, -⟩, hz⟩ := hB
  have hs := b2 e
  have q := s_needEvent (g := g) (I := I) hx' (by omega) b1 he
  have qr : cl 62 [.ref (x + 2), .int (iI e)] (mk g I) = some (.inl (some (.int (iI (I (x + 1 + 2) e)))), mk g I) := s_row_get (p := x + 1 + 1) p_1 he.1 (by omega)
  have qw := s_isWithin (g := g) (I := I) (a := k) (b := 0) (c := I (x + 1 + 2) e - 1) (by omega) (by omega) (by omega)
  rw [if_pos (show 0 ≤ k ∧ k ≤ I (x + 1 + 2) e - 1 by omega)] at qw
  generalize I (x + 1 + 2) e = z at *
  simp (maxSteps := 2000000) (disch := first | assumption | omega) only [aft_v, aft_n, aft_t, Nat.add_assoc, Nat.reduceAdd, if_true, if_false, not_true_eq_false, not_false_eq_true, Classical.not_not, Int.reduceAdd, Int.reduceSub, Int.reduceMul, Int.reduceNeg, Int.reduceLT, Int.reduceLE, Int.reduceEq, Int.add_zero, Int.zero_add, Int.sub_zero, c_132, w_132_0, w_132_1, w_132_2, w_132_3, w_132_4, w_132_5, q, qr, qw]
theorem s_needNoteBad {e k : Int} (hx : isHn g x) (hB : gd I (x + 1)) (hr : (-2147483648 ≤ e ∧ e < 2147483648)) (hr2 : (-2147483648 ≤ k ∧ k < 2147483648)) (h : ¬ ((0 ≤ e ∧ e < I (x + 1) 1) ∧ 0 ≤ k ∧ k < I (x + 1 + 2) e)) : cl 132 [.ref x, .int (iI e), .int (iI k)] (mk g I) = some (.inr "java/lang/IndexOutOfBoundsException", mk (gexc g) I) := by
  have hx' := hx
  obtain ⟨h5, hp⟩ := hx
  obtain ⟨p_0, ⟨p_1, q_1, p_2⟩, ⟨p_3, q_3, p_4⟩, ⟨p_5, q_5, p_6⟩, ⟨p_7, q_7, p_8⟩, ⟨p_9, q_9, p_10⟩, ⟨p_11, q_11, p_12⟩, ⟨p_13, q_13, p_14⟩, ⟨p_15, q_15, p_16⟩⟩ := hp
  obtain ⟨⟨b0, b1, b2, -⟩, hz⟩ := hB
  have hs := b2 e
  by_cases he : 0 ≤ e ∧ e < I (x + 1) 1
  · have q := s_needEvent (g := g) (I := I) hx' (by omega) b1 he
    have qr : cl 62 [.ref (x + 2), .int (iI e)] (mk g I) = some (.inl (some (.int (iI (I (x + 1 + 2) e)))), mk g I) := s_row_get (p := x + 1 + 1) p_1 he.1 (by omega)
    have qw := s_isWithin (g := g) (I := I) (a := k) (b := 0) (c := I (x + 1 + 2) e - 1) (by omega) (by omega) (by omega)
    rw [if_neg (fun z => h ⟨he, z.1, by omega⟩)] at qw
    generalize I (x + 1 + 2) e = z at *
    simp (maxSteps := 2000000) (disch := first | assumption | omega) only [aft_v, aft_n, aft_t, Nat.add_assoc, Nat.reduceAdd, if_true, if_false, not_true_eq_false, not_false_eq_true, Classical.not_not, Int.reduceAdd, Int.reduceSub, Int.reduceMul, Int.reduceNeg, Int.reduceLT, Int.reduceLE, Int.reduceEq, Int.add_zero, Int.zero_add, Int.sub_zero, c_132, w_132_0, w_132_1, w_132_2, w_132_3, w_132_4, w_132_5, q, qr, qw]
  · have q := s_needEventBad (g := g) (I := I) hx' hr b1 he
    simp (maxSteps := 2000000) (disch := first | assumption | omega) only [aft_v, aft_n, aft_t, Nat.add_assoc, Nat.reduceAdd, if_true, if_false, not_true_eq_false, not_false_eq_true, Classical.not_not, Int.reduceAdd, Int.reduceSub, Int.reduceMul, Int.reduceNeg, Int.reduceLT, Int.reduceLE, Int.reduceEq, Int.add_zero, Int.zero_add, Int.sub_zero, c_132, w_132_0, w_132_1, w_132_2, w_132_3, w_132_4, w_132_5, q]
theorem s_hnote {e k w : Int} (hx : isHn g x) (hB : gd I (x + 1)) (he : 0 ≤ e ∧ e < I (x + 1) 1) (hk : 0 ≤ k ∧ k < I (x + 1 + 2) e) (hw : w = 0 ∨ w = 1) : cl 98 [.ref x, .int (iI e), .int (iI k), .int (iI w)] (mk g I) = some (.inl (some (.int (iI (if w = 0 then pKy (pv I (x + 1)) e k else pSe (pv I (x + 1)) e k)))), mk g I) := by
  have q := s_needNote hx hB he hk
  obtain ⟨h5, hp⟩ := hx
  have hp' := hp
  obtain ⟨p_0, ⟨p_1, q_1, p_2⟩, ⟨p_3, q_3, p_4⟩, ⟨p_5, q_5, p_6⟩, ⟨p_7, q_7, p_8⟩, ⟨p_9, q_9, p_10⟩, ⟨p_11, q_11, p_12⟩, ⟨p_13, q_13, p_14⟩, ⟨p_15, q_15, p_16⟩⟩ := hp
  obtain ⟨⟨b0, b1, b2, -⟩, hz⟩ := hB
  have hs := b2 e
  have e0 : pKy (pv I (x + 1)) e k = I (x + 7) (e * 3 + k) := rfl
  have e1 : pSe (pv I (x + 1)) e k = I (x + 9) (e * 3 + k) := rfl
  have q0 : cl 10 [.ref (x + 1), .int (iI e), .int (iI k)] (mk g I) = some (.inl (some (.int (iI (I (x + 7) (e * 3 + k))))), mk g I) := s_keyOf hp' (by omega) (by omega)
  have q1 : cl 62 [.ref (x + 8), .int (iI (e * 3 + k))] (mk g I) = some (.inl (some (.int (iI (I (x + 9) (e * 3 + k))))), mk g I) := s_row_get (p := x + 1 + 7) p_7 (by omega) (by omega)
  rw [e0, e1]
  rcases hw with rfl | rfl
  · rw [if_pos rfl]
    simp (maxSteps := 2000000) (disch := first | assumption | omega) only [aft_v, aft_n, aft_t, Nat.add_assoc, Nat.reduceAdd, if_true, if_false, not_true_eq_false, not_false_eq_true, Classical.not_not, Int.reduceAdd, Int.reduceSub, Int.reduceMul, Int.reduceNeg, Int.reduceLT, Int.reduceLE, Int.reduceEq, Int.add_zero, Int.zero_add, Int.sub_zero, c_98, w_98_0, w_98_1, w_98_2, w_98_3, w_98_4, w_98_5, w_98_6, w_98_7, q, q0]
  · rw [if_neg (by decide)]
    simp (maxSteps := 2000000) (disch := first | assumption | omega) only [aft_v, aft_n, aft_t, Nat.add_assoc, Nat.reduceAdd, if_true, if_false, not_true_eq_false, not_false_eq_true, Classical.not_not, Int.reduceAdd, Int.reduceSub, Int.reduceMul, Int.reduceNeg, Int.reduceLT, Int.reduceLE, Int.reduceEq, Int.add_zero, Int.zero_add, Int.sub_zero, c_98, w_98_0, w_98_1, w_98_2, w_98_3, w_98_4, w_98_5, w_98_6, w_98_7, q, q1, s_placeOf, show ¬ (1 : Int) = 0 by decide]
end HQ
