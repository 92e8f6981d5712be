/-! Spans, of both. -/
def spS (P : PT) (a b w : Int) : Int := if w = 0 then pLo P a b else if w = 1 then pHi P a b else pLi P a b
theorem sp_A {P P' : PT} (h : Agr P P') {a b w : Int} (ha : 1 ≤ a ∧ a ≤ 5) (hb : 1 ≤ b ∧ b ≤ 5) (hab : ¬ a = b) : spS P a b w = spS P' a b w := by
  obtain ⟨h1, h2, h3⟩ := h.2.2.2.2 a b ha.1 ha.2 hb.1 hb.2 hab
  unfold spS
  rw [h1, h2, h3]
section SP
variable {g : Gm} {I : Mm} {m x : Nat}
theorem s_spanM {a b w : Int} (hm : isM g m) (ha : 1 ≤ a ∧ a ≤ 5) (hb : 1 ≤ b ∧ b ≤ 5) (hab : ¬ a = b) (hw : 0 ≤ w ∧ w ≤ 2) : cl 223 [.ref m, .int (iI a), .int (iI b), .int (iI w)] (mk g I) = some (.inl (some (.int (iI (spS (mv I m) a b w)))), mk g (upd2 I m 7 0)) := by
  have hm' := hm
  obtain ⟨t_0, ⟨t_1, d_1, n_1⟩, ⟨t_2, d_2, n_2⟩, ⟨t_3, d_3, n_3⟩, ⟨t_4, d_4, n_4⟩, ⟨t_5, d_5, n_5⟩, ⟨t_6, n_6⟩, ⟨t_7, d_7, n_7⟩, ⟨t_8, d_8, n_8⟩, ⟨t_9, d_9, n_9⟩, ⟨t_10, d_10, n_10⟩, ⟨t_11, d_11, n_11⟩, ⟨t_12, d_12, n_12⟩, ⟨t_13, d_13, n_13⟩, ⟨t_14, d_14, n_14⟩, ⟨t_15, n_15⟩, ⟨t_16, n_16⟩, ⟨t_17, d_17, n_17⟩, ⟨t_18, d_18, n_18⟩⟩ := hm
  have u7 : upd2 I m 7 0 m 7 = 0 := upd2_at
  have hp := prS_b ha hb hab
  have f1 := s_isFinger (g := g) (I := I) (a := a) (by omega)
  have f2 := s_isFinger (g := g) (I := I) (a := b) (by omega)
  rw [if_pos ha] at f1
  rw [if_pos hb] at f2
  have qi := s_isIn (g := g) (I := I) (a := w) (b := 0) (c := 2) (by omega) (by omega) (by omega)
  rw [if_pos hw] at qi
  have qp := s_pairOfM (g := g) (I := upd2 I m 7 0) ha hb
  have e : spS (mv I m) a b w = I (m + 1) (prS a b + w) := by
    rcases (show w = 0 ∨ w = 1 ∨ w = 2 by omega) with rfl | rfl | rfl
    · rw [Int.add_zero]; rfl
    · rfl
    · rfl
  have z := mv_z (I := I) (m := m) (i := 7) (v := 0) (j := prS a b + w)
  rw [e]
  generalize prS a b = pr at *
  simp (maxSteps := 2000000) (disch := first | assumption | omega) only [aft_v, aft_n, aft_t, Nat.add_assoc, Nat.reduceAdd, if_true, if_false, not_true_eq_false, not_false_eq_true, Classical.not_not, Int.reduceAdd, Int.reduceSub, Int.reduceMul, Int.reduceNeg, Int.reduceLT, Int.reduceLE, Int.reduceEq, Int.add_zero, Int.zero_add, Int.sub_zero, c_223, w_223_0, w_223_1, w_223_2, w_223_3, w_223_4, w_223_5, w_223_6, w_223_7, w_223_8, w_223_9, w_223_10, w_223_11, w_223_12, w_223_13, w_223_14, f1, f2, qi, qp, u7, z, hab, if_pos (Int.le_refl 0)]
theorem s_hspan {a b w : Int} (hx : isHn g x) (ha : 1 ≤ a ∧ a ≤ 5) (hb : 1 ≤ b ∧ b ≤ 5) (hab : ¬ a = b) (hw : 0 ≤ w ∧ w ≤ 2) : cl 100 [.ref x, .int (iI a), .int (iI b), .int (iI w)] (mk g I) = some (.inl (some (.int (iI (spS (pv I (x + 1)) a b w)))), mk g I) := by
  obtain ⟨h5, hp⟩ := hx
  obtain ⟨p_0, ⟨p_1, q_1, p_2⟩, ⟨p_3, q_3, p_4⟩, ⟨p_5, q_5, p_6⟩, ⟨p_7, q_7, p_8⟩, ⟨p_9, q_9, p_10⟩, ⟨p_11, q_11, p_12⟩, ⟨p_13, q_13, p_14⟩, ⟨p_15, q_15, p_16⟩⟩ := hp
  have f1 := s_needFinger (g := g) (I := I) (x := x) (w := a) (by omega) ha
  have f2 := s_needFinger (g := g) (I := I) (x := x) (w := b) (by omega) hb
  have q0 : cl 62 [.ref (x + 12), .int (iI ((a - 1) * 5 + b - 1))] (mk g I) = some (.inl (some (.int (iI (pLo (pv I (x + 1)) a b)))), mk g I) := s_row_get (p := x + 1 + 11) p_11 (by omega) (by omega)
  have q1 : cl 62 [.ref (x + 14), .int (iI ((a - 1) * 5 + b - 1))] (mk g I) = some (.inl (some (.int (iI (pHi (pv I (x + 1)) a b)))), mk g I) := s_row_get (p := x + 1 + 13) p_13 (by omega) (by omega)
  have q2 : cl 62 [.ref (x + 16), .int (iI ((a - 1) * 5 + b - 1))] (mk g I) = some (.inl (some (.int (iI (pLi (pv I (x + 1)) a b)))), mk g I) := s_row_get (p := x + 1 + 15) p_15 (by omega) (by omega)
  have qp := s_pairOf (g := g) (I := I) (a := a) (b := b)
  unfold spS
  generalize (a - 1) * 5 + b - 1 = pr at *
  rcases (show w = 0 ∨ w = 1 ∨ w = 2 by omega) with rfl | rfl | rfl
  · rw [if_pos rfl]
    simp (maxSteps := 2000000) (disch := first | assumption | omega) only [aft_v, aft_n, aft_t, Nat.add_assoc, Nat.reduceAdd, if_true, if_false, not_true_eq_false, not_false_eq_true, Classical.not_not, Int.reduceAdd, Int.reduceSub, Int.reduceMul, Int.reduceNeg, Int.reduceLT, Int.reduceLE, Int.reduceEq, Int.add_zero, Int.zero_add, Int.sub_zero, c_100, w_100_0, w_100_1, w_100_2, w_100_4, w_100_5, w_100_6, w_100_7, f1, f2, qp, q0, hab]
  · rw [if_neg (by decide), if_pos rfl]
    simp (maxSteps := 2000000) (disch := first | assumption | omega) only [aft_v, aft_n, aft_t, Nat.add_assoc, Nat.reduceAdd, if_true, if_false, not_true_eq_false, not_false_eq_true, Classical.not_not, Int.reduceAdd, Int.reduceSub, Int.reduceMul, Int.reduceNeg, Int.reduceLT, Int.reduceLE, Int.reduceEq, Int.add_zero, Int.zero_add, Int.sub_zero, c_100, w_100_0, w_100_1, w_100_2, w_100_4, w_100_8, w_100_9, w_100_10, f1, f2, qp, q1, hab, show ¬ (1 : Int) = 0 by decide]
  · rw [if_neg (by decide), if_neg (by decide)]
    simp (maxSteps := 2000000) (disch := first | assumption | omega) only [aft_v, aft_n, aft_t, Nat.add_assoc, Nat.reduceAdd, if_true, if_false, not_true_eq_false, not_false_eq_true, Classical.not_not, Int.reduceAdd, Int.reduceSub, Int.reduceMul, Int.reduceNeg, Int.reduceLT, Int.reduceLE, Int.reduceEq, Int.add_zero, Int.zero_add, Int.sub_zero, c_100, w_100_0, w_100_1, w_100_2, w_100_4, w_100_11, w_100_12, w_100_13, f1, f2, qp, q2, hab, show ¬ (2 : Int) = 0 by decide, show ¬ (2 : Int) = 1 by decide]
end SP
