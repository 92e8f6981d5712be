/-! The reference: questions about an event. -/
section ME
variable {g : Gm} {I : Mm} {m : Nat} {P : PT}
theorem s_eventM {e w : Int} (hm : isM g m) (hW : Wf P) (hP : P = mv I m) (he : 0 ≤ e ∧ e < I (m + 1) 0) (hw : 0 ≤ w ∧ w ≤ 2) :
    ∃ I', cl 220 [.ref m, .int (iI e), .int (iI w)] (mk g I) = some (.inl (some (.int (iI (if w = 0 then pSz P e else if w = 1 then pRe P e else cntS P e)))), mk g I') ∧ ∀ p, ¬ p = m + 8 → ¬ p = m + 9 → ¬ p = m + 10 → ¬ p = m + 11 → I' p = upd2 I m 7 0 p := by
  have hn : 0 ≤ I (m + 1) 0 ∧ I (m + 1) 0 ≤ 40 := by
    have := hW.2.1; rw [hP] at this; exact this
  obtain ⟨J, j1, j2, j3⟩ := s_laysShapes (P := P) (g := g) (I := upd2 I m 7 0) hm (by rw [mv_u, ← hP]; exact hW) (by rw [mv_u]; exact hP)
  refine ⟨J, ?_, j2⟩
  have j3 := (j3 e he.1 (by rw [hP]; exact he.2)).1
  have jm : J (m + 1) = I (m + 1) := by
    rw [j2 (m + 1) (by omega) (by omega) (by omega) (by omega)]; exact funext fun j => mv_z
  have hm' := hm
  have q := s_isEvent (I := I) hm' (e := e) (by omega) hn
  rw [if_pos he] at q
  have u7 : upd2 I m 7 0 m 7 = 0 := upd2_at
  have qi := s_isIn (g := g) (I := I) (a := w) (b := 0) (c := 2) (by omega) (by omega) (by omega)
  rw [if_pos hw] at qi
  have r0 := s_notesOf (I := J) (e := e) hm' (by omega)
  have r1 := s_restOf (I := J) (e := e) hm' (by omega)
  rw [jm] at r0 r1
  have e0 : pSz P e = I (m + 1) (42 + 8 * e) := by rw [hP]; rfl
  have e1 : pRe P e = I (m + 1) (42 + 8 * e + 1) := by rw [hP]; rfl
  obtain ⟨t_0, ⟨t_1, d_1, n_1⟩, ⟨t_2, d_2, n_2⟩, ⟨t_3, d_3, n_3⟩, ⟨t_4, d_4, n_4⟩, ⟨t_5, d_5, n_5⟩, ⟨t_6, n_6⟩, ⟨t_7, d_7, n_7⟩, ⟨t_8, d_8, n_8⟩, ⟨t_9, d_9, n_9⟩, ⟨t_10, d_10, n_10⟩, ⟨t_11, d_11, n_11⟩, ⟨t_12, d_12, n_12⟩, ⟨t_13, d_13, n_13⟩, ⟨t_14, d_14, n_14⟩, ⟨t_15, n_15⟩, ⟨t_16, n_16⟩, ⟨t_17, d_17, n_17⟩, ⟨t_18, d_18, n_18⟩⟩ := hm
  rcases (show w = 0 ∨ w = 1 ∨ w = 2 by omega) with rfl | rfl | rfl
  · rw [if_pos rfl, e0]
    simp (maxSteps := 2000000) (disch := first | assumption | omega) only [aft_v, aft_n, aft_t, Nat.add_assoc, Nat.reduceAdd, if_true, if_false, not_true_eq_false, not_false_eq_true, Classical.not_not, Int.reduceAdd, Int.reduceSub, Int.reduceMul, Int.reduceNeg, Int.reduceLT, Int.reduceLE, Int.reduceEq, Int.add_zero, Int.zero_add, Int.sub_zero, c_220, w_220_0, w_220_1, w_220_2, w_220_3, w_220_4, w_220_5, w_220_6, w_220_7, w_220_8, w_220_9, w_220_10, w_220_11, w_220_12, w_220_13, w_220_14, w_220_15, w_220_16, w_220_17, q, qi, u7, j1, r0, if_pos (Int.le_refl 0)]
  · rw [if_neg (by decide), if_pos rfl, e1]
    simp (maxSteps := 2000000) (disch := first | assumption | omega) only [aft_v, aft_n, aft_t, Nat.add_assoc, Nat.reduceAdd, if_true, if_false, not_true_eq_false, not_false_eq_true, Classical.not_not, Int.reduceAdd, Int.reduceSub, Int.reduceMul, Int.reduceNeg, Int.reduceLT, Int.reduceLE, Int.reduceEq, Int.add_zero, Int.zero_add, Int.sub_zero, c_220, w_220_0, w_220_1, w_220_2, w_220_3, w_220_4, w_220_5, w_220_6, w_220_7, w_220_8, w_220_9, w_220_10, w_220_11, w_220_12, w_220_13, w_220_14, w_220_15, w_220_16, w_220_17, q, qi, u7, j1, r1, if_pos (Int.le_refl 0), show ¬ (1 : Int) = 0 by decide]
  · rw [if_neg (by decide), if_neg (by decide)]
    simp (maxSteps := 2000000) (disch := first | assumption | omega) only [aft_v, aft_n, aft_t, Nat.add_assoc, Nat.reduceAdd, if_true, if_false, not_true_eq_false, not_false_eq_true, Classical.not_not, Int.reduceAdd, Int.reduceSub, Int.reduceMul, Int.reduceNeg, Int.reduceLT, Int.reduceLE, Int.reduceEq, Int.add_zero, Int.zero_add, Int.sub_zero, c_220, w_220_0, w_220_1, w_220_2, w_220_3, w_220_4, w_220_5, w_220_6, w_220_7, w_220_8, w_220_9, w_220_10, w_220_11, w_220_12, w_220_13, w_220_14, w_220_15, w_220_16, w_220_17, q, qi, u7, j1, j3, if_pos (Int.le_refl 0), show ¬ (2 : Int) = 0 by decide, show ¬ (2 : Int) = 1 by decide]
end ME
