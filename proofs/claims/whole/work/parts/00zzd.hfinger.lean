/-! The class: the first cheapest fingering's fingers. -/
section HF
variable {g : Gm} {I : Mm} {x : Nat}
theorem s_needFingering (hx : isHn g x) (hl : isPl g (x + 35)) (hB : gd I (x + 1)) (ho : plOk x I) :
    ∃ I', cl 137 [.ref x] (mk g I) = (if lsS (pv I (x + 1)) 0 = -1 then some (.inr "java/util/NoSuchElementException", mk (gexc g) I') else some (.inl none, mk g I')) ∧ frP (x + 35) I I' ∧ Sol (pv I (x + 1)) (x + 35) I' := by
  obtain ⟨I', e, f, s⟩ := s_hsolve hx hl hB ho
  refine ⟨I', ?_, f, s⟩
  obtain ⟨h5, hp⟩ := hx
  have h1 : g.1 (x + 35) = sX1 (x + 35) := hl.1
  have h2 : I' (x + 35) 2 = lsS (pv I (x + 1)) 0 := s.2.2.1
  have hb := ls_b (gd_bd hB) (b := 0)
  by_cases hz : lsS (pv I (x + 1)) 0 = -1
  · rw [if_pos hz]
    simp (maxSteps := 2000000) (disch := first | assumption | omega) only [aft_v, aft_n, aft_t, Nat.add_assoc, Nat.reduceAdd, if_true, if_false, not_true_eq_false, not_false_eq_true, Classical.not_not, Int.reduceAdd, Int.reduceSub, Int.reduceMul, Int.reduceNeg, Int.reduceLT, Int.reduceLE, Int.reduceEq, Int.add_zero, Int.zero_add, Int.sub_zero, c_137, w_137_0, w_137_1, w_137_2, w_137_3, e, h2, hz]
  · rw [if_neg hz]
    simp (maxSteps := 2000000) (disch := first | assumption | omega) only [aft_v, aft_n, aft_t, Nat.add_assoc, Nat.reduceAdd, if_true, if_false, not_true_eq_false, not_false_eq_true, Classical.not_not, Int.reduceAdd, Int.reduceSub, Int.reduceMul, Int.reduceNeg, Int.reduceLT, Int.reduceLE, Int.reduceEq, Int.add_zero, Int.zero_add, Int.sub_zero, c_137, w_137_0, w_137_1, w_137_2, w_137_3, e, h2, hz]
theorem s_hfinger {e k : Int} (hx : isHn g x) (hl : isPl g (x + 35)) (hB : gd I (x + 1)) (ho : plOk x I) (he : 0 ≤ e ∧ e < I (x + 1) 1) (hk : 0 ≤ k ∧ k < I (x + 1 + 2) e) (hz : ¬ lsS (pv I (x + 1)) 0 = -1) :
    ∃ I', cl 103 [.ref x, .int (iI e), .int (iI k)] (mk g I) = some (.inl (some (.int (iI (fgP (pv I (x + 1)) e (fsS (pv I (x + 1)) e) k)))), mk g I') ∧ frP (x + 35) I I' ∧ Sol (pv I (x + 1)) (x + 35) I' := by
  obtain ⟨I', e1, f, s⟩ := s_needFingering hx hl hB ho
  rw [if_neg hz] at e1
  refine ⟨I', ?_, f, s⟩
  have q := s_needNote hx hB he hk
  have q2 := s_firstFinger (g := g) (I := I') (l := x + 35) (e := e) (k := k) hl (gd_bd hB) s hz he hk
  obtain ⟨h5, hp⟩ := hx
  have h1 : g.1 (x + 35) = sX1 (x + 35) := hl.1
  simp (maxSteps := 2000000) (disch := first | assumption | omega) only [aft_v, aft_n, aft_t, Nat.add_assoc, Nat.reduceAdd, if_true, if_false, not_true_eq_false, not_false_eq_true, Classical.not_not, Int.reduceAdd, Int.reduceSub, Int.reduceMul, Int.reduceNeg, Int.reduceLT, Int.reduceLE, Int.reduceEq, Int.add_zero, Int.zero_add, Int.sub_zero, c_103, w_103_0, w_103_1, w_103_2, w_103_3, q, e1, q2]
end HF
