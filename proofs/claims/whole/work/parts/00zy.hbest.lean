/-! The class: the least cost, event questions. -/
/-- the plan is not solved, or solved for the piece -/
def plOk (x : Nat) (I : Mm) : Prop := I (x + 35) 0 = 0 ∨ Sol (pv I (x + 1)) (x + 35) I
section HB
variable {g : Gm} {I : Mm} {x : Nat}
theorem frP_pv {l q : Nat} {I I' : Mm} (h : frP l I I') (hq : q + 17 ≤ l) : pv I' q = pv I q := by
  unfold pv
  rw [h q (by omega), h (q + 2) (by omega), h (q + 4) (by omega), h (q + 6) (by omega), h (q + 8) (by omega), h (q + 10) (by omega), h (q + 12) (by omega), h (q + 14) (by omega), h (q + 16) (by omega)]
theorem s_hsolve (hx : isHn g x) (hl : isPl g (x + 35)) (hB : gd I (x + 1)) (ho : plOk x I) :
    ∃ I', cl 30 [.ref (x + 35), .ref (x + 1)] (mk g I) = some (.inl none, mk g I') ∧ frP (x + 35) I I' ∧ Sol (pv I (x + 1)) (x + 35) I' := by
  rcases ho with h | h
  · exact s_solve0 hx.2 hl hB rfl (Or.inl (by omega)) h
  · exact ⟨I, s_solve1 hl h.1, fun _ _ => rfl, h⟩
theorem s_hbest (hx : isHn g x) (hl : isPl g (x + 35)) (hB : gd I (x + 1)) (ho : plOk x I) :
    ∃ I', cl 102 [.ref x] (mk g I) = some (.inl (some (.int (iI (lsS (pv I (x + 1)) 0)))), mk g I') ∧ frP (x + 35) I I' ∧ Sol (pv I (x + 1)) (x + 35) I' := by
  obtain ⟨I', e, f, s⟩ := s_hsolve hx hl hB ho
  refine ⟨I', ?_, f, s⟩
  obtain ⟨h5, hp⟩ := hx
  have h1 : g.1 (x + 35) = sX1 (x + 35) := hl.1
  have h2 : I' (x + 35) 2 = lsS (pv I (x + 1)) 0 := s.2.2.1
  simp (maxSteps := 2000000) (disch := first | assumption | omega) only [aft_v, aft_n, aft_t, Nat.add_assoc, Nat.reduceAdd, if_true, if_false, not_true_eq_false, not_false_eq_true, Classical.not_not, Int.reduceAdd, Int.reduceSub, Int.reduceMul, Int.reduceNeg, Int.reduceLT, Int.reduceLE, Int.reduceEq, Int.add_zero, Int.zero_add, Int.sub_zero, c_102, w_102_0, w_102_1, e, h2]
end HB
