/-! The class: how many fingerings. -/
section HM
variable {g : Gm} {I : Mm} {x : Nat}
theorem s_hmany {ch : Int} (hx : isHn g x) (hl : isPl g (x + 35)) (hB : gd I (x + 1)) (ho : plOk x I) (hch : ch = 0 ∨ ch = 1) :
    ∃ I' L, cl 105 [.ref x, .int (iI ch)] (mk g I) = some (.inl (some (.long (lI (wyS (pv I (x + 1)) ch)))), mk (gL g L) I') ∧ frP (x + 35) I I' ∧ Sol (pv I (x + 1)) (x + 35) I' ∧ ∀ p, ¬ p = x + 35 + 19 → L p = g.2.1 p := by
  obtain ⟨I', e, f, s⟩ := s_hsolve hx hl hB ho
  obtain ⟨L, e2, h2⟩ := s_countWays (g := g) (I := I') (l := x + 35) (ch := ch) hl (gd_bd hB) s hch
  refine ⟨I', L, ?_, f, s, h2⟩
  obtain ⟨h5, hp⟩ := hx
  have h1 : g.1 (x + 35) = sX1 (x + 35) := hl.1
  simp (maxSteps := 2000000) (disch := first | assumption | omega) only [aft_v, aft_n, aft_t, Nat.add_assoc, Nat.reduceAdd, if_true, if_false, not_true_eq_false, not_false_eq_true, Classical.not_not, Int.reduceAdd, Int.reduceSub, Int.reduceMul, Int.reduceNeg, Int.reduceLT, Int.reduceLE, Int.reduceEq, Int.add_zero, Int.zero_add, Int.sub_zero, c_105, w_105_0, w_105_1, w_105_2, e, e2]
end HM
