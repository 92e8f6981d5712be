/-! The reference: the least cost. -/
section MB
variable {g : Gm} {I : Mm} {m : Nat} {P : PT}
theorem far_back {x A : Int} (h : -1 ≤ x ∧ x ≤ A) (hA : A < 1000000000) : (if 1000000000 ≤ farS x then -1 else farS x) = x := by
  unfold farS
  by_cases hx : x = -1
  · rw [if_pos hx, if_pos (Int.le_refl _), hx]
  · rw [if_neg hx, if_neg (by omega)]
theorem s_bestM {L : Nat → Int → Int} (hm : isM g m) (hW : Wf P) (hP : P = mv I m) (hbd : bdP P) :
    ∃ I' L', cl 226 [.ref m] (mk (gL g L) I) = some (.inl (some (.int (iI (lsS P 0)))), mk (gL g L') I') ∧ frM m (upd2 I m 7 0) I' ∧ frML m L L' := by
  obtain ⟨J, L1, e, f1, f2, -⟩ := s_bestNow (g := g) (I := upd2 I m 7 0) (L := L) hm hW (by rw [mv_u]; exact hP)
  refine ⟨J, L1, ?_, f1, f2⟩
  have hb := ls_b hbd (b := 0)
  have hf := far_b hb (by decide)
  have q := s_orNone (g := gL g L1) (I := J) (a := farS (lsS P 0)) (by omega)
  rw [far_back hb (by decide)] at q
  have h6 : (gL g L).1 m = sX6 m := hm.1
  refine (c_226).trans ?_
  simp (maxSteps := 2000000) (disch := first | assumption | omega | (simp (disch := omega) only [gL_gL, gL_21, gtL, gnL, gL_1, gL_gL, gL_21, upd2_p]; first | assumption | omega)) only [gL_gL, gL_21, aft_v, aft_n, aft_t, Nat.add_assoc, Nat.reduceAdd, if_true, if_false, not_true_eq_false, not_false_eq_true, Classical.not_not, Int.reduceAdd, Int.reduceSub, Int.reduceMul, Int.reduceNeg, Int.reduceLT, Int.reduceLE, Int.reduceEq, Int.add_zero, Int.zero_add, Int.sub_zero, w_226_0, w_226_1, w_226_2, e, q]
end MB
