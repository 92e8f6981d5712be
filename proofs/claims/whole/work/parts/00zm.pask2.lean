/-! Piece: black notes; the shift; the first weights and spans. -/
/-- the first places' keys moved by d -/
def shM (I : Mm) (q : Nat) (d t : Int) : Mm := fun p i => if (p = q + 6 ∧ 0 ≤ i ∧ i < t) ∧ i % 3 < I (q + 2) (i / 3) then I p i + d else I p i
theorem shM_0 {I : Mm} {q : Nat} {d : Int} : shM I q d 0 = I := by funext p i; exact if_neg (by omega)
theorem shM_p {I : Mm} {q p : Nat} {d t i : Int} (h : ¬ p = q + 6) : shM I q d t p i = I p i := if_neg (fun z => h z.1.1)
theorem shM_at {I : Mm} {q : Nat} {d t i : Int} (h : t ≤ i) : shM I q d t (q + 6) i = I (q + 6) i := if_neg (by omega)
theorem shM_s {I : Mm} {q : Nat} {d e k : Int} (he : 0 ≤ e) (hk : 0 ≤ k) (hk3 : k < 3) (hs : k < I (q + 2) e) : upd2 (shM I q d (e * 3 + k)) (q + 6) (e * 3 + k) (I (q + 6) (e * 3 + k) + d) = shM I q d (e * 3 + (k + 1)) := by
  funext p i
  by_cases hp : p = q + 6
  · subst hp
    by_cases hi : i = e * 3 + k
    · subst hi
      have a1 : (e * 3 + k) % 3 = k := by omega
      have a2 : (e * 3 + k) / 3 = e := by omega
      rw [upd2_at]
      exact (if_pos ⟨⟨rfl, by omega, by omega⟩, by rw [a1, a2]; exact hs⟩).symm
    · rw [upd2_i hi]
      show (if ((q + 6 = q + 6 ∧ 0 ≤ i ∧ i < e * 3 + k) ∧ i % 3 < I (q + 2) (i / 3)) then I (q + 6) i + d else I (q + 6) i) = (if ((q + 6 = q + 6 ∧ 0 ≤ i ∧ i < e * 3 + (k + 1)) ∧ i % 3 < I (q + 2) (i / 3)) then I (q + 6) i + d else I (q + 6) i)
      by_cases hl : i < e * 3 + k
      · by_cases h2 : 0 ≤ i ∧ i % 3 < I (q + 2) (i / 3)
        · rw [if_pos ⟨⟨rfl, h2.1, hl⟩, h2.2⟩, if_pos ⟨⟨rfl, h2.1, by omega⟩, h2.2⟩]
        · rw [if_neg (fun z => h2 ⟨z.1.2.1, z.2⟩), if_neg (fun z => h2 ⟨z.1.2.1, z.2⟩)]
      · rw [if_neg (fun z => hl z.1.2.2), if_neg (fun z => by have := z.1.2.2; omega)]
  · rw [upd2_p hp, shM_p hp, shM_p hp]
theorem shM_e {I : Mm} {q : Nat} {d e k : Int} (he : 0 ≤ e) (hk : k = I (q + 2) e) (hk0 : 0 ≤ k) (hk3 : k ≤ 3) : shM I q d (e * 3 + k) = shM I q d ((e + 1) * 3 + 0) := by
  funext p i
  by_cases hp : p = q + 6
  · subst hp
    show (if ((q + 6 = q + 6 ∧ 0 ≤ i ∧ i < e * 3 + k) ∧ i % 3 < I (q + 2) (i / 3)) then I (q + 6) i + d else I (q + 6) i) = (if ((q + 6 = q + 6 ∧ 0 ≤ i ∧ i < (e + 1) * 3 + 0) ∧ i % 3 < I (q + 2) (i / 3)) then I (q + 6) i + d else I (q + 6) i)
    by_cases h2 : 0 ≤ i ∧ i % 3 < I (q + 2) (i / 3)
    · by_cases hl : i < e * 3 + k
      · rw [if_pos ⟨⟨rfl, h2.1, hl⟩, h2.2⟩, if_pos ⟨⟨rfl, h2.1, by omega⟩, h2.2⟩]
      · rw [if_neg (fun z => hl z.1.2.2), if_neg (fun z => by
          have z1 := z.1.2.2
          have a2 : i / 3 = e := by omega
          have z2 := z.2
          rw [a2] at z2
          omega)]
    · rw [if_neg (fun z => h2 ⟨z.1.2.1, z.2⟩), if_neg (fun z => h2 ⟨z.1.2.1, z.2⟩)]
  · rw [shM_p hp, shM_p hp]
section PA
variable {g : Gm} {I : Mm} {q : Nat}
theorem s_blackNotes (hp : isPc g q) (hB : pB I q) : cl 14 [.ref q] (mk g I) = some (.inl (some (.int (iI (blP (pv I q))))), mk g I) := by
  have hp' := hp
  obtain ⟨p_0, ⟨p_1, q_1, p_2⟩, ⟨p_3, q_3, p_4⟩, ⟨p_5, q_5, p_6⟩, ⟨p_7, q_7, p_8⟩, ⟨p_9, q_9, p_10⟩, ⟨p_11, q_11, p_12⟩, ⟨p_13, q_13, p_14⟩, ⟨p_15, q_15, p_16⟩⟩ := hp
  obtain ⟨b0, b1, b2, b3, b4, b5, b6, b7, b8, b9⟩ := hB
  have blb : ∀ i, 0 ≤ blE (pv I q) i ∧ blE (pv I q) i ≤ 3 := fun i => by
    have h2 := b2 i
    have := sumI_b (f := fun k => bkI (pKy (pv I q) i k)) (A := 0) (B := 1) (n := I (q + 2) i) h2.1 (fun k _ _ => bkI_b)
    show 0 ≤ sumI (fun k => bkI (pKy (pv I q) i k)) (I (q + 2) i) ∧ sumI (fun k => bkI (pKy (pv I q) i k)) (I (q + 2) i) ≤ 3
    omega
  have key := loop_up (σ := Option Value) (head := fun i o => rn 14 1 [some (.ref q), some (.int (iI (sumI (blE (pv I q)) i))), some (.int (iI i)), o] [] (mk g I)) (Inv := fun i _ => 0 ≤ i) (n := I q 1) (by
    intro i o hi h
    have hb := sumI_b (f := blE (pv I q)) (A := 0) (B := 3) (n := i) h (fun i _ _ => blb i)
    have h2 := b2 i
    have inner := loop_up (σ := Unit) (head := fun k _ => rn 14 3 [some (.ref q), some (.int (iI (sumI (blE (pv I q)) i + sumI (fun k => bkI (I (q + 6) (i * 3 + k))) k))), some (.int (iI i)), some (.int (iI k))] [] (mk g I)) (Inv := fun k _ => 0 ≤ k) (n := I (q + 2) i) (by
      intro k _ hk k0
      have hk2 := b4 (i * 3 + k)
      refine ⟨(), ?_, by omega⟩
      show rn _ _ _ _ _ = rn _ _ _ _ _
      rw [sumI_s k0, ← Int.add_assoc]
      refine (w_14_3 (by first | assumption | omega) (by first | assumption | omega)).trans ?_
      simp (maxSteps := 2000000) (disch := first | assumption | omega) only [aft_v, aft_n, aft_t, Nat.add_assoc, Nat.reduceAdd, if_true, if_false, not_true_eq_false, not_false_eq_true, Classical.not_not, Int.reduceAdd, Int.reduceSub, Int.reduceMul, Int.reduceNeg, Int.reduceLT, Int.reduceLE, Int.reduceEq, Int.add_zero, Int.zero_add, Int.sub_zero, w_14_4, s_row_get, if_neg (show ¬ I (q + 2) i ≤ k by omega)]
      by_cases hc : I (q + 6) (i * 3 + k) % 12 = 1 ∨ I (q + 6) (i * 3 + k) % 12 = 3 ∨ I (q + 6) (i * 3 + k) % 12 = 6 ∨ I (q + 6) (i * 3 + k) % 12 = 8 ∨ I (q + 6) (i * 3 + k) % 12 = 10
      · have hz : bkI (I (q + 6) (i * 3 + k)) = 1 := if_pos hc
        simp (maxSteps := 2000000) (disch := first | assumption | omega) only [aft_v, aft_n, aft_t, Nat.add_assoc, Nat.reduceAdd, if_true, if_false, not_true_eq_false, not_false_eq_true, Classical.not_not, Int.reduceAdd, Int.reduceSub, Int.reduceMul, Int.reduceNeg, Int.reduceLT, Int.reduceLE, Int.reduceEq, Int.add_zero, Int.zero_add, Int.sub_zero, w_14_5, w_14_6, w_14_7, w_14_8, w_14_9, w_14_10, s_keyOf hp', s_isBlack, hz]
      · have hz : bkI (I (q + 6) (i * 3 + k)) = 0 := if_neg hc
        simp (maxSteps := 2000000) (disch := first | assumption | omega) only [aft_v, aft_n, aft_t, Nat.add_assoc, Nat.reduceAdd, if_true, if_false, not_true_eq_false, not_false_eq_true, Classical.not_not, Int.reduceAdd, Int.reduceSub, Int.reduceMul, Int.reduceNeg, Int.reduceLT, Int.reduceLE, Int.reduceEq, Int.add_zero, Int.zero_add, Int.sub_zero, w_14_5, w_14_6, w_14_7, w_14_8, w_14_9, w_14_10, s_keyOf hp', s_isBlack, hz]) 0 () (by omega) (by omega)
    obtain ⟨-, e1, -⟩ := inner
    have e1 : rn 14 3 [some (.ref q), some (.int (iI (sumI (blE (pv I q)) i + 0))), some (.int (iI i)), some (.int (iI 0))] [] (mk g I) = rn 14 3 [some (.ref q), some (.int (iI (sumI (blE (pv I q)) i + blE (pv I q) i))), some (.int (iI i)), some (.int (iI (I (q + 2) i)))] [] (mk g I) := e1
    rw [Int.add_zero] at e1
    refine ⟨some (.int (iI (I (q + 2) i))), ?_, by omega⟩
    show rn _ _ _ _ _ = rn _ _ _ _ _
    rw [sumI_s h]
    refine (w_14_1 (by first | assumption | omega) (by first | assumption | omega) (by first | assumption | omega) (by first | assumption | omega) (by first | assumption | omega)).trans ?_
    refine (if_neg (by omega)).trans ?_
    refine (w_14_2).trans ?_
    rw [e1]
    refine (w_14_3 (by first | assumption | omega) (by first | assumption | omega)).trans ?_
    simp (maxSteps := 2000000) (disch := first | assumption | omega) only [aft_v, aft_n, aft_t, Nat.add_assoc, Nat.reduceAdd, if_true, if_false, not_true_eq_false, not_false_eq_true, Classical.not_not, Int.reduceAdd, Int.reduceSub, Int.reduceMul, Int.reduceNeg, Int.reduceLT, Int.reduceLE, Int.reduceEq, Int.add_zero, Int.zero_add, Int.sub_zero, w_14_4, w_14_11, s_row_get, if_pos (Int.le_refl (I (q + 2) i))]) 0 none (by omega) (by omega)
  obtain ⟨o, e, -⟩ := key
  have e : rn 14 1 [some (.ref q), some (.int (iI 0)), some (.int (iI 0)), none] [] (mk g I) = rn 14 1 [some (.ref q), some (.int (iI (blP (pv I q)))), some (.int (iI (I q 1))), o] [] (mk g I) := e
  refine c_14.trans ?_
  refine (w_14_0).trans ?_
  refine e.trans ?_
  refine (w_14_1 (by first | assumption | omega) (by first | assumption | omega) (by first | assumption | omega) (by first | assumption | omega) (by first | assumption | omega)).trans ?_
  refine (if_pos (by omega)).trans ?_
  simp (maxSteps := 2000000) (disch := first | assumption | omega) only [aft_v, aft_n, aft_t, Nat.add_assoc, Nat.reduceAdd, if_true, if_false, not_true_eq_false, not_false_eq_true, Classical.not_not, Int.reduceAdd, Int.reduceSub, Int.reduceMul, Int.reduceNeg, Int.reduceLT, Int.reduceLE, Int.reduceEq, Int.add_zero, Int.zero_add, Int.sub_zero, w_14_12]
theorem s_shift {d : Int} (hp : isPc g q) (hB : pB I q) : cl 9 [.ref q, .int (iI d)] (mk g I) = some (.inl none, mk g (shM I q d (I q 1 * 3 + 0))) := by
  have hp' := hp
  obtain ⟨p_0, ⟨p_1, q_1, p_2⟩, ⟨p_3, q_3, p_4⟩, ⟨p_5, q_5, p_6⟩, ⟨p_7, q_7, p_8⟩, ⟨p_9, q_9, p_10⟩, ⟨p_11, q_11, p_12⟩, ⟨p_13, q_13, p_14⟩, ⟨p_15, q_15, p_16⟩⟩ := hp
  obtain ⟨b0, b1, b2, b3, b4, b5, b6, b7, b8, b9⟩ := hB
  have key := loop_up (σ := Option Value) (head := fun i o => rn 9 1 [some (.ref q), some (.int (iI d)), some (.int (iI i)), o] [] (mk g (shM I q d (i * 3 + 0)))) (Inv := fun i _ => 0 ≤ i) (n := I q 1) (by
    intro i o hi h
    have h2 := b2 i
    have inner := loop_up (σ := Unit) (head := fun k _ => rn 9 3 [some (.ref q), some (.int (iI d)), some (.int (iI i)), some (.int (iI k))] [] (mk g (shM I q d (i * 3 + k)))) (Inv := fun k _ => 0 ≤ k) (n := I (q + 2) i) (by
      intro k _ hk k0
      have hk2 := b4 (i * 3 + k)
      have z1 : shM I q d (i * 3 + k) (q + 2) i = I (q + 2) i := shM_p (by omega)
      have z2 : shM I q d (i * 3 + k) (q + 6) (i * 3 + k) = I (q + 6) (i * 3 + k) := shM_at (Int.le_refl _)
      refine ⟨(), ?_, by omega⟩
      show rn _ _ _ _ _ = rn _ _ _ _ _
      rw [← shM_s h k0 (by omega) hk]
      refine (w_9_3 (by first | assumption | omega) (by first | assumption | omega)).trans ?_
      simp (maxSteps := 2000000) (disch := first | assumption | omega) only [aft_v, aft_n, aft_t, Nat.add_assoc, Nat.reduceAdd, if_true, if_false, not_true_eq_false, not_false_eq_true, Classical.not_not, Int.reduceAdd, Int.reduceSub, Int.reduceMul, Int.reduceNeg, Int.reduceLT, Int.reduceLE, Int.reduceEq, Int.add_zero, Int.zero_add, Int.sub_zero, w_9_4, w_9_5, w_9_6, w_9_7, w_9_8, s_row_get, s_row_put, s_placeOf, s_keyOf hp', z1, z2, if_neg (show ¬ I (q + 2) i ≤ k by omega)]) 0 () (by omega) (by omega)
    obtain ⟨-, e1, -⟩ := inner
    have e1 : rn 9 3 [some (.ref q), some (.int (iI d)), some (.int (iI i)), some (.int (iI 0))] [] (mk g (shM I q d (i * 3 + 0))) = rn 9 3 [some (.ref q), some (.int (iI d)), some (.int (iI i)), some (.int (iI (I (q + 2) i)))] [] (mk g (shM I q d (i * 3 + I (q + 2) i))) := e1
    rw [shM_e h rfl h2.1 h2.2] at e1
    have z0 : shM I q d (i * 3 + 0) q 1 = I q 1 := shM_p (by omega)
    have z1 : shM I q d ((i + 1) * 3 + 0) (q + 2) i = I (q + 2) i := shM_p (by omega)
    refine ⟨some (.int (iI (I (q + 2) i))), ?_, by omega⟩
    show rn _ _ _ _ _ = rn _ _ _ _ _
    rw [show (i + 1) * 3 + 0 = (i + 1) * 3 by omega] at z1 e1 ⊢
    refine (w_9_1 (by first | assumption | omega) (by first | assumption | omega) (by first | assumption | omega) (by first | assumption | omega) (by first | assumption | omega)).trans ?_
    rw [z0]
    refine (if_neg (by omega)).trans ?_
    refine (w_9_2).trans ?_
    rw [e1]
    refine (w_9_3 (by first | assumption | omega) (by first | assumption | omega)).trans ?_
    simp (maxSteps := 2000000) (disch := first | assumption | omega) only [aft_v, aft_n, aft_t, Nat.add_assoc, Nat.reduceAdd, if_true, if_false, not_true_eq_false, not_false_eq_true, Classical.not_not, Int.reduceAdd, Int.reduceSub, Int.reduceMul, Int.reduceNeg, Int.reduceLT, Int.reduceLE, Int.reduceEq, Int.add_zero, Int.zero_add, Int.sub_zero, w_9_4, w_9_9, s_row_get, z1, if_pos (Int.le_refl (I (q + 2) i))]) 0 none (by omega) (by omega)
  obtain ⟨o, e, -⟩ := key
  have e : rn 9 1 [some (.ref q), some (.int (iI d)), some (.int (iI 0)), none] [] (mk g (shM I q d (0 * 3 + 0))) = rn 9 1 [some (.ref q), some (.int (iI d)), some (.int (iI (I q 1))), o] [] (mk g (shM I q d (I q 1 * 3 + 0))) := e
  rw [show (0 : Int) * 3 + 0 = 0 by omega, shM_0] at e
  have z0 : shM I q d (I q 1 * 3 + 0) q 1 = I q 1 := shM_p (by omega)
  refine c_9.trans ?_
  refine (w_9_0).trans ?_
  refine e.trans ?_
  refine (w_9_1 (by first | assumption | omega) (by first | assumption | omega) (by first | assumption | omega) (by first | assumption | omega) (by first | assumption | omega)).trans ?_
  rw [z0]
  refine (if_pos (by omega)).trans ?_
  simp (maxSteps := 2000000) (disch := first | assumption | omega) only [aft_v, aft_n, aft_t, Nat.add_assoc, Nat.reduceAdd, if_true, if_false, not_true_eq_false, not_false_eq_true, Classical.not_not, Int.reduceAdd, Int.reduceSub, Int.reduceMul, Int.reduceNeg, Int.reduceLT, Int.reduceLE, Int.reduceEq, Int.add_zero, Int.zero_add, Int.sub_zero, w_9_10]
end PA
