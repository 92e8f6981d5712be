/-! Piece: events and passages. -/
section PE
variable {g : Gm} {I : Mm} {q : Nat}
theorem nc_b {k f : Int} (hB : pB I q) : 0 ≤ ncS (pv I q) k f ∧ ncS (pv I q) k f ≤ 198 := by
  obtain ⟨-, -, -, -, -, -, b6, -⟩ := hB
  have h5 := b6 5
  have h6 := b6 6
  have e : ncS (pv I q) k f = (if f = 4 then I (q + 10) 6 else 0) + (if (f = 1 ∨ f = 5) ∧ bkI k = 1 then I (q + 10) 5 else 0) := rfl
  rw [e]
  (repeat' split) <;> omega
theorem s_costOfEvent {e b r : Int} {R : Nat} (hp : isPc g q) (hB : pB I q) (he : 0 ≤ e ∧ e < 40) (hb : 0 ≤ b ∧ b ≤ 87) (hR : isR g R) (hr : 0 ≤ r ∧ r + 3 ≤ gn g (R + 1)) (hs : 1 ≤ I (q + 2) e)
    (hf : ∀ k, 0 ≤ k → k < I (q + 2) e → 1 ≤ I (R + 1) (r + k) ∧ I (R + 1) (r + k) ≤ 5) (hd : ∀ k, 0 ≤ k → k + 1 < I (q + 2) e → I (q + 6) (e * 3 + k) < I (q + 6) (e * 3 + (k + 1))) :
    cl 19 [.ref q, .int (iI e), .ref R, .int (iI r), .int (iI b)] (mk g I) = some (.inl (some (.int (iI (ecostS (pv I q) e b (fun k => I (R + 1) (r + k)))))), mk g I) := by
  have hp' := hp
  have hB' := hB
  have hR' := hR.1
  have hRn := hR.2.2
  obtain ⟨p_0, ⟨p_1, q_1, p_2⟩, ⟨p_3, q_3, p_4⟩, ⟨p_5, q_5, p_6⟩, ⟨p_7, q_7, p_8⟩, ⟨p_9, q_9, p_10⟩, ⟨p_11, q_11, p_12⟩, ⟨p_13, q_13, p_14⟩, ⟨p_15, q_15, p_16⟩⟩ := hp
  obtain ⟨b0, b1, b2, b3, b4, b5, b6, b7, b8, b9⟩ := hB
  have a7 : ∀ i, -1000000 ≤ I (q + 12) i ∧ I (q + 12) i ≤ 1000000 := fun i => by have := b7 i; omega
  have a8 : ∀ i, -1000000 ≤ I (q + 14) i ∧ I (q + 14) i ≤ 1000000 := fun i => by have := b8 i; omega
  have a9 : ∀ i, -1000000 ≤ I (q + 16) i ∧ I (q + 16) i ≤ 1000000 := fun i => by have := b9 i; omega
  have s3 := (b2 e).2
  have k0 := b4 (e * 3)
  have k1 := b4 (e * 3 + 1)
  have k2 := b4 (e * 3 + 2)
  have f0 := hf 0 (by omega) (by omega)
  rw [Int.add_zero] at f0
  have E : ecostS (pv I q) e b (fun k => I (R + 1) (r + k)) = 
    if andI (I (q + 8) (e * 3 + 0)) (bitF (I (R + 1) (r + 0))) = 0 then -1 else
    if I (q + 2) e ≤ 1 then ncS (pv I q) (I (q + 6) (e * 3 + 0) + b) (I (R + 1) (r + 0)) else
    if andI (I (q + 8) (e * 3 + 1)) (bitF (I (R + 1) (r + 1))) = 0 then -1 else
    if ¬ (if I q 0 = 0 then I (R + 1) (r + 1) < I (R + 1) (r + 0) else I (R + 1) (r + 0) < I (R + 1) (r + 1)) then -1 else
    if stretchS (pv I q) (I (q + 6) (e * 3 + 1) - I (q + 6) (e * 3 + 0)) (I (R + 1) (r + 0)) (I (R + 1) (r + 1)) = -1 then -1 else
    if I (q + 2) e ≤ 2 then ncS (pv I q) (I (q + 6) (e * 3 + 0) + b) (I (R + 1) (r + 0)) + ncS (pv I q) (I (q + 6) (e * 3 + 1) + b) (I (R + 1) (r + 1)) + stretchS (pv I q) (I (q + 6) (e * 3 + 1) - I (q + 6) (e * 3 + 0)) (I (R + 1) (r + 0)) (I (R + 1) (r + 1)) else
    if andI (I (q + 8) (e * 3 + 2)) (bitF (I (R + 1) (r + 2))) = 0 then -1 else
    if ¬ (if I q 0 = 0 then I (R + 1) (r + 2) < I (R + 1) (r + 1) else I (R + 1) (r + 1) < I (R + 1) (r + 2)) then -1 else
    if stretchS (pv I q) (I (q + 6) (e * 3 + 2) - I (q + 6) (e * 3 + 1)) (I (R + 1) (r + 1)) (I (R + 1) (r + 2)) = -1 then -1 else
    ncS (pv I q) (I (q + 6) (e * 3 + 0) + b) (I (R + 1) (r + 0)) + ncS (pv I q) (I (q + 6) (e * 3 + 1) + b) (I (R + 1) (r + 1)) + stretchS (pv I q) (I (q + 6) (e * 3 + 1) - I (q + 6) (e * 3 + 0)) (I (R + 1) (r + 0)) (I (R + 1) (r + 1)) + ncS (pv I q) (I (q + 6) (e * 3 + 2) + b) (I (R + 1) (r + 2)) + stretchS (pv I q) (I (q + 6) (e * 3 + 2) - I (q + 6) (e * 3 + 1)) (I (R + 1) (r + 1)) (I (R + 1) (r + 2)) := rfl
  rw [E]
  simp only [Int.add_zero]
  have cN : ∀ {k f : Int} (hk : 0 ≤ k ∧ k < 2147483648) (hf : (-2147483648 ≤ f ∧ f < 2147483648)), cl 20 [.ref q, .int (iI k), .int (iI f)] (mk g I) = some (.inl (some (.int (iI (ncS (pv I q) k f)))), mk g I) := fun hk hf => s_costOfNote hp' hk hf
  have n0 := nc_b (k := I (q + 6) (e * 3) + b) (f := I (R + 1) r) hB'
  have n1 := nc_b (k := I (q + 6) (e * 3 + 1) + b) (f := I (R + 1) (r + 1)) hB'
  have n2 := nc_b (k := I (q + 6) (e * 3 + 2) + b) (f := I (R + 1) (r + 2)) hB'
  have hs1 : I (q + 2) e = 1 ∨ I (q + 2) e = 2 ∨ I (q + 2) e = 3 := by omega
  rcases hs1 with hs1 | hs1 | hs1
  · simp (maxSteps := 2000000) (disch := first | assumption | omega) only [aft_v, aft_n, aft_t, Nat.add_assoc, Nat.reduceAdd, if_true, if_false, not_true_eq_false, not_false_eq_true, Classical.not_not, Int.reduceAdd, Int.reduceSub, Int.reduceMul, Int.reduceNeg, Int.reduceLT, Int.reduceLE, Int.reduceEq, Int.add_zero, Int.zero_add, Int.sub_zero, c_19, w_19_0, w_19_1, w_19_2, w_19_3, w_19_4, w_19_5, w_19_6, w_19_7, w_19_8, w_19_9, w_19_10, w_19_11, w_19_12, w_19_13, w_19_14, w_19_15, w_19_16, w_19_17, w_19_18, w_19_19, w_19_20, w_19_21, s_row_get, s_mayPlay, s_keyOf, cN, hs1]
    ((repeat' split) <;> try first | rfl | omega | (refine ans_i ?_; omega))
  · have f1 := hf 1 (by omega) (by omega)
    have d1 := hd 0 (by omega) (by omega)
    simp only [Int.add_zero, Int.zero_add] at d1
    have t1 := stretch_b (a := I (R + 1) r) (b := I (R + 1) (r + 1)) hB' (d := I (q + 6) (e * 3 + 1) - I (q + 6) (e * 3)) (by omega)
    simp (maxSteps := 2000000) (disch := first | assumption | omega) only [aft_v, aft_n, aft_t, Nat.add_assoc, Nat.reduceAdd, if_true, if_false, not_true_eq_false, not_false_eq_true, Classical.not_not, Int.reduceAdd, Int.reduceSub, Int.reduceMul, Int.reduceNeg, Int.reduceLT, Int.reduceLE, Int.reduceEq, Int.add_zero, Int.zero_add, Int.sub_zero, c_19, w_19_0, w_19_1, w_19_2, w_19_3, w_19_4, w_19_5, w_19_6, w_19_7, w_19_8, w_19_9, w_19_10, w_19_11, w_19_12, w_19_13, w_19_14, w_19_15, w_19_16, w_19_17, w_19_18, w_19_19, w_19_20, w_19_21, s_row_get, s_mayPlay, s_keyOf, cN, hs1, s_costOfStretch, s_inOrder, Int.add_sub_cancel, bz0]
    ((repeat' split) <;> try first | rfl | omega | (refine ans_i ?_; omega))
  · have f1 := hf 1 (by omega) (by omega)
    have d1 := hd 0 (by omega) (by omega)
    simp only [Int.add_zero, Int.zero_add] at d1
    have t1 := stretch_b (a := I (R + 1) r) (b := I (R + 1) (r + 1)) hB' (d := I (q + 6) (e * 3 + 1) - I (q + 6) (e * 3)) (by omega)
    have f2 := hf 2 (by omega) (by omega)
    have d2 := hd 1 (by omega) (by omega)
    simp only [Int.reduceAdd] at d2
    have t2 := stretch_b (a := I (R + 1) (r + 1)) (b := I (R + 1) (r + 2)) hB' (d := I (q + 6) (e * 3 + 2) - I (q + 6) (e * 3 + 1)) (by omega)
    have hv : r + 2 - 1 = r + 1 := by omega
    by_cases m0 : andI (I (q + 8) (e * 3)) (bitF (I (R + 1) r)) = 0
    · simp (maxSteps := 2000000) (disch := first | assumption | omega) only [aft_v, aft_n, aft_t, Nat.add_assoc, Nat.reduceAdd, if_true, if_false, not_true_eq_false, not_false_eq_true, Classical.not_not, Int.reduceAdd, Int.reduceSub, Int.reduceMul, Int.reduceNeg, Int.reduceLT, Int.reduceLE, Int.reduceEq, Int.add_zero, Int.zero_add, Int.sub_zero, c_19, w_19_0, w_19_1, w_19_2, w_19_3, w_19_4, w_19_5, w_19_6, w_19_7, w_19_8, w_19_9, w_19_10, w_19_11, w_19_12, w_19_13, w_19_14, w_19_15, w_19_16, w_19_17, w_19_18, w_19_19, w_19_20, w_19_21, s_row_get, s_mayPlay, s_keyOf, cN, hs1, s_costOfStretch, s_inOrder, Int.add_sub_cancel, bz0, hv, m0]
    by_cases m1 : andI (I (q + 8) (e * 3 + 1)) (bitF (I (R + 1) (r + 1))) = 0
    · simp (maxSteps := 2000000) (disch := first | assumption | omega) only [aft_v, aft_n, aft_t, Nat.add_assoc, Nat.reduceAdd, if_true, if_false, not_true_eq_false, not_false_eq_true, Classical.not_not, Int.reduceAdd, Int.reduceSub, Int.reduceMul, Int.reduceNeg, Int.reduceLT, Int.reduceLE, Int.reduceEq, Int.add_zero, Int.zero_add, Int.sub_zero, c_19, w_19_0, w_19_1, w_19_2, w_19_3, w_19_4, w_19_5, w_19_6, w_19_7, w_19_8, w_19_9, w_19_10, w_19_11, w_19_12, w_19_13, w_19_14, w_19_15, w_19_16, w_19_17, w_19_18, w_19_19, w_19_20, w_19_21, s_row_get, s_mayPlay, s_keyOf, cN, hs1, s_costOfStretch, s_inOrder, Int.add_sub_cancel, bz0, hv, m0, m1]
    by_cases o1 : ¬ (if I q 0 = 0 then I (R + 1) (r + 1) < I (R + 1) r else I (R + 1) r < I (R + 1) (r + 1))
    · simp (maxSteps := 2000000) (disch := first | assumption | omega) only [aft_v, aft_n, aft_t, Nat.add_assoc, Nat.reduceAdd, if_true, if_false, not_true_eq_false, not_false_eq_true, Classical.not_not, Int.reduceAdd, Int.reduceSub, Int.reduceMul, Int.reduceNeg, Int.reduceLT, Int.reduceLE, Int.reduceEq, Int.add_zero, Int.zero_add, Int.sub_zero, c_19, w_19_0, w_19_1, w_19_2, w_19_3, w_19_4, w_19_5, w_19_6, w_19_7, w_19_8, w_19_9, w_19_10, w_19_11, w_19_12, w_19_13, w_19_14, w_19_15, w_19_16, w_19_17, w_19_18, w_19_19, w_19_20, w_19_21, s_row_get, s_mayPlay, s_keyOf, cN, hs1, s_costOfStretch, s_inOrder, Int.add_sub_cancel, bz0, hv, m0, m1, o1]
    have o1 := Classical.not_not.mp o1
    by_cases t1b : stretchS (pv I q) (I (q + 6) (e * 3 + 1) - I (q + 6) (e * 3)) (I (R + 1) r) (I (R + 1) (r + 1)) = -1
    · simp (maxSteps := 2000000) (disch := first | assumption | omega) only [aft_v, aft_n, aft_t, Nat.add_assoc, Nat.reduceAdd, if_true, if_false, not_true_eq_false, not_false_eq_true, Classical.not_not, Int.reduceAdd, Int.reduceSub, Int.reduceMul, Int.reduceNeg, Int.reduceLT, Int.reduceLE, Int.reduceEq, Int.add_zero, Int.zero_add, Int.sub_zero, c_19, w_19_0, w_19_1, w_19_2, w_19_3, w_19_4, w_19_5, w_19_6, w_19_7, w_19_8, w_19_9, w_19_10, w_19_11, w_19_12, w_19_13, w_19_14, w_19_15, w_19_16, w_19_17, w_19_18, w_19_19, w_19_20, w_19_21, s_row_get, s_mayPlay, s_keyOf, cN, hs1, s_costOfStretch, s_inOrder, Int.add_sub_cancel, bz0, hv, m0, m1, o1, t1b]
    by_cases m2 : andI (I (q + 8) (e * 3 + 2)) (bitF (I (R + 1) (r + 2))) = 0
    · simp (maxSteps := 2000000) (disch := first | assumption | omega) only [aft_v, aft_n, aft_t, Nat.add_assoc, Nat.reduceAdd, if_true, if_false, not_true_eq_false, not_false_eq_true, Classical.not_not, Int.reduceAdd, Int.reduceSub, Int.reduceMul, Int.reduceNeg, Int.reduceLT, Int.reduceLE, Int.reduceEq, Int.add_zero, Int.zero_add, Int.sub_zero, c_19, w_19_0, w_19_1, w_19_2, w_19_3, w_19_4, w_19_5, w_19_6, w_19_7, w_19_8, w_19_9, w_19_10, w_19_11, w_19_12, w_19_13, w_19_14, w_19_15, w_19_16, w_19_17, w_19_18, w_19_19, w_19_20, w_19_21, s_row_get, s_mayPlay, s_keyOf, cN, hs1, s_costOfStretch, s_inOrder, Int.add_sub_cancel, bz0, hv, m0, m1, o1, t1b, m2]
    by_cases o2 : ¬ (if I q 0 = 0 then I (R + 1) (r + 2) < I (R + 1) (r + 1) else I (R + 1) (r + 1) < I (R + 1) (r + 2))
    · simp (maxSteps := 2000000) (disch := first | assumption | omega) only [aft_v, aft_n, aft_t, Nat.add_assoc, Nat.reduceAdd, if_true, if_false, not_true_eq_false, not_false_eq_true, Classical.not_not, Int.reduceAdd, Int.reduceSub, Int.reduceMul, Int.reduceNeg, Int.reduceLT, Int.reduceLE, Int.reduceEq, Int.add_zero, Int.zero_add, Int.sub_zero, c_19, w_19_0, w_19_1, w_19_2, w_19_3, w_19_4, w_19_5, w_19_6, w_19_7, w_19_8, w_19_9, w_19_10, w_19_11, w_19_12, w_19_13, w_19_14, w_19_15, w_19_16, w_19_17, w_19_18, w_19_19, w_19_20, w_19_21, s_row_get, s_mayPlay, s_keyOf, cN, hs1, s_costOfStretch, s_inOrder, Int.add_sub_cancel, bz0, hv, m0, m1, o1, t1b, m2, o2]
    have o2 := Classical.not_not.mp o2
    by_cases t2b : stretchS (pv I q) (I (q + 6) (e * 3 + 2) - I (q + 6) (e * 3 + 1)) (I (R + 1) (r + 1)) (I (R + 1) (r + 2)) = -1
    · simp (maxSteps := 2000000) (disch := first | assumption | omega) only [aft_v, aft_n, aft_t, Nat.add_assoc, Nat.reduceAdd, if_true, if_false, not_true_eq_false, not_false_eq_true, Classical.not_not, Int.reduceAdd, Int.reduceSub, Int.reduceMul, Int.reduceNeg, Int.reduceLT, Int.reduceLE, Int.reduceEq, Int.add_zero, Int.zero_add, Int.sub_zero, c_19, w_19_0, w_19_1, w_19_2, w_19_3, w_19_4, w_19_5, w_19_6, w_19_7, w_19_8, w_19_9, w_19_10, w_19_11, w_19_12, w_19_13, w_19_14, w_19_15, w_19_16, w_19_17, w_19_18, w_19_19, w_19_20, w_19_21, s_row_get, s_mayPlay, s_keyOf, cN, hs1, s_costOfStretch, s_inOrder, Int.add_sub_cancel, bz0, hv, m0, m1, o1, t1b, m2, o2, t2b]
    simp (maxSteps := 2000000) (disch := first | assumption | omega) only [aft_v, aft_n, aft_t, Nat.add_assoc, Nat.reduceAdd, if_true, if_false, not_true_eq_false, not_false_eq_true, Classical.not_not, Int.reduceAdd, Int.reduceSub, Int.reduceMul, Int.reduceNeg, Int.reduceLT, Int.reduceLE, Int.reduceEq, Int.add_zero, Int.zero_add, Int.sub_zero, c_19, w_19_0, w_19_1, w_19_2, w_19_3, w_19_4, w_19_5, w_19_6, w_19_7, w_19_8, w_19_9, w_19_10, w_19_11, w_19_12, w_19_13, w_19_14, w_19_15, w_19_16, w_19_17, w_19_18, w_19_19, w_19_20, w_19_21, s_row_get, s_mayPlay, s_keyOf, cN, hs1, s_costOfStretch, s_inOrder, Int.add_sub_cancel, bz0, hv, m0, m1, o1, t1b, m2, o2, t2b]
theorem end_b {e n : Int} (hB : pB I q) (hs : 1 ≤ I (q + 2) e) : 0 ≤ endS (pv I q) e n ∧ endS (pv I q) e n < I (q + 2) e := by
  have e : endS (pv I q) e n = if n = 1 - I q 0 then 0 else I (q + 2) e - 1 := rfl
  rw [e]; split <;> omega
theorem s_costOfPassage {e w r r' : Int} {R : Nat} (hp : isPc g q) (hB : pB I q) (he : 0 ≤ e ∧ e < 39) (hw : 0 ≤ w ∧ w ≤ 9) (hR : isR g R) (hr : 0 ≤ r ∧ r + 3 ≤ gn g (R + 1)) (hr' : 0 ≤ r' ∧ r' + 3 ≤ gn g (R + 1)) (hs : 1 ≤ I (q + 2) e) (hs' : 1 ≤ I (q + 2) (e + 1))
    (hf : ∀ k, 0 ≤ k → k < I (q + 2) e → 1 ≤ I (R + 1) (r + k) ∧ I (R + 1) (r + k) ≤ 5) (hf' : ∀ k, 0 ≤ k → k < I (q + 2) (e + 1) → 1 ≤ I (R + 1) (r' + k) ∧ I (R + 1) (r' + k) ≤ 5) :
    cl 22 [.ref q, .int (iI e), .int (iI w), .ref R, .int (iI r), .int (iI r')] (mk g I) = some (.inl (some (.int (iI (passS (pv I q) e w (fun k => I (R + 1) (r + k)) (fun k => I (R + 1) (r' + k)))))), mk g I) := by
  have hp' := hp
  have hB' := hB
  have hR' := hR.1
  have hRn := hR.2.2
  obtain ⟨p_0, ⟨p_1, q_1, p_2⟩, ⟨p_3, q_3, p_4⟩, ⟨p_5, q_5, p_6⟩, ⟨p_7, q_7, p_8⟩, ⟨p_9, q_9, p_10⟩, ⟨p_11, q_11, p_12⟩, ⟨p_13, q_13, p_14⟩, ⟨p_15, q_15, p_16⟩⟩ := hp
  obtain ⟨b0, b1, b2, b3, b4, b5, b6, b7, b8, b9⟩ := hB
  have s3 := (b2 e).2
  have s3' := (b2 (e + 1)).2
  have w8 := b6 8
  have w7 := b6 7
  have E : passS (pv I q) e w (fun k => I (R + 1) (r + k)) (fun k => I (R + 1) (r' + k)) =
    if I (q + 10) 8 ≤ w then 0 else
    if linkS (pv I q) (I (R + 1) (r + endS (pv I q) e 0)) (I (q + 6) (e * 3 + endS (pv I q) e 0)) (I (R + 1) (r' + endS (pv I q) (e + 1) 0)) (I (q + 6) ((e + 1) * 3 + endS (pv I q) (e + 1) 0)) = -1 then -1 else
    if ¬ (1 < I (q + 2) e ∨ 1 < I (q + 2) (e + 1)) then max 0 (linkS (pv I q) (I (R + 1) (r + endS (pv I q) e 0)) (I (q + 6) (e * 3 + endS (pv I q) e 0)) (I (R + 1) (r' + endS (pv I q) (e + 1) 0)) (I (q + 6) ((e + 1) * 3 + endS (pv I q) (e + 1) 0)) - I (q + 10) 7 * w) else
    if linkS (pv I q) (I (R + 1) (r + endS (pv I q) e 1)) (I (q + 6) (e * 3 + endS (pv I q) e 1)) (I (R + 1) (r' + endS (pv I q) (e + 1) 1)) (I (q + 6) ((e + 1) * 3 + endS (pv I q) (e + 1) 1)) = -1 then -1 else
    max 0 (linkS (pv I q) (I (R + 1) (r + endS (pv I q) e 0)) (I (q + 6) (e * 3 + endS (pv I q) e 0)) (I (R + 1) (r' + endS (pv I q) (e + 1) 0)) (I (q + 6) ((e + 1) * 3 + endS (pv I q) (e + 1) 0)) + linkS (pv I q) (I (R + 1) (r + endS (pv I q) e 1)) (I (q + 6) (e * 3 + endS (pv I q) e 1)) (I (R + 1) (r' + endS (pv I q) (e + 1) 1)) (I (q + 6) ((e + 1) * 3 + endS (pv I q) (e + 1) 1)) - I (q + 10) 7 * w) := rfl
  rw [E]
  have hN : ∀ {e n : Int}, (0 ≤ e ∧ e < 40) → (n = 0 ∨ n = 1) → cl 25 [.ref q, .int (iI e), .int (iI n)] (mk g I) = some (.inl (some (.int (iI (endS (pv I q) e n)))), mk g I) := fun he hn => s_noteAtEnd hp' he hn b0
  have x0 := end_b (n := 0) hB' hs
  have x1 := end_b (n := 1) hB' hs
  have y0 := end_b (n := 0) hB' hs'
  have y1 := end_b (n := 1) hB' hs'
  have fx0 := hf _ x0.1 x0.2
  have fx1 := hf _ x1.1 x1.2
  have fy0 := hf' _ y0.1 y0.2
  have fy1 := hf' _ y1.1 y1.2
  have kx0 := b4 (e * 3 + endS (pv I q) e 0)
  have kx1 := b4 (e * 3 + endS (pv I q) e 1)
  have ky0 := b4 ((e + 1) * 3 + endS (pv I q) (e + 1) 0)
  have ky1 := b4 ((e + 1) * 3 + endS (pv I q) (e + 1) 1)
  have l0 := link_b (f := I (R + 1) (r + endS (pv I q) e 0)) (f' := I (R + 1) (r' + endS (pv I q) (e + 1) 0)) hB' kx0 ky0
  have l1 := link_b (f := I (R + 1) (r + endS (pv I q) e 1)) (f' := I (R + 1) (r' + endS (pv I q) (e + 1) 1)) hB' kx1 ky1
  have ew := mul_b (a := I (q + 10) 7) (b := w) (A := 99) (B := 9) w7.1 w7.2 hw.1 hw.2
  by_cases hc : 1 < I (q + 2) e ∨ 1 < I (q + 2) (e + 1)
  · simp (maxSteps := 2000000) (disch := first | assumption | omega) only [aft_v, aft_n, aft_t, Nat.add_assoc, Nat.reduceAdd, if_true, if_false, not_true_eq_false, not_false_eq_true, Classical.not_not, Int.reduceAdd, Int.reduceSub, Int.reduceMul, Int.reduceNeg, Int.reduceLT, Int.reduceLE, Int.reduceEq, Int.add_zero, Int.zero_add, Int.sub_zero, c_22, w_22_0, w_22_1, w_22_2, w_22_3, w_22_4, w_22_5, w_22_6, w_22_7, w_22_8, w_22_9, w_22_10, w_22_11, w_22_12, w_22_13, w_22_14, w_22_15, w_22_16, w_22_17, s_row_get, s_isFree, s_endsOf, hN, hc, s_keyOf, s_costOfLink, bz0]
    ((repeat' split) <;> try first | rfl | omega | (refine ans_i ?_; omega))
  · simp (maxSteps := 2000000) (disch := first | assumption | omega) only [aft_v, aft_n, aft_t, Nat.add_assoc, Nat.reduceAdd, if_true, if_false, not_true_eq_false, not_false_eq_true, Classical.not_not, Int.reduceAdd, Int.reduceSub, Int.reduceMul, Int.reduceNeg, Int.reduceLT, Int.reduceLE, Int.reduceEq, Int.add_zero, Int.zero_add, Int.sub_zero, c_22, w_22_0, w_22_1, w_22_2, w_22_3, w_22_4, w_22_5, w_22_6, w_22_7, w_22_8, w_22_9, w_22_10, w_22_11, w_22_12, w_22_13, w_22_14, w_22_15, w_22_16, w_22_17, s_row_get, s_isFree, s_endsOf, hN, hc, s_keyOf, s_costOfLink, bz0]
    ((repeat' split) <;> try first | rfl | omega | (refine ans_i ?_; omega))
theorem s_crossings {e r r' : Int} {R : Nat} (hp : isPc g q) (hB : pB I q) (he : 0 ≤ e ∧ e < 39) (hR : isR g R) (hr : 0 ≤ r ∧ r + 3 ≤ gn g (R + 1)) (hr' : 0 ≤ r' ∧ r' + 3 ≤ gn g (R + 1)) (hs : 1 ≤ I (q + 2) e) (hs' : 1 ≤ I (q + 2) (e + 1))
    (hf : ∀ k, 0 ≤ k → k < I (q + 2) e → 1 ≤ I (R + 1) (r + k) ∧ I (R + 1) (r + k) ≤ 5) (hf' : ∀ k, 0 ≤ k → k < I (q + 2) (e + 1) → 1 ≤ I (R + 1) (r' + k) ∧ I (R + 1) (r' + k) ≤ 5) :
    cl 23 [.ref q, .int (iI e), .ref R, .int (iI r), .int (iI r')] (mk g I) = some (.inl (some (.int (iI (crossS (pv I q) e (fun k => I (R + 1) (r + k)) (fun k => I (R + 1) (r' + k)))))), mk g I) := by
  have hp' := hp
  have hB' := hB
  have hR' := hR.1
  have hRn := hR.2.2
  obtain ⟨p_0, ⟨p_1, q_1, p_2⟩, ⟨p_3, q_3, p_4⟩, ⟨p_5, q_5, p_6⟩, ⟨p_7, q_7, p_8⟩, ⟨p_9, q_9, p_10⟩, ⟨p_11, q_11, p_12⟩, ⟨p_13, q_13, p_14⟩, ⟨p_15, q_15, p_16⟩⟩ := hp
  obtain ⟨b0, b1, b2, b3, b4, b5, b6, b7, b8, b9⟩ := hB
  have s3 := (b2 e).2
  have s3' := (b2 (e + 1)).2
  have w8 := b6 8
  have w9 := b6 9
  have re := b3 e
  have E : crossS (pv I q) e (fun k => I (R + 1) (r + k)) (fun k => I (R + 1) (r' + k)) =
    if I (q + 10) 8 ≤ I (q + 4) e then 0 else
    (if kindS (pv I q) (I (R + 1) (r + endS (pv I q) e 0)) (I (q + 6) (e * 3 + endS (pv I q) e 0)) (I (R + 1) (r' + endS (pv I q) (e + 1) 0)) (I (q + 6) ((e + 1) * 3 + endS (pv I q) (e + 1) 0)) = 3 then 1 else 0) +
    (if (1 < I (q + 2) e ∨ 1 < I (q + 2) (e + 1)) ∧ kindS (pv I q) (I (R + 1) (r + endS (pv I q) e 1)) (I (q + 6) (e * 3 + endS (pv I q) e 1)) (I (R + 1) (r' + endS (pv I q) (e + 1) 1)) (I (q + 6) ((e + 1) * 3 + endS (pv I q) (e + 1) 1)) = 3 then 1 else 0) := rfl
  rw [E]
  have hN : ∀ {e n : Int}, (0 ≤ e ∧ e < 40) → (n = 0 ∨ n = 1) → cl 25 [.ref q, .int (iI e), .int (iI n)] (mk g I) = some (.inl (some (.int (iI (endS (pv I q) e n)))), mk g I) := fun he hn => s_noteAtEnd hp' he hn b0
  have x0 := end_b (n := 0) hB' hs
  have x1 := end_b (n := 1) hB' hs
  have y0 := end_b (n := 0) hB' hs'
  have y1 := end_b (n := 1) hB' hs'
  have fx0 := hf _ x0.1 x0.2
  have fx1 := hf _ x1.1 x1.2
  have fy0 := hf' _ y0.1 y0.2
  have fy1 := hf' _ y1.1 y1.2
  have kx0 := b4 (e * 3 + endS (pv I q) e 0)
  have kx1 := b4 (e * 3 + endS (pv I q) e 1)
  have ky0 := b4 ((e + 1) * 3 + endS (pv I q) (e + 1) 0)
  have ky1 := b4 ((e + 1) * 3 + endS (pv I q) (e + 1) 1)
  have l0 := kind_b (P := pv I q) (f := I (R + 1) (r + endS (pv I q) e 0)) (f' := I (R + 1) (r' + endS (pv I q) (e + 1) 0)) (k := I (q + 6) (e * 3 + endS (pv I q) e 0)) (k' := I (q + 6) ((e + 1) * 3 + endS (pv I q) (e + 1) 0))
  have l1 := kind_b (P := pv I q) (f := I (R + 1) (r + endS (pv I q) e 1)) (f' := I (R + 1) (r' + endS (pv I q) (e + 1) 1)) (k := I (q + 6) (e * 3 + endS (pv I q) e 1)) (k' := I (q + 6) ((e + 1) * 3 + endS (pv I q) (e + 1) 1))
  by_cases hc : 1 < I (q + 2) e ∨ 1 < I (q + 2) (e + 1)
  · simp (maxSteps := 2000000) (disch := first | assumption | omega) only [aft_v, aft_n, aft_t, Nat.add_assoc, Nat.reduceAdd, if_true, if_false, not_true_eq_false, not_false_eq_true, Classical.not_not, Int.reduceAdd, Int.reduceSub, Int.reduceMul, Int.reduceNeg, Int.reduceLT, Int.reduceLE, Int.reduceEq, Int.add_zero, Int.zero_add, Int.sub_zero, c_23, w_23_0, w_23_1, w_23_2, w_23_3, w_23_4, w_23_5, w_23_6, w_23_7, w_23_8, w_23_9, w_23_10, w_23_11, w_23_12, w_23_13, w_23_14, w_23_15, w_23_16, w_23_17, w_23_18, s_row_get, s_isFree, s_endsOf, hN, hc, s_keyOf, s_kindOfLink, bz0, true_and]
    ((repeat' split) <;> try first | rfl | omega | (refine ans_i ?_; omega))
  · simp (maxSteps := 2000000) (disch := first | assumption | omega) only [aft_v, aft_n, aft_t, Nat.add_assoc, Nat.reduceAdd, if_true, if_false, not_true_eq_false, not_false_eq_true, Classical.not_not, Int.reduceAdd, Int.reduceSub, Int.reduceMul, Int.reduceNeg, Int.reduceLT, Int.reduceLE, Int.reduceEq, Int.add_zero, Int.zero_add, Int.sub_zero, c_23, w_23_0, w_23_1, w_23_2, w_23_3, w_23_4, w_23_5, w_23_6, w_23_7, w_23_8, w_23_9, w_23_10, w_23_11, w_23_12, w_23_13, w_23_14, w_23_15, w_23_16, w_23_17, w_23_18, s_row_get, s_isFree, s_endsOf, hN, hc, s_keyOf, s_kindOfLink, bz0, false_and]
    ((repeat' split) <;> try first | rfl | omega | (refine ans_i ?_; omega))
end PE
