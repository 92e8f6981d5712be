/-! Piece: what it is asked of all its events. -/
/-- the least key, from below -/
noncomputable def lkS (P : PT) (n : Int) : Int := mnI (fun e => pKy P e 0) n
noncomputable def gkS (P : PT) (n : Int) : Int := itI (fun e a => max a (pKy P e (pSz P e - 1))) (-1) n
/-- black notes of one event -/
def blE (P : PT) (e : Int) : Int := sumI (fun k => bkI (pKy P e k)) (pSz P e)
def blP (P : PT) : Int := sumI (blE P) (pE P)
def fpE (P : PT) (e : Int) : Int := if pW P 8 ≤ pRe P e then 1 else 0
def fpP (P : PT) : Int := sumI (fpE P) (pE P - 1)
theorem bkI_b {k : Int} : 0 ≤ bkI k ∧ bkI k ≤ 1 := by unfold bkI; split <;> omega
theorem gkS_0 {P : PT} : gkS P 0 = -1 := rfl
theorem gkS_s {P : PT} {i : Int} (h : 0 ≤ i) : gkS P (i + 1) = max (gkS P i) (pKy P i (pSz P i - 1)) := itI_s h
section PA
variable {g : Gm} {I : Mm} {q : Nat}
theorem lkS_b (hB : pB I q) {n : Int} (h : 0 ≤ n) : -1 ≤ lkS (pv I q) n ∧ lkS (pv I q) n ≤ 108 :=
  mnI_b h (by decide) (fun i _ _ => by
    have := hB.2.2.2.2.1 (i * 3 + 0)
    show -1 ≤ I (q + 6) (i * 3 + 0) ∧ I (q + 6) (i * 3 + 0) ≤ 108
    omega)
theorem gkS_b (hB : pB I q) {n : Int} (h : 0 ≤ n) : -1 ≤ gkS (pv I q) n ∧ gkS (pv I q) n ≤ 108 := by
  obtain ⟨k, rfl⟩ : ∃ k : Nat, n = k := ⟨n.toNat, by omega⟩
  clear h
  induction k with
  | zero => show (-1 : Int) ≤ -1 ∧ (-1 : Int) ≤ 108; omega
  | succ k ih =>
    have h1 : gkS (pv I q) ((k + 1 : Nat) : Int) = max (gkS (pv I q) k) (I (q + 6) ((k : Int) * 3 + (I (q + 2) k - 1))) := gkS_s (P := pv I q) (i := (k : Int)) (by omega)
    have := hB.2.2.2.2.1 ((k : Int) * 3 + (I (q + 2) k - 1))
    rw [h1]; omega
theorem s_leastKey (hp : isPc g q) (hB : pB I q) : cl 12 [.ref q] (mk g I) = some (.inl (some (.int (iI (lkS (pv I q) (I q 1))))), mk g I) := by
  have hp' := hp
  obtain ⟨p_0, ⟨p_1, q_1, p_2⟩, ⟨p_3, q_3, p_4⟩, ⟨p_5, q_5, p_6⟩, ⟨p_7, q_7, p_8⟩, ⟨p_9, q_9, p_10⟩, ⟨p_11, q_11, p_12⟩, ⟨p_13, q_13, p_14⟩, ⟨p_15, q_15, p_16⟩⟩ := hp
  obtain ⟨b0, b1, b2, b3, b4, b5, b6, b7, b8, b9⟩ := hB
  have hB : pB I q := ⟨b0, b1, b2, b3, b4, b5, b6, b7, b8, b9⟩
  have key := loop_up (σ := Unit) (head := fun i _ => rn 12 1 [some (.ref q), some (.int (iI (lkS (pv I q) i))), some (.int (iI i))] [] (mk g I)) (Inv := fun i _ => 0 ≤ i) (n := I q 1) (by
    intro i s hi h
    have hb := lkS_b hB h
    have hk := b4 (i * 3 + 0)
    refine ⟨(), ?_, by omega⟩
    show rn _ _ _ _ _ = rn _ _ _ _ _
    have hs : lkS (pv I q) (i + 1) = lesS (lkS (pv I q) i) (I (q + 6) (i * 3 + 0)) := mnI_s h
    rw [hs]
    rw [show i * 3 + 0 = i * 3 by omega] at hk ⊢
    refine (w_12_1 (by first | assumption | omega) (by first | assumption | omega) (by first | assumption | omega) (by first | assumption | omega) (by first | assumption | omega)).trans ?_
    refine (if_neg (by omega)).trans ?_
    simp (maxSteps := 2000000) (disch := first | assumption | omega) only [aft_v, aft_n, aft_t, Nat.add_assoc, Nat.reduceAdd, if_true, if_false, not_true_eq_false, not_false_eq_true, Classical.not_not, Int.reduceAdd, Int.reduceSub, Int.reduceMul, Int.reduceNeg, Int.reduceLT, Int.reduceLE, Int.reduceEq, Int.add_zero, Int.zero_add, Int.sub_zero, w_12_2, w_12_3, w_12_4, s_keyOf hp', s_lesserOf]) 0 () (by omega) (by omega)
  obtain ⟨-, e, -⟩ := key
  have e : rn 12 1 [some (.ref q), some (.int (iI (-1))), some (.int (iI 0))] [] (mk g I) = rn 12 1 [some (.ref q), some (.int (iI (lkS (pv I q) (I q 1)))), some (.int (iI (I q 1)))] [] (mk g I) := e
  refine c_12.trans ?_
  refine (w_12_0).trans ?_
  refine e.trans ?_
  refine (w_12_1 (by first | assumption | omega) (by first | assumption | omega) (by first | assumption | omega) (by first | assumption | omega) (by first | assumption | omega)).trans ?_
  refine (if_pos (by omega)).trans ?_
  simp (maxSteps := 2000000) (disch := first | assumption | omega) only [aft_v, aft_n, aft_t, Nat.add_assoc, Nat.reduceAdd, if_true, if_false, not_true_eq_false, not_false_eq_true, Classical.not_not, Int.reduceAdd, Int.reduceSub, Int.reduceMul, Int.reduceNeg, Int.reduceLT, Int.reduceLE, Int.reduceEq, Int.add_zero, Int.zero_add, Int.sub_zero, w_12_5]
theorem s_greatestKey (hp : isPc g q) (hB : pB I q) (h1 : ∀ e, 0 ≤ e → e < I q 1 → 1 ≤ I (q + 2) e) : cl 13 [.ref q] (mk g I) = some (.inl (some (.int (iI (gkS (pv I q) (I q 1))))), mk g I) := by
  have hp' := hp
  obtain ⟨p_0, ⟨p_1, q_1, p_2⟩, ⟨p_3, q_3, p_4⟩, ⟨p_5, q_5, p_6⟩, ⟨p_7, q_7, p_8⟩, ⟨p_9, q_9, p_10⟩, ⟨p_11, q_11, p_12⟩, ⟨p_13, q_13, p_14⟩, ⟨p_15, q_15, p_16⟩⟩ := hp
  obtain ⟨b0, b1, b2, b3, b4, b5, b6, b7, b8, b9⟩ := hB
  have hB : pB I q := ⟨b0, b1, b2, b3, b4, b5, b6, b7, b8, b9⟩
  have key := loop_up (σ := Unit) (head := fun i _ => rn 13 1 [some (.ref q), some (.int (iI (gkS (pv I q) i))), some (.int (iI i))] [] (mk g I)) (Inv := fun i _ => 0 ≤ i) (n := I q 1) (by
    intro i s hi h
    have hb := gkS_b hB h
    have hz := h1 i h hi
    have hz' := b2 i
    have hk := b4 (i * 3 + (I (q + 2) i - 1))
    refine ⟨(), ?_, by omega⟩
    show rn _ _ _ _ _ = rn _ _ _ _ _
    have hs : gkS (pv I q) (i + 1) = max (gkS (pv I q) i) (I (q + 6) (i * 3 + (I (q + 2) i - 1))) := gkS_s h
    rw [hs]
    refine (w_13_1 (by first | assumption | omega) (by first | assumption | omega) (by first | assumption | omega) (by first | assumption | omega) (by first | assumption | omega)).trans ?_
    refine (if_neg (by omega)).trans ?_
    simp (maxSteps := 2000000) (disch := first | assumption | omega) only [aft_v, aft_n, aft_t, Nat.add_assoc, Nat.reduceAdd, if_true, if_false, not_true_eq_false, not_false_eq_true, Classical.not_not, Int.reduceAdd, Int.reduceSub, Int.reduceMul, Int.reduceNeg, Int.reduceLT, Int.reduceLE, Int.reduceEq, Int.add_zero, Int.zero_add, Int.sub_zero, w_13_2, w_13_3, w_13_4, s_row_get, s_keyOf hp']) 0 () (by omega) (by omega)
  obtain ⟨-, e, -⟩ := key
  have e : rn 13 1 [some (.ref q), some (.int (iI (-1))), some (.int (iI 0))] [] (mk g I) = rn 13 1 [some (.ref q), some (.int (iI (gkS (pv I q) (I q 1)))), some (.int (iI (I q 1)))] [] (mk g I) := e
  refine c_13.trans ?_
  refine (w_13_0).trans ?_
  refine e.trans ?_
  refine (w_13_1 (by first | assumption | omega) (by first | assumption | omega) (by first | assumption | omega) (by first | assumption | omega) (by first | assumption | omega)).trans ?_
  refine (if_pos (by omega)).trans ?_
  simp (maxSteps := 2000000) (disch := first | assumption | omega) only [aft_v, aft_n, aft_t, Nat.add_assoc, Nat.reduceAdd, if_true, if_false, not_true_eq_false, not_false_eq_true, Classical.not_not, Int.reduceAdd, Int.reduceSub, Int.reduceMul, Int.reduceNeg, Int.reduceLT, Int.reduceLE, Int.reduceEq, Int.add_zero, Int.zero_add, Int.sub_zero, w_13_5]
theorem s_canShift {d : Int} (hp : isPc g q) (hB : pB I q) (h1 : ∀ e, 0 ≤ e → e < I q 1 → 1 ≤ I (q + 2) e) (hd : -1000 ≤ d ∧ d ≤ 1000) : cl 8 [.ref q, .int (iI d)] (mk g I) = some (.inl (some (.int (iI (if I q 1 = 0 ∨ 21 ≤ lkS (pv I q) (I q 1) + d ∧ gkS (pv I q) (I q 1) + d ≤ 108 then 1 else 0)))), mk g I) := by
  have e1 := s_leastKey hp hB
  have e2 := s_greatestKey hp hB h1
  obtain ⟨b0, b1, -⟩ := id hB
  have bl := lkS_b hB b1.1
  have bg := gkS_b hB b1.1
  obtain ⟨p_0, ⟨p_1, q_1, p_2⟩, ⟨p_3, q_3, p_4⟩, ⟨p_5, q_5, p_6⟩, ⟨p_7, q_7, p_8⟩, ⟨p_9, q_9, p_10⟩, ⟨p_11, q_11, p_12⟩, ⟨p_13, q_13, p_14⟩, ⟨p_15, q_15, p_16⟩⟩ := hp
  by_cases hz : I q 1 = 0
  · rw [if_pos (Or.inl hz)]
    simp (maxSteps := 2000000) (disch := first | assumption | omega) only [aft_v, aft_n, aft_t, Nat.add_assoc, Nat.reduceAdd, if_true, if_false, not_true_eq_false, not_false_eq_true, Classical.not_not, Int.reduceAdd, Int.reduceSub, Int.reduceMul, Int.reduceNeg, Int.reduceLT, Int.reduceLE, Int.reduceEq, Int.add_zero, Int.zero_add, Int.sub_zero, c_8, w_8_0, w_8_1, w_8_2, w_8_3, w_8_4, w_8_5, w_8_6, w_8_7, hz]
  by_cases hl : 21 ≤ lkS (pv I q) (I q 1) + d
  · by_cases hg : gkS (pv I q) (I q 1) + d ≤ 108
    · rw [if_pos (Or.inr ⟨hl, hg⟩)]
      simp (maxSteps := 2000000) (disch := first | assumption | omega) only [aft_v, aft_n, aft_t, Nat.add_assoc, Nat.reduceAdd, if_true, if_false, not_true_eq_false, not_false_eq_true, Classical.not_not, Int.reduceAdd, Int.reduceSub, Int.reduceMul, Int.reduceNeg, Int.reduceLT, Int.reduceLE, Int.reduceEq, Int.add_zero, Int.zero_add, Int.sub_zero, c_8, w_8_0, w_8_1, w_8_2, w_8_3, w_8_4, w_8_5, w_8_6, w_8_7, hz, e1, e2, if_neg (show ¬ lkS (pv I q) (I q 1) + d < 21 by omega), if_neg (show ¬ 108 < gkS (pv I q) (I q 1) + d by omega)]
    · rw [if_neg (by omega)]
      simp (maxSteps := 2000000) (disch := first | assumption | omega) only [aft_v, aft_n, aft_t, Nat.add_assoc, Nat.reduceAdd, if_true, if_false, not_true_eq_false, not_false_eq_true, Classical.not_not, Int.reduceAdd, Int.reduceSub, Int.reduceMul, Int.reduceNeg, Int.reduceLT, Int.reduceLE, Int.reduceEq, Int.add_zero, Int.zero_add, Int.sub_zero, c_8, w_8_0, w_8_1, w_8_2, w_8_3, w_8_4, w_8_5, w_8_6, w_8_7, hz, e1, e2, if_neg (show ¬ lkS (pv I q) (I q 1) + d < 21 by omega), if_pos (show 108 < gkS (pv I q) (I q 1) + d by omega)]
  · rw [if_neg (by omega)]
    simp (maxSteps := 2000000) (disch := first | assumption | omega) only [aft_v, aft_n, aft_t, Nat.add_assoc, Nat.reduceAdd, if_true, if_false, not_true_eq_false, not_false_eq_true, Classical.not_not, Int.reduceAdd, Int.reduceSub, Int.reduceMul, Int.reduceNeg, Int.reduceLT, Int.reduceLE, Int.reduceEq, Int.add_zero, Int.zero_add, Int.sub_zero, c_8, w_8_0, w_8_1, w_8_2, w_8_3, w_8_4, w_8_5, w_8_6, w_8_7, hz, e1, e2, if_pos (show lkS (pv I q) (I q 1) + d < 21 by omega)]
theorem s_freePassages (hp : isPc g q) (hB : pB I q) : cl 15 [.ref q] (mk g I) = some (.inl (some (.int (iI (fpP (pv I q))))), mk g I) := by
  have hp' := hp
  obtain ⟨p_0, ⟨p_1, q_1, p_2⟩, ⟨p_3, q_3, p_4⟩, ⟨p_5, q_5, p_6⟩, ⟨p_7, q_7, p_8⟩, ⟨p_9, q_9, p_10⟩, ⟨p_11, q_11, p_12⟩, ⟨p_13, q_13, p_14⟩, ⟨p_15, q_15, p_16⟩⟩ := hp
  obtain ⟨b0, b1, b2, b3, b4, b5, b6, b7, b8, b9⟩ := hB
  by_cases hz : I q 1 = 0
  · have : fpP (pv I q) = 0 := by
      unfold fpP
      rw [show pE (pv I q) = I q 1 from rfl, hz]; rfl
    rw [this]
    refine c_15.trans ?_
    refine (w_15_0).trans ?_
    refine (w_15_1 (by first | assumption | omega) (by first | assumption | omega) (by first | assumption | omega) (by first | assumption | omega) (by first | assumption | omega)).trans ?_
    refine (if_pos (by omega)).trans ?_
    simp (maxSteps := 2000000) (disch := first | assumption | omega) only [aft_v, aft_n, aft_t, Nat.add_assoc, Nat.reduceAdd, if_true, if_false, not_true_eq_false, not_false_eq_true, Classical.not_not, Int.reduceAdd, Int.reduceSub, Int.reduceMul, Int.reduceNeg, Int.reduceLT, Int.reduceLE, Int.reduceEq, Int.add_zero, Int.zero_add, Int.sub_zero, w_15_8]
  have key := loop_up (σ := Unit) (head := fun i _ => rn 15 1 [some (.ref q), some (.int (iI (sumI (fpE (pv I q)) i))), some (.int (iI i))] [] (mk g I)) (Inv := fun i _ => 0 ≤ i) (n := I q 1 - 1) (by
    intro i s hi h
    have hb := sumI_b (f := fpE (pv I q)) (A := 0) (B := 1) (n := i) h (fun i _ _ => by unfold fpE; split <;> omega)
    have hf : fpE (pv I q) i = if I (q + 10) 8 ≤ I (q + 4) i then 1 else 0 := rfl
    have h3 := b3 i
    have h8 := b6 8
    refine ⟨(), ?_, by omega⟩
    show rn _ _ _ _ _ = rn _ _ _ _ _
    rw [sumI_s h, hf]
    refine (w_15_1 (by first | assumption | omega) (by first | assumption | omega) (by first | assumption | omega) (by first | assumption | omega) (by first | assumption | omega)).trans ?_
    refine (if_neg (by omega)).trans ?_
    by_cases hc : I (q + 10) 8 ≤ I (q + 4) i
    · rw [if_pos hc]
      simp (maxSteps := 2000000) (disch := first | assumption | omega) only [aft_v, aft_n, aft_t, Nat.add_assoc, Nat.reduceAdd, if_true, if_false, not_true_eq_false, not_false_eq_true, Classical.not_not, Int.reduceAdd, Int.reduceSub, Int.reduceMul, Int.reduceNeg, Int.reduceLT, Int.reduceLE, Int.reduceEq, Int.add_zero, Int.zero_add, Int.sub_zero, w_15_2, w_15_3, w_15_4, w_15_5, w_15_6, w_15_7, s_row_get, s_isFree hp', if_pos hc]
    · rw [if_neg hc]
      simp (maxSteps := 2000000) (disch := first | assumption | omega) only [aft_v, aft_n, aft_t, Nat.add_assoc, Nat.reduceAdd, if_true, if_false, not_true_eq_false, not_false_eq_true, Classical.not_not, Int.reduceAdd, Int.reduceSub, Int.reduceMul, Int.reduceNeg, Int.reduceLT, Int.reduceLE, Int.reduceEq, Int.add_zero, Int.zero_add, Int.sub_zero, w_15_2, w_15_3, w_15_4, w_15_5, w_15_6, w_15_7, s_row_get, s_isFree hp', if_neg hc]) 0 () (by omega) (by omega)
  obtain ⟨-, e, -⟩ := key
  have e : rn 15 1 [some (.ref q), some (.int (iI 0)), some (.int (iI 0))] [] (mk g I) = rn 15 1 [some (.ref q), some (.int (iI (fpP (pv I q)))), some (.int (iI (I q 1 - 1)))] [] (mk g I) := e
  refine c_15.trans ?_
  refine (w_15_0).trans ?_
  refine e.trans ?_
  refine (w_15_1 (by first | assumption | omega) (by first | assumption | omega) (by first | assumption | omega) (by first | assumption | omega) (by first | assumption | omega)).trans ?_
  refine (if_pos (by omega)).trans ?_
  simp (maxSteps := 2000000) (disch := first | assumption | omega) only [aft_v, aft_n, aft_t, Nat.add_assoc, Nat.reduceAdd, if_true, if_false, not_true_eq_false, not_false_eq_true, Classical.not_not, Int.reduceAdd, Int.reduceSub, Int.reduceMul, Int.reduceNeg, Int.reduceLT, Int.reduceLE, Int.reduceEq, Int.add_zero, Int.zero_add, Int.sub_zero, w_15_8]
end PA
