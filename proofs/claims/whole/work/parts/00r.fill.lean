/-! Plan: the steps, and the least costs. -/
theorem sum_b {a b A B : Int} (ha : -1 ≤ a ∧ a ≤ A) (hb : -1 ≤ b ∧ b ≤ B) (hA : 0 ≤ A) (hB : 0 ≤ B) : -1 ≤ sumS a b ∧ sumS a b ≤ A + B := by
  unfold sumS; split <;> omega
theorem les_b {a b A : Int} (ha : -1 ≤ a ∧ a ≤ A) (hb : -1 ≤ b ∧ b ≤ A) : -1 ≤ lesS a b ∧ lesS a b ≤ A := by
  unfold lesS; (repeat' split) <;> omega
theorem mnI_0 {f : Int → Int} : mnI f 0 = -1 := rfl
theorem mnI_s {f : Int → Int} {i : Int} (h : 0 ≤ i) : mnI f (i + 1) = lesS (mnI f i) (f i) := itI_s h
theorem mnI_b {f : Int → Int} {n A : Int} (hn : 0 ≤ n) (hA : 0 ≤ A) (h : ∀ i, 0 ≤ i → i < n → -1 ≤ f i ∧ f i ≤ A) : -1 ≤ mnI f n ∧ mnI f n ≤ A :=
  itI_ind (fun _ x => -1 ≤ x ∧ x ≤ A) (by omega) (fun i x h0 h1 hx => les_b hx (h i h0 h1)) hn
theorem mnI_congr {f f' : Int → Int} {n : Int} (h : ∀ i, 0 ≤ i → i < n → f i = f' i) (hn : 0 ≤ n) : mnI f n = mnI f' n :=
  itI_congr (fun i x h0 h1 => by rw [h i h0 h1]) hn
section FL
variable {g : Gm} {I : Mm} {q l : Nat}
theorem pass_rng {e w : Int} {F F' : Int → Int} (hB : pB I q) (hw : 0 ≤ w) : -1 ≤ passS (pv I q) e w F F' ∧ passS (pv I q) e w F F' ≤ 21384 := by
  have hb := hB
  obtain ⟨b0, b1, b2, b3, b4, b5, b6, b7, b8, b9⟩ := hb
  have l0 := link_b (f := F (endS (pv I q) e 0)) (f' := F' (endS (pv I q) (e + 1) 0)) (k := pKy (pv I q) e (endS (pv I q) e 0)) (k' := pKy (pv I q) (e + 1) (endS (pv I q) (e + 1) 0)) hB (b4 _) (b4 _)
  have l1 := link_b (f := F (endS (pv I q) e 1)) (f' := F' (endS (pv I q) (e + 1) 1)) (k := pKy (pv I q) e (endS (pv I q) e 1)) (k' := pKy (pv I q) (e + 1) (endS (pv I q) (e + 1) 1)) hB (b4 _) (b4 _)
  have w7 : 0 ≤ pW (pv I q) 7 := (b6 7).1
  have m7 := Int.mul_nonneg w7 hw
  unfold passS
  (repeat' split) <;> omega
theorem s_costFrom {e c : Int} (hl : isPl g l) (he : 0 ≤ e ∧ e < 40) (hc : 0 ≤ c ∧ c < 10) (h1 : -1 ≤ I (l + 6) (e * 10 + c) ∧ I (l + 6) (e * 10 + c) ≤ 100000000) (h2 : -1 ≤ I (l + 12) (e * 10 + c) ∧ I (l + 12) (e * 10 + c) ≤ 100000000) :
    cl 42 [.ref l, .int (iI e), .int (iI c)] (mk g I) = some (.inl (some (.int (iI (sumS (I (l + 6) (e * 10 + c)) (I (l + 12) (e * 10 + c)))))), mk g I) := by
  obtain ⟨l_0, ⟨l_1, m_1, l_2⟩, ⟨l_3, m_3, l_4⟩, ⟨l_5, m_5, l_6⟩, ⟨l_7, m_7, l_8⟩, ⟨l_9, m_9, l_10⟩, ⟨l_11, m_11, l_12⟩, ⟨l_13, m_13, l_14⟩, ⟨l_15, m_15, l_16⟩, ⟨l_17, m_17, l_18⟩, l_19, l_20⟩ := hl
  simp (maxSteps := 2000000) (disch := first | assumption | omega) only [aft_v, aft_n, aft_t, Nat.add_assoc, Nat.reduceAdd, if_true, if_false, not_true_eq_false, not_false_eq_true, Classical.not_not, Int.reduceAdd, Int.reduceSub, Int.reduceMul, Int.reduceNeg, Int.reduceLT, Int.reduceLE, Int.reduceEq, Int.add_zero, Int.zero_add, Int.sub_zero, c_42, w_42_0, w_42_1, w_42_2, w_42_3, w_42_4, s_row_get, s_placeOfChoice, s_sumOf]
theorem s_costThrough {e c : Int} (hl : isPl g l) (he : 0 ≤ e ∧ e < 40) (hc : 0 ≤ c ∧ c < 10) (h1 : -1 ≤ I (l + 10) (e * 10 + c) ∧ I (l + 10) (e * 10 + c) ≤ 100000000) (h2 : -1 ≤ I (l + 12) (e * 10 + c) ∧ I (l + 12) (e * 10 + c) ≤ 100000000) :
    cl 43 [.ref l, .int (iI e), .int (iI c)] (mk g I) = some (.inl (some (.int (iI (sumS (I (l + 10) (e * 10 + c)) (I (l + 12) (e * 10 + c)))))), mk g I) := by
  obtain ⟨l_0, ⟨l_1, m_1, l_2⟩, ⟨l_3, m_3, l_4⟩, ⟨l_5, m_5, l_6⟩, ⟨l_7, m_7, l_8⟩, ⟨l_9, m_9, l_10⟩, ⟨l_11, m_11, l_12⟩, ⟨l_13, m_13, l_14⟩, ⟨l_15, m_15, l_16⟩, ⟨l_17, m_17, l_18⟩, l_19, l_20⟩ := hl
  simp (maxSteps := 2000000) (disch := first | assumption | omega) only [aft_v, aft_n, aft_t, Nat.add_assoc, Nat.reduceAdd, if_true, if_false, not_true_eq_false, not_false_eq_true, Classical.not_not, Int.reduceAdd, Int.reduceSub, Int.reduceMul, Int.reduceNeg, Int.reduceLT, Int.reduceLE, Int.reduceEq, Int.add_zero, Int.zero_add, Int.sub_zero, c_43, w_43_0, w_43_1, w_43_2, w_43_3, w_43_4, s_row_get, s_placeOfChoice, s_sumOf]
theorem s_costOnward {e c n : Int} (hl : isPl g l) (he : 0 ≤ e ∧ e < 39) (hc : 0 ≤ c ∧ c < 10) (hn : 0 ≤ n ∧ n < 10) (h1 : -1 ≤ I (l + 6) ((e + 1) * 10 + n) ∧ I (l + 6) ((e + 1) * 10 + n) ≤ 100000000) (h2 : -1 ≤ I (l + 12) ((e + 1) * 10 + n) ∧ I (l + 12) ((e + 1) * 10 + n) ≤ 100000000) (h3 : -1 ≤ I (l + 8) ((e * 10 + c) * 10 + n) ∧ I (l + 8) ((e * 10 + c) * 10 + n) ≤ 100000000) :
    cl 41 [.ref l, .int (iI e), .int (iI c), .int (iI n)] (mk g I) = some (.inl (some (.int (iI (sumS (I (l + 8) ((e * 10 + c) * 10 + n)) (sumS (I (l + 6) ((e + 1) * 10 + n)) (I (l + 12) ((e + 1) * 10 + n))))))), mk g I) := by
  have hl' := hl
  obtain ⟨l_0, ⟨l_1, m_1, l_2⟩, ⟨l_3, m_3, l_4⟩, ⟨l_5, m_5, l_6⟩, ⟨l_7, m_7, l_8⟩, ⟨l_9, m_9, l_10⟩, ⟨l_11, m_11, l_12⟩, ⟨l_13, m_13, l_14⟩, ⟨l_15, m_15, l_16⟩, ⟨l_17, m_17, l_18⟩, l_19, l_20⟩ := hl
  have hs := sum_b h1 h2 (by decide) (by decide)
  simp (maxSteps := 2000000) (disch := first | assumption | omega) only [aft_v, aft_n, aft_t, Nat.add_assoc, Nat.reduceAdd, if_true, if_false, not_true_eq_false, not_false_eq_true, Classical.not_not, Int.reduceAdd, Int.reduceSub, Int.reduceMul, Int.reduceNeg, Int.reduceLT, Int.reduceLE, Int.reduceEq, Int.add_zero, Int.zero_add, Int.sub_zero, c_41, w_41_0, w_41_1, w_41_2, w_41_3, w_41_4, s_row_get, s_placeOfStep, s_sumOf, s_costFrom]
theorem s_leastInto {e c A : Int} {R : Nat} (hl : isPl g l) (hR : isR g R) (hRn : gn g (R + 1) = 400) (he : 1 ≤ e ∧ e < 40) (hc : 0 ≤ c ∧ c < 10) (hn : 0 ≤ I (l + 2) (e - 1) ∧ I (l + 2) (e - 1) ≤ 10) (hA : 0 ≤ A ∧ A ≤ 100000000)
    (h1 : ∀ i, 0 ≤ i → i < I (l + 2) (e - 1) → -1 ≤ I (R + 1) ((e - 1) * 10 + i) ∧ I (R + 1) ((e - 1) * 10 + i) ≤ A) (h2 : ∀ i, 0 ≤ i → i < I (l + 2) (e - 1) → -1 ≤ I (l + 8) (((e - 1) * 10 + i) * 10 + c) ∧ I (l + 8) (((e - 1) * 10 + i) * 10 + c) ≤ A) :
    cl 38 [.ref l, .int (iI e), .int (iI c), .ref R] (mk g I) = some (.inl (some (.int (iI (mnI (fun i => sumS (I (R + 1) ((e - 1) * 10 + i)) (I (l + 8) (((e - 1) * 10 + i) * 10 + c))) (I (l + 2) (e - 1)))))), mk g I) := by
  obtain ⟨l_0, ⟨l_1, m_1, l_2⟩, ⟨l_3, m_3, l_4⟩, ⟨l_5, m_5, l_6⟩, ⟨l_7, m_7, l_8⟩, ⟨l_9, m_9, l_10⟩, ⟨l_11, m_11, l_12⟩, ⟨l_13, m_13, l_14⟩, ⟨l_15, m_15, l_16⟩, ⟨l_17, m_17, l_18⟩, l_19, l_20⟩ := hl
  have hR' := hR.1
  have key := loop_up (σ := Option Value) (head := fun i s => rn 38 1 [some (.ref l), some (.int (iI e)), some (.int (iI c)), some (.ref R), some (.int (iI (mnI (fun i => sumS (I (R + 1) ((e - 1) * 10 + i)) (I (l + 8) (((e - 1) * 10 + i) * 10 + c))) i))), some (.int (iI i)), s] [] (mk g I)) (Inv := fun i _ => 0 ≤ i) (n := I (l + 2) (e - 1)) (by
    intro i s hi h
    refine ⟨some (.int (iI (I (l + 8) (((e - 1) * 10 + i) * 10 + c)))), ?_, by omega⟩
    have x1 := h1 i h hi
    have x2 := h2 i h hi
    have hs := sum_b x1 x2 hA.1 hA.1
    have hm := mnI_b (f := fun i => sumS (I (R + 1) ((e - 1) * 10 + i)) (I (l + 8) (((e - 1) * 10 + i) * 10 + c))) (n := i) (A := A + A) h (by omega) (fun j j0 j1 => sum_b (h1 j j0 (by omega)) (h2 j j0 (by omega)) hA.1 hA.1)
    show rn _ _ _ _ _ = rn _ _ _ _ _
    rw [mnI_s h]
    generalize mnI (fun i => sumS (I (R + 1) ((e - 1) * 10 + i)) (I (l + 8) (((e - 1) * 10 + i) * 10 + c))) i = M at *
    refine (w_38_1 (by first | assumption | omega) (by first | assumption | omega)).trans ?_
    simp (maxSteps := 2000000) (disch := first | assumption | omega) only [aft_v, aft_n, aft_t, Nat.add_assoc, Nat.reduceAdd, if_true, if_false, not_true_eq_false, not_false_eq_true, Classical.not_not, Int.reduceAdd, Int.reduceSub, Int.reduceMul, Int.reduceNeg, Int.reduceLT, Int.reduceLE, Int.reduceEq, Int.add_zero, Int.zero_add, Int.sub_zero, w_38_2, w_38_3, w_38_4, w_38_5, w_38_6, w_38_7, w_38_8, w_38_9, s_row_get, s_placeOfStep, s_placeOfChoice, s_sumOf, s_lesserOf, if_neg (show ¬ I (l + 2) (e - 1) ≤ i by omega)]) 0 none hn.1 (Int.le_refl _)
  obtain ⟨s', e1, -⟩ := key
  have e1 : rn 38 1 [some (.ref l), some (.int (iI e)), some (.int (iI c)), some (.ref R), some (.int (iI (-1))), some (.int (iI 0)), none] [] (mk g I) = _ := e1
  simp (maxSteps := 2000000) (disch := first | assumption | omega) only [aft_v, aft_n, aft_t, Nat.add_assoc, Nat.reduceAdd, if_true, if_false, not_true_eq_false, not_false_eq_true, Classical.not_not, Int.reduceAdd, Int.reduceSub, Int.reduceMul, Int.reduceNeg, Int.reduceLT, Int.reduceLE, Int.reduceEq, Int.add_zero, Int.zero_add, Int.sub_zero, c_38, w_38_0]
  rw [e1]
  show rn _ _ _ _ _ = _
  refine (w_38_1 (by first | assumption | omega) (by first | assumption | omega)).trans ?_
  simp (maxSteps := 2000000) (disch := first | assumption | omega) only [aft_v, aft_n, aft_t, Nat.add_assoc, Nat.reduceAdd, if_true, if_false, not_true_eq_false, not_false_eq_true, Classical.not_not, Int.reduceAdd, Int.reduceSub, Int.reduceMul, Int.reduceNeg, Int.reduceLT, Int.reduceLE, Int.reduceEq, Int.add_zero, Int.zero_add, Int.sub_zero, w_38_2, w_38_10, s_row_get, if_pos (show I (l + 2) (e - 1) ≤ I (l + 2) (e - 1) by omega)]
theorem s_leastOutOf {e c A : Int} (hl : isPl g l) (he : 0 ≤ e ∧ e < 39) (hc : 0 ≤ c ∧ c < 10) (hn : 0 ≤ I (l + 2) (e + 1) ∧ I (l + 2) (e + 1) ≤ 10) (hA : 0 ≤ A ∧ A ≤ 100000000)
    (h1 : ∀ i, 0 ≤ i → i < I (l + 2) (e + 1) → -1 ≤ I (l + 6) ((e + 1) * 10 + i) ∧ I (l + 6) ((e + 1) * 10 + i) ≤ A) (h2 : ∀ i, 0 ≤ i → i < I (l + 2) (e + 1) → -1 ≤ I (l + 12) ((e + 1) * 10 + i) ∧ I (l + 12) ((e + 1) * 10 + i) ≤ A) (h3 : ∀ i, 0 ≤ i → i < I (l + 2) (e + 1) → -1 ≤ I (l + 8) ((e * 10 + c) * 10 + i) ∧ I (l + 8) ((e * 10 + c) * 10 + i) ≤ A) :
    cl 40 [.ref l, .int (iI e), .int (iI c)] (mk g I) = some (.inl (some (.int (iI (mnI (fun n => sumS (I (l + 8) ((e * 10 + c) * 10 + n)) (sumS (I (l + 6) ((e + 1) * 10 + n)) (I (l + 12) ((e + 1) * 10 + n)))) (I (l + 2) (e + 1)))))), mk g I) := by
  have hl' := hl
  obtain ⟨l_0, ⟨l_1, m_1, l_2⟩, ⟨l_3, m_3, l_4⟩, ⟨l_5, m_5, l_6⟩, ⟨l_7, m_7, l_8⟩, ⟨l_9, m_9, l_10⟩, ⟨l_11, m_11, l_12⟩, ⟨l_13, m_13, l_14⟩, ⟨l_15, m_15, l_16⟩, ⟨l_17, m_17, l_18⟩, l_19, l_20⟩ := hl
  have key := loop_up (σ := Unit) (head := fun i s => rn 40 1 [some (.ref l), some (.int (iI e)), some (.int (iI c)), some (.int (iI (mnI (fun n => sumS (I (l + 8) ((e * 10 + c) * 10 + n)) (sumS (I (l + 6) ((e + 1) * 10 + n)) (I (l + 12) ((e + 1) * 10 + n)))) i))), some (.int (iI i))] [] (mk g I)) (Inv := fun i _ => 0 ≤ i) (n := I (l + 2) (e + 1)) (by
    intro i s hi h
    refine ⟨(), ?_, by omega⟩
    have x1 := h1 i h hi
    have x2 := h2 i h hi
    have x3 := h3 i h hi
    have hs := sum_b x3 (sum_b x1 x2 hA.1 hA.1) hA.1 (by omega)
    have hm := mnI_b (f := fun n => sumS (I (l + 8) ((e * 10 + c) * 10 + n)) (sumS (I (l + 6) ((e + 1) * 10 + n)) (I (l + 12) ((e + 1) * 10 + n)))) (n := i) (A := A + (A + A)) h (by omega) (fun j j0 j1 => sum_b (h3 j j0 (by omega)) (sum_b (h1 j j0 (by omega)) (h2 j j0 (by omega)) hA.1 hA.1) hA.1 (by omega))
    show rn _ _ _ _ _ = rn _ _ _ _ _
    rw [mnI_s h]
    generalize mnI (fun n => sumS (I (l + 8) ((e * 10 + c) * 10 + n)) (sumS (I (l + 6) ((e + 1) * 10 + n)) (I (l + 12) ((e + 1) * 10 + n)))) i = M at *
    refine (w_40_1 (by first | assumption | omega) (by first | assumption | omega)).trans ?_
    simp (maxSteps := 2000000) (disch := first | assumption | omega) only [aft_v, aft_n, aft_t, Nat.add_assoc, Nat.reduceAdd, if_true, if_false, not_true_eq_false, not_false_eq_true, Classical.not_not, Int.reduceAdd, Int.reduceSub, Int.reduceMul, Int.reduceNeg, Int.reduceLT, Int.reduceLE, Int.reduceEq, Int.add_zero, Int.zero_add, Int.sub_zero, w_40_2, w_40_3, w_40_4, w_40_5, s_row_get, s_costOnward, s_lesserOf, if_neg (show ¬ I (l + 2) (e + 1) ≤ i by omega)]) 0 () hn.1 (Int.le_refl _)
  obtain ⟨s', e1, -⟩ := key
  have e1 : rn 40 1 [some (.ref l), some (.int (iI e)), some (.int (iI c)), some (.int (iI (-1))), some (.int (iI 0))] [] (mk g I) = _ := e1
  simp (maxSteps := 2000000) (disch := first | assumption | omega) only [aft_v, aft_n, aft_t, Nat.add_assoc, Nat.reduceAdd, if_true, if_false, not_true_eq_false, not_false_eq_true, Classical.not_not, Int.reduceAdd, Int.reduceSub, Int.reduceMul, Int.reduceNeg, Int.reduceLT, Int.reduceLE, Int.reduceEq, Int.add_zero, Int.zero_add, Int.sub_zero, c_40, w_40_0]
  rw [e1]
  show rn _ _ _ _ _ = _
  refine (w_40_1 (by first | assumption | omega) (by first | assumption | omega)).trans ?_
  simp (maxSteps := 2000000) (disch := first | assumption | omega) only [aft_v, aft_n, aft_t, Nat.add_assoc, Nat.reduceAdd, if_true, if_false, not_true_eq_false, not_false_eq_true, Classical.not_not, Int.reduceAdd, Int.reduceSub, Int.reduceMul, Int.reduceNeg, Int.reduceLT, Int.reduceLE, Int.reduceEq, Int.add_zero, Int.zero_add, Int.sub_zero, w_40_2, w_40_6, s_row_get, if_pos (show I (l + 2) (e + 1) ≤ I (l + 2) (e + 1) by omega)]
theorem s_leastAtEnd {A : Int} {R : Nat} (hl : isPl g l) (hR : isR g R) (hRn : gn g (R + 1) = 400) (he : 1 ≤ I l 1 ∧ I l 1 ≤ 40) (hn : 0 ≤ I (l + 2) (I l 1 - 1) ∧ I (l + 2) (I l 1 - 1) ≤ 10) (hA : 0 ≤ A ∧ A ≤ 100000000)
    (h1 : ∀ i, 0 ≤ i → i < I (l + 2) (I l 1 - 1) → -1 ≤ I (R + 1) ((I l 1 - 1) * 10 + i) ∧ I (R + 1) ((I l 1 - 1) * 10 + i) ≤ A) :
    cl 44 [.ref l, .ref R] (mk g I) = some (.inl (some (.int (iI (mnI (fun i => I (R + 1) ((I l 1 - 1) * 10 + i)) (I (l + 2) (I l 1 - 1)))))), mk g I) := by
  obtain ⟨l_0, ⟨l_1, m_1, l_2⟩, ⟨l_3, m_3, l_4⟩, ⟨l_5, m_5, l_6⟩, ⟨l_7, m_7, l_8⟩, ⟨l_9, m_9, l_10⟩, ⟨l_11, m_11, l_12⟩, ⟨l_13, m_13, l_14⟩, ⟨l_15, m_15, l_16⟩, ⟨l_17, m_17, l_18⟩, l_19, l_20⟩ := hl
  have hR' := hR.1
  have key := loop_up (σ := Unit) (head := fun i s => rn 44 4 [some (.ref l), some (.ref R), some (.int (iI (mnI (fun i => I (R + 1) ((I l 1 - 1) * 10 + i)) i))), some (.int (iI i))] [] (mk g I)) (Inv := fun i _ => 0 ≤ i) (n := I (l + 2) (I l 1 - 1)) (by
    intro i s hi h
    refine ⟨(), ?_, by omega⟩
    have x1 := h1 i h hi
    have hm := mnI_b (f := fun i => I (R + 1) ((I l 1 - 1) * 10 + i)) (n := i) (A := A) h (by omega) (fun j j0 j1 => h1 j j0 (by omega))
    show rn _ _ _ _ _ = rn _ _ _ _ _
    rw [mnI_s h]
    generalize mnI (fun i => I (R + 1) ((I l 1 - 1) * 10 + i)) i = M at *
    refine (w_44_4 (by first | assumption | omega) (by first | assumption | omega)).trans ?_
    simp (maxSteps := 2000000) (disch := first | assumption | omega) only [aft_v, aft_n, aft_t, Nat.add_assoc, Nat.reduceAdd, if_true, if_false, not_true_eq_false, not_false_eq_true, Classical.not_not, Int.reduceAdd, Int.reduceSub, Int.reduceMul, Int.reduceNeg, Int.reduceLT, Int.reduceLE, Int.reduceEq, Int.add_zero, Int.zero_add, Int.sub_zero, w_44_5, w_44_6, w_44_7, w_44_8, w_44_9, s_row_get, s_placeOfChoice, s_lesserOf, if_neg (show ¬ I (l + 2) (I l 1 - 1) ≤ i by omega)]) 0 () hn.1 (Int.le_refl _)
  obtain ⟨s', e1, -⟩ := key
  have e1 : rn 44 4 [some (.ref l), some (.ref R), some (.int (iI (-1))), some (.int (iI 0))] [] (mk g I) = _ := e1
  simp (maxSteps := 2000000) (disch := first | assumption | omega) only [aft_v, aft_n, aft_t, Nat.add_assoc, Nat.reduceAdd, if_true, if_false, not_true_eq_false, not_false_eq_true, Classical.not_not, Int.reduceAdd, Int.reduceSub, Int.reduceMul, Int.reduceNeg, Int.reduceLT, Int.reduceLE, Int.reduceEq, Int.add_zero, Int.zero_add, Int.sub_zero, c_44, w_44_0, w_44_1, w_44_2, w_44_3, if_pos (show ¬ I l 1 = 0 by omega)]
  rw [e1]
  show rn _ _ _ _ _ = _
  refine (w_44_4 (by first | assumption | omega) (by first | assumption | omega)).trans ?_
  simp (maxSteps := 2000000) (disch := first | assumption | omega) only [aft_v, aft_n, aft_t, Nat.add_assoc, Nat.reduceAdd, if_true, if_false, not_true_eq_false, not_false_eq_true, Classical.not_not, Int.reduceAdd, Int.reduceSub, Int.reduceMul, Int.reduceNeg, Int.reduceLT, Int.reduceLE, Int.reduceEq, Int.add_zero, Int.zero_add, Int.sub_zero, w_44_5, w_44_10, s_row_get, if_pos (show I (l + 2) (I l 1 - 1) ≤ I (l + 2) (I l 1 - 1) by omega)]
theorem s_leastAtEnd0 {R : Nat} (hl : isPl g l) (he : I l 1 = 0) : cl 44 [.ref l, .ref R] (mk g I) = some (.inl (some (.int (iI 0))), mk g I) := by
  obtain ⟨l_0, ⟨l_1, m_1, l_2⟩, ⟨l_3, m_3, l_4⟩, ⟨l_5, m_5, l_6⟩, ⟨l_7, m_7, l_8⟩, ⟨l_9, m_9, l_10⟩, ⟨l_11, m_11, l_12⟩, ⟨l_13, m_13, l_14⟩, ⟨l_15, m_15, l_16⟩, ⟨l_17, m_17, l_18⟩, l_19, l_20⟩ := hl
  simp (maxSteps := 2000000) (disch := first | assumption | omega) only [aft_v, aft_n, aft_t, Nat.add_assoc, Nat.reduceAdd, if_true, if_false, not_true_eq_false, not_false_eq_true, Classical.not_not, Int.reduceAdd, Int.reduceSub, Int.reduceMul, Int.reduceNeg, Int.reduceLT, Int.reduceLE, Int.reduceEq, Int.add_zero, Int.zero_add, Int.sub_zero, c_44, w_44_0, w_44_1, w_44_2, w_44_3, w_44_4, w_44_5, w_44_6, w_44_7, w_44_8, w_44_9, w_44_10, he, s_row_out]
end FL
