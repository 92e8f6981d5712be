/-! The reference: passages, crossings, shapes. -/
section MP
variable {g : Gm} {I : Mm} {m : Nat}
theorem s_firstNote {e : Int} (hm : isM g m) (hr : I (m + 1) 1 = 0 ∨ I (m + 1) 1 = 1) (he : 0 ≤ e ∧ e < 40) : cl 202 [.ref m, .int (iI e)] (mk g I) = some (.inl (some (.int (iI (endS (mv I m) e 0)))), mk g I) := by
  have hm' := hm
  obtain ⟨t_0, ⟨t_1, d_1, n_1⟩, ⟨t_2, d_2, n_2⟩, ⟨t_3, d_3, n_3⟩, ⟨t_4, d_4, n_4⟩, ⟨t_5, d_5, n_5⟩, ⟨t_6, n_6⟩, ⟨t_7, d_7, n_7⟩, ⟨t_8, d_8, n_8⟩, ⟨t_9, d_9, n_9⟩, ⟨t_10, d_10, n_10⟩, ⟨t_11, d_11, n_11⟩, ⟨t_12, d_12, n_12⟩, ⟨t_13, d_13, n_13⟩, ⟨t_14, d_14, n_14⟩, ⟨t_15, n_15⟩, ⟨t_16, n_16⟩, ⟨t_17, d_17, n_17⟩, ⟨t_18, d_18, n_18⟩⟩ := hm
  have E : endS (mv I m) e 0 = if 0 = 1 - I (m + 1) 1 then 0 else I (m + 1) (42 + 8 * e) - 1 := rfl
  rw [E]
  rcases hr with hr | hr
  · rw [hr, if_neg (by decide)]
    simp (maxSteps := 2000000) (disch := first | assumption | omega) only [aft_v, aft_n, aft_t, Nat.add_assoc, Nat.reduceAdd, if_true, if_false, not_true_eq_false, not_false_eq_true, Classical.not_not, Int.reduceAdd, Int.reduceSub, Int.reduceMul, Int.reduceNeg, Int.reduceLT, Int.reduceLE, Int.reduceEq, Int.add_zero, Int.zero_add, Int.sub_zero, c_202, w_202_0, w_202_1, w_202_2, w_202_3, w_202_4, hr, show ¬ (0 : Int) = 1 by decide, s_notesOf]
  · rw [hr, if_pos (by decide)]
    simp (maxSteps := 2000000) (disch := first | assumption | omega) only [aft_v, aft_n, aft_t, Nat.add_assoc, Nat.reduceAdd, if_true, if_false, not_true_eq_false, not_false_eq_true, Classical.not_not, Int.reduceAdd, Int.reduceSub, Int.reduceMul, Int.reduceNeg, Int.reduceLT, Int.reduceLE, Int.reduceEq, Int.add_zero, Int.zero_add, Int.sub_zero, c_202, w_202_0, w_202_1, w_202_2, w_202_3, w_202_4, hr]
theorem s_lastNote {e : Int} (hm : isM g m) (hr : I (m + 1) 1 = 0 ∨ I (m + 1) 1 = 1) (he : 0 ≤ e ∧ e < 40) : cl 203 [.ref m, .int (iI e)] (mk g I) = some (.inl (some (.int (iI (endS (mv I m) e 1)))), mk g I) := by
  have hm' := hm
  obtain ⟨t_0, ⟨t_1, d_1, n_1⟩, ⟨t_2, d_2, n_2⟩, ⟨t_3, d_3, n_3⟩, ⟨t_4, d_4, n_4⟩, ⟨t_5, d_5, n_5⟩, ⟨t_6, n_6⟩, ⟨t_7, d_7, n_7⟩, ⟨t_8, d_8, n_8⟩, ⟨t_9, d_9, n_9⟩, ⟨t_10, d_10, n_10⟩, ⟨t_11, d_11, n_11⟩, ⟨t_12, d_12, n_12⟩, ⟨t_13, d_13, n_13⟩, ⟨t_14, d_14, n_14⟩, ⟨t_15, n_15⟩, ⟨t_16, n_16⟩, ⟨t_17, d_17, n_17⟩, ⟨t_18, d_18, n_18⟩⟩ := hm
  have E : endS (mv I m) e 1 = if 1 = 1 - I (m + 1) 1 then 0 else I (m + 1) (42 + 8 * e) - 1 := rfl
  rw [E]
  rcases hr with hr | hr
  · rw [hr, if_pos (by decide)]
    simp (maxSteps := 2000000) (disch := first | assumption | omega) only [aft_v, aft_n, aft_t, Nat.add_assoc, Nat.reduceAdd, if_true, if_false, not_true_eq_false, not_false_eq_true, Classical.not_not, Int.reduceAdd, Int.reduceSub, Int.reduceMul, Int.reduceNeg, Int.reduceLT, Int.reduceLE, Int.reduceEq, Int.add_zero, Int.zero_add, Int.sub_zero, c_203, w_203_0, w_203_1, w_203_2, w_203_3, w_203_4, hr, show ¬ (0 : Int) = 1 by decide]
  · rw [hr, if_neg (by decide)]
    simp (maxSteps := 2000000) (disch := first | assumption | omega) only [aft_v, aft_n, aft_t, Nat.add_assoc, Nat.reduceAdd, if_true, if_false, not_true_eq_false, not_false_eq_true, Classical.not_not, Int.reduceAdd, Int.reduceSub, Int.reduceMul, Int.reduceNeg, Int.reduceLT, Int.reduceLE, Int.reduceEq, Int.add_zero, Int.zero_add, Int.sub_zero, c_203, w_203_0, w_203_1, w_203_2, w_203_3, w_203_4, hr, s_notesOf]
theorem end_bM {P : PT} {e n : Int} (hs : 1 ≤ pSz P e) : 0 ≤ endS P e n ∧ endS P e n < pSz P e := by
  unfold endS; split <;> omega
theorem s_linkBy {e its k thn i : Int} (hm : isM g m) (hW : Wf (mv I m)) (he : 0 ≤ e ∧ e + 1 < pE (mv I m)) (hi : 0 ≤ its ∧ its < 125) (hk : 0 ≤ k ∧ k < pSz (mv I m) e) (ht : 0 ≤ thn ∧ thn < 125) (hi' : 0 ≤ i ∧ i < pSz (mv I m) (e + 1)) :
    cl 204 [.ref m, .int (iI e), .int (iI its), .int (iI k), .int (iI thn), .int (iI i)] (mk g I) = some (.inl (some (.int (iI (linkS (mv I m) (fgS its k) (pKy (mv I m) e k) (fgS thn i) (pKy (mv I m) (e + 1) i))))), mk g I) := by
  have hm' := hm
  obtain ⟨t_0, ⟨t_1, d_1, n_1⟩, ⟨t_2, d_2, n_2⟩, ⟨t_3, d_3, n_3⟩, ⟨t_4, d_4, n_4⟩, ⟨t_5, d_5, n_5⟩, ⟨t_6, n_6⟩, ⟨t_7, d_7, n_7⟩, ⟨t_8, d_8, n_8⟩, ⟨t_9, d_9, n_9⟩, ⟨t_10, d_10, n_10⟩, ⟨t_11, d_11, n_11⟩, ⟨t_12, d_12, n_12⟩, ⟨t_13, d_13, n_13⟩, ⟨t_14, d_14, n_14⟩, ⟨t_15, n_15⟩, ⟨t_16, n_16⟩, ⟨t_17, d_17, n_17⟩, ⟨t_18, d_18, n_18⟩⟩ := hm
  have w1 := hW.2.1
  have z := hW.2.2.1 e he.1 (by omega)
  have z' := hW.2.2.1 (e + 1) (by omega) (by omega)
  have k1 := (z.2.2.1 k hk.1 hk.2).1
  have k2 := (z'.2.2.1 i hi'.1 hi'.2).1
  have f1 := fgS_b (k := k) hi.1 hi.2
  have f2 := fgS_b (k := i) ht.1 ht.2
  have hl := s_linkOf (g := g) (I := I) (f := fgS its k) (k := pKy (mv I m) e k) (f' := fgS thn i) (k' := pKy (mv I m) (e + 1) i) hm' hW f1 f2 (by omega) (by omega)
  have e1 := s_keyOfM (g := g) (I := I) (e := e) (k := k) hm' (by omega) (by omega)
  have e2 := s_keyOfM (g := g) (I := I) (e := e + 1) (k := i) hm' (by omega) (by omega)
  have e1 : cl 185 [.ref m, .int (iI e), .int (iI k)] (mk g I) = some (.inl (some (.int (iI (pKy (mv I m) e k)))), mk g I) := e1
  have e2 : cl 185 [.ref m, .int (iI (e + 1)), .int (iI i)] (mk g I) = some (.inl (some (.int (iI (pKy (mv I m) (e + 1) i)))), mk g I) := e2
  simp (maxSteps := 2000000) (disch := first | assumption | omega) only [aft_v, aft_n, aft_t, Nat.add_assoc, Nat.reduceAdd, if_true, if_false, not_true_eq_false, not_false_eq_true, Classical.not_not, Int.reduceAdd, Int.reduceSub, Int.reduceMul, Int.reduceNeg, Int.reduceLT, Int.reduceLE, Int.reduceEq, Int.add_zero, Int.zero_add, Int.sub_zero, c_204, w_204_0, w_204_1, w_204_2, w_204_3, w_204_4, w_204_5, s_fingerIn, e1, e2, hl]
theorem s_passage {e its thn : Int} (hm : isM g m) (hW : Wf (mv I m)) (he : 0 ≤ e ∧ e + 1 < pE (mv I m)) (hi : 0 ≤ its ∧ its < 125) (ht : 0 ≤ thn ∧ thn < 125) :
    cl 205 [.ref m, .int (iI e), .int (iI its), .int (iI thn)] (mk g I) = some (.inl (some (.int (iI (passS (mv I m) e (pRe (mv I m) e) (fgS its) (fgS thn))))), mk g I) := by
  have hm' := hm
  obtain ⟨t_0, ⟨t_1, d_1, n_1⟩, ⟨t_2, d_2, n_2⟩, ⟨t_3, d_3, n_3⟩, ⟨t_4, d_4, n_4⟩, ⟨t_5, d_5, n_5⟩, ⟨t_6, n_6⟩, ⟨t_7, d_7, n_7⟩, ⟨t_8, d_8, n_8⟩, ⟨t_9, d_9, n_9⟩, ⟨t_10, d_10, n_10⟩, ⟨t_11, d_11, n_11⟩, ⟨t_12, d_12, n_12⟩, ⟨t_13, d_13, n_13⟩, ⟨t_14, d_14, n_14⟩, ⟨t_15, n_15⟩, ⟨t_16, n_16⟩, ⟨t_17, d_17, n_17⟩, ⟨t_18, d_18, n_18⟩⟩ := hm
  have w0 := hW.1
  have w1 := hW.2.1
  have z := hW.2.2.1 e he.1 (by omega)
  have z' := hW.2.2.1 (e + 1) (by omega) (by omega)
  have wt : ∀ w, 0 ≤ w → w < 10 → 0 ≤ I (m + 1) (2 + w) ∧ I (m + 1) (2 + w) ≤ 99 := hW.2.2.2.1
  have x8 : 0 ≤ I (m + 1) 10 ∧ I (m + 1) 10 ≤ 99 := wt 8 (by decide) (by decide)
  have x7 : 0 ≤ I (m + 1) 9 ∧ I (m + 1) 9 ≤ 99 := wt 7 (by decide) (by decide)
  have rb : 0 ≤ I (m + 1) (42 + 8 * e + 1) ∧ I (m + 1) (42 + 8 * e + 1) ≤ 9 := z.2.1
  have s1 : 1 ≤ I (m + 1) (42 + 8 * e) ∧ I (m + 1) (42 + 8 * e) ≤ 3 := z.1
  have s2 : 1 ≤ I (m + 1) (42 + 8 * (e + 1)) ∧ I (m + 1) (42 + 8 * (e + 1)) ≤ 3 := z'.1
  have hfr : cl 193 [.ref m, .int (iI e)] (mk g I) = some (.inl (some (.int (iI (if I (m + 1) 10 ≤ I (m + 1) (42 + 8 * e + 1) then 1 else 0)))), mk g I) := s_isFreeM (g := g) (I := I) (e := e) hm' (by omega) (by omega) (by have : I (m + 1) (2 + 8) = I (m + 1) 10 := rfl; omega)
  have a0 := end_bM (P := mv I m) (e := e) (n := 0) z.1.1
  have a1 := end_bM (P := mv I m) (e := e) (n := 1) z.1.1
  have b0 := end_bM (P := mv I m) (e := e + 1) (n := 0) z'.1.1
  have b1 := end_bM (P := mv I m) (e := e + 1) (n := 1) z'.1.1
  have L0 := s_linkBy (g := g) (I := I) (e := e) (its := its) (k := endS (mv I m) e 0) (thn := thn) (i := endS (mv I m) (e + 1) 0) hm' hW he hi a0 ht b0
  have L1 := s_linkBy (g := g) (I := I) (e := e) (its := its) (k := endS (mv I m) e 1) (thn := thn) (i := endS (mv I m) (e + 1) 1) hm' hW he hi a1 ht b1
  have y0 := (z.2.2.1 _ a0.1 a0.2).1
  have y1 := (z.2.2.1 _ a1.1 a1.2).1
  have v0 := (z'.2.2.1 _ b0.1 b0.2).1
  have v1 := (z'.2.2.1 _ b1.1 b1.2).1
  have B0 := link_bM (P := mv I m) (f := fgS its (endS (mv I m) e 0)) (k := pKy (mv I m) e (endS (mv I m) e 0)) (f' := fgS thn (endS (mv I m) (e + 1) 0)) (k' := pKy (mv I m) (e + 1) (endS (mv I m) (e + 1) 0)) hW (fgS_b hi.1 hi.2) (fgS_b ht.1 ht.2) (by omega) (by omega)
  have B1 := link_bM (P := mv I m) (f := fgS its (endS (mv I m) e 1)) (k := pKy (mv I m) e (endS (mv I m) e 1)) (f' := fgS thn (endS (mv I m) (e + 1) 1)) (k' := pKy (mv I m) (e + 1) (endS (mv I m) (e + 1) 1)) hW (fgS_b hi.1 hi.2) (fgS_b ht.1 ht.2) (by omega) (by omega)
  have hw7 : cl 187 [.ref m, .int (iI 7)] (mk g I) = some (.inl (some (.int (iI (I (m + 1) 9)))), mk g I) := s_weightOf (g := g) (I := I) (w := 7) hm' (by decide)
  have E : passS (mv I m) e (pRe (mv I m) e) (fgS its) (fgS thn) =
    if I (m + 1) 10 ≤ I (m + 1) (42 + 8 * e + 1) then 0 else
    if linkS (mv I m) (fgS its (endS (mv I m) e 0)) (pKy (mv I m) e (endS (mv I m) e 0)) (fgS thn (endS (mv I m) (e + 1) 0)) (pKy (mv I m) (e + 1) (endS (mv I m) (e + 1) 0)) = -1 then -1 else
    if ¬ (1 < I (m + 1) (42 + 8 * e) ∨ 1 < I (m + 1) (42 + 8 * (e + 1))) then max 0 (linkS (mv I m) (fgS its (endS (mv I m) e 0)) (pKy (mv I m) e (endS (mv I m) e 0)) (fgS thn (endS (mv I m) (e + 1) 0)) (pKy (mv I m) (e + 1) (endS (mv I m) (e + 1) 0)) - I (m + 1) 9 * I (m + 1) (42 + 8 * e + 1)) else
    if linkS (mv I m) (fgS its (endS (mv I m) e 1)) (pKy (mv I m) e (endS (mv I m) e 1)) (fgS thn (endS (mv I m) (e + 1) 1)) (pKy (mv I m) (e + 1) (endS (mv I m) (e + 1) 1)) = -1 then -1 else
    max 0 (linkS (mv I m) (fgS its (endS (mv I m) e 0)) (pKy (mv I m) e (endS (mv I m) e 0)) (fgS thn (endS (mv I m) (e + 1) 0)) (pKy (mv I m) (e + 1) (endS (mv I m) (e + 1) 0)) + linkS (mv I m) (fgS its (endS (mv I m) e 1)) (pKy (mv I m) e (endS (mv I m) e 1)) (fgS thn (endS (mv I m) (e + 1) 1)) (pKy (mv I m) (e + 1) (endS (mv I m) (e + 1) 1)) - I (m + 1) 9 * I (m + 1) (42 + 8 * e + 1)) := rfl
  rw [E]
  generalize linkS (mv I m) (fgS its (endS (mv I m) e 0)) (pKy (mv I m) e (endS (mv I m) e 0)) (fgS thn (endS (mv I m) (e + 1) 0)) (pKy (mv I m) (e + 1) (endS (mv I m) (e + 1) 0)) = X0 at *
  generalize linkS (mv I m) (fgS its (endS (mv I m) e 1)) (pKy (mv I m) e (endS (mv I m) e 1)) (fgS thn (endS (mv I m) (e + 1) 1)) (pKy (mv I m) (e + 1) (endS (mv I m) (e + 1) 1)) = X1 at *
  have em := mul_b (a := I (m + 1) 9) (b := I (m + 1) (42 + 8 * e + 1)) (A := 99) (B := 9) x7.1 x7.2 rb.1 rb.2
  have hR : I (m + 1) 1 = 0 ∨ I (m + 1) 1 = 1 := w0
  by_cases c0 : I (m + 1) 10 ≤ I (m + 1) (42 + 8 * e + 1)
  · rw [if_pos c0] at hfr ⊢
    simp (maxSteps := 2000000) (disch := first | assumption | omega) only [aft_v, aft_n, aft_t, Nat.add_assoc, Nat.reduceAdd, if_true, if_false, not_true_eq_false, not_false_eq_true, Classical.not_not, Int.reduceAdd, Int.reduceSub, Int.reduceMul, Int.reduceNeg, Int.reduceLT, Int.reduceLE, Int.reduceEq, Int.add_zero, Int.zero_add, Int.sub_zero, c_205, w_205_0, w_205_1, w_205_2, hfr, show ¬ (1 : Int) = 0 by decide]
  rw [if_neg c0] at hfr ⊢
  by_cases c1 : I (m + 1) (42 + 8 * e) + I (m + 1) (42 + 8 * (e + 1)) = 2
  · rw [if_pos (show ¬ (1 < I (m + 1) (42 + 8 * e) ∨ 1 < I (m + 1) (42 + 8 * (e + 1))) by omega)]
    by_cases c2 : X0 = -1
    · rw [if_pos c2]
      simp (maxSteps := 2000000) (disch := first | assumption | omega) only [aft_v, aft_n, aft_t, Nat.add_assoc, Nat.reduceAdd, if_true, if_false, not_true_eq_false, not_false_eq_true, Classical.not_not, Int.reduceAdd, Int.reduceSub, Int.reduceMul, Int.reduceNeg, Int.reduceLT, Int.reduceLE, Int.reduceEq, Int.add_zero, Int.zero_add, Int.sub_zero, c_205, w_205_0, w_205_1, w_205_2, w_205_3, w_205_4, w_205_5, w_205_6, w_205_7, w_205_8, w_205_9, w_205_10, w_205_11, w_205_12, w_205_13, w_205_14, w_205_15, w_205_16, w_205_17, w_205_18, hfr, s_firstNote, L0, s_notesOf, c1, c2]
    · rw [if_neg c2]
      simp (maxSteps := 2000000) (disch := first | assumption | omega) only [aft_v, aft_n, aft_t, Nat.add_assoc, Nat.reduceAdd, if_true, if_false, not_true_eq_false, not_false_eq_true, Classical.not_not, Int.reduceAdd, Int.reduceSub, Int.reduceMul, Int.reduceNeg, Int.reduceLT, Int.reduceLE, Int.reduceEq, Int.add_zero, Int.zero_add, Int.sub_zero, c_205, w_205_0, w_205_1, w_205_2, w_205_3, w_205_4, w_205_5, w_205_6, w_205_7, w_205_8, w_205_9, w_205_10, w_205_11, w_205_12, w_205_13, w_205_14, w_205_15, w_205_16, w_205_17, w_205_18, hfr, s_firstNote, L0, s_notesOf, c1, c2, hw7, s_restOf, show ¬ (0 : Int) = -1 by decide]
  · rw [if_neg (show ¬ ¬ (1 < I (m + 1) (42 + 8 * e) ∨ 1 < I (m + 1) (42 + 8 * (e + 1))) by omega)]
    by_cases c2 : X0 = -1
    · rw [if_pos c2]
      simp (maxSteps := 2000000) (disch := first | assumption | omega) only [aft_v, aft_n, aft_t, Nat.add_assoc, Nat.reduceAdd, if_true, if_false, not_true_eq_false, not_false_eq_true, Classical.not_not, Int.reduceAdd, Int.reduceSub, Int.reduceMul, Int.reduceNeg, Int.reduceLT, Int.reduceLE, Int.reduceEq, Int.add_zero, Int.zero_add, Int.sub_zero, c_205, w_205_0, w_205_1, w_205_2, w_205_3, w_205_4, w_205_5, w_205_6, w_205_7, w_205_8, w_205_9, w_205_10, w_205_11, w_205_12, w_205_13, w_205_14, w_205_15, w_205_16, w_205_17, w_205_18, hfr, s_firstNote, s_lastNote, L0, L1, s_notesOf, c1, c2]
    · rw [if_neg c2]
      by_cases c3 : X1 = -1
      · rw [if_pos c3]
        simp (maxSteps := 2000000) (disch := first | assumption | omega) only [aft_v, aft_n, aft_t, Nat.add_assoc, Nat.reduceAdd, if_true, if_false, not_true_eq_false, not_false_eq_true, Classical.not_not, Int.reduceAdd, Int.reduceSub, Int.reduceMul, Int.reduceNeg, Int.reduceLT, Int.reduceLE, Int.reduceEq, Int.add_zero, Int.zero_add, Int.sub_zero, c_205, w_205_0, w_205_1, w_205_2, w_205_3, w_205_4, w_205_5, w_205_6, w_205_7, w_205_8, w_205_9, w_205_10, w_205_11, w_205_12, w_205_13, w_205_14, w_205_15, w_205_16, w_205_17, w_205_18, hfr, s_firstNote, s_lastNote, L0, L1, s_notesOf, c1, c2, c3]
      · rw [if_neg c3]
        simp (maxSteps := 2000000) (disch := first | assumption | omega) only [aft_v, aft_n, aft_t, Nat.add_assoc, Nat.reduceAdd, if_true, if_false, not_true_eq_false, not_false_eq_true, Classical.not_not, Int.reduceAdd, Int.reduceSub, Int.reduceMul, Int.reduceNeg, Int.reduceLT, Int.reduceLE, Int.reduceEq, Int.add_zero, Int.zero_add, Int.sub_zero, c_205, w_205_0, w_205_1, w_205_2, w_205_3, w_205_4, w_205_5, w_205_6, w_205_7, w_205_8, w_205_9, w_205_10, w_205_11, w_205_12, w_205_13, w_205_14, w_205_15, w_205_16, w_205_17, w_205_18, hfr, s_firstNote, s_lastNote, L0, L1, s_notesOf, c1, c2, c3, hw7, s_restOf]
/-- nothing but a number of rows is another -/
def onlS (S : Nat → Prop) (I I' : Mm) : Prop := ∀ p, ¬ S p → I' p = I p
theorem s_looksAt {its n : Int} (hm : isM g m) (hi : 0 ≤ its ∧ its < 125) (hn : 1 ≤ n ∧ n ≤ 3) :
    ∃ I', cl 200 [.ref m, .int (iI its), .int (iI n)] (mk g I) = some (.inl none, mk g I') ∧ onl (m + 8) I I' ∧ ∀ k, 0 ≤ k → k < n → I' (m + 8) k = fgS its k := by
  obtain ⟨t_0, ⟨t_1, d_1, n_1⟩, ⟨t_2, d_2, n_2⟩, ⟨t_3, d_3, n_3⟩, ⟨t_4, d_4, n_4⟩, ⟨t_5, d_5, n_5⟩, ⟨t_6, n_6⟩, ⟨t_7, d_7, n_7⟩, ⟨t_8, d_8, n_8⟩, ⟨t_9, d_9, n_9⟩, ⟨t_10, d_10, n_10⟩, ⟨t_11, d_11, n_11⟩, ⟨t_12, d_12, n_12⟩, ⟨t_13, d_13, n_13⟩, ⟨t_14, d_14, n_14⟩, ⟨t_15, n_15⟩, ⟨t_16, n_16⟩, ⟨t_17, d_17, n_17⟩, ⟨t_18, d_18, n_18⟩⟩ := hm
  have key := loop_up (σ := Mm) (head := fun k s => rn 200 1 [some (.ref m), some (.int (iI its)), some (.int (iI n)), some (.int (iI k))] [] (mk g s)) (Inv := fun k s => 0 ≤ k ∧ onl (m + 8) I s ∧ ∀ k', 0 ≤ k' → k' < k → s (m + 8) k' = fgS its k') (n := n) (by
    rintro k J k1 ⟨k0, h1, h2⟩
    refine ⟨upd2 J (m + 8) k (fgS its k), ?_, by omega, h1.upd, fun k' a b => ?_⟩
    · show rn _ _ _ _ (mk g J) = rn _ _ _ _ _
      refine (w_200_1 (by first | assumption | omega) (by first | assumption | omega) (by first | assumption | omega) (by first | assumption | omega)).trans ?_
      refine (if_neg (by omega)).trans ?_
      simp (maxSteps := 2000000) (disch := first | assumption | omega) only [aft_v, aft_n, aft_t, Nat.add_assoc, Nat.reduceAdd, if_true, if_false, not_true_eq_false, not_false_eq_true, Classical.not_not, Int.reduceAdd, Int.reduceSub, Int.reduceMul, Int.reduceNeg, Int.reduceLT, Int.reduceLE, Int.reduceEq, Int.add_zero, Int.zero_add, Int.sub_zero, w_200_2, w_200_3, s_fingerIn]
    · by_cases hk : k' = k
      · subst hk; exact upd2_at
      · rw [upd2_i hk]; exact h2 k' a (by omega)) 0 I (by omega) ⟨Int.le_refl _, onl.refl, fun k' a b => by omega⟩
  obtain ⟨J, e1, -, k1, k2⟩ := key
  have e1 : rn 200 1 [some (.ref m), some (.int (iI its)), some (.int (iI n)), some (.int (iI 0))] [] (mk g I) = rn 200 1 [some (.ref m), some (.int (iI its)), some (.int (iI n)), some (.int (iI n))] [] (mk g J) := e1
  refine ⟨J, ?_, k1, k2⟩
  simp (maxSteps := 2000000) (disch := first | assumption | omega) only [aft_v, aft_n, aft_t, Nat.add_assoc, Nat.reduceAdd, if_true, if_false, not_true_eq_false, not_false_eq_true, Classical.not_not, Int.reduceAdd, Int.reduceSub, Int.reduceMul, Int.reduceNeg, Int.reduceLT, Int.reduceLE, Int.reduceEq, Int.add_zero, Int.zero_add, Int.sub_zero, c_200, w_200_0]
  rw [e1]
  refine (w_200_1 (by first | assumption | omega) (by first | assumption | omega) (by first | assumption | omega) (by first | assumption | omega)).trans ?_
  refine (if_pos (by omega)).trans ?_
  simp (maxSteps := 2000000) (disch := first | assumption | omega) only [aft_v, aft_n, aft_t, Nat.add_assoc, Nat.reduceAdd, if_true, if_false, not_true_eq_false, not_false_eq_true, Classical.not_not, Int.reduceAdd, Int.reduceSub, Int.reduceMul, Int.reduceNeg, Int.reduceLT, Int.reduceLE, Int.reduceEq, Int.add_zero, Int.zero_add, Int.sub_zero, w_200_4]
end MP
