/-! The reference: changes. -/
section MS
variable {g : Gm} {I : Mm} {m : Nat} {P : PT}
theorem s_setRestM {e r : Int} (hm : isM g m) (hn : 0 ≤ I (m + 1) 0 ∧ I (m + 1) 0 ≤ 40) (h6 : 0 ≤ I m 6 ∧ I m 6 ≤ 8) (he : 0 ≤ e ∧ e < I (m + 1) 0) (hr : 0 ≤ r ∧ r ≤ 9) :
    ∃ K, cl 253 [.ref m, .int (iI e), .int (iI r)] (mk g I) = some (.inl (some (.int (iI (I (m + 1) (42 + 8 * e + 1))))), mk g (upd2 K (m + 1) (42 + 8 * e + 1) r)) ∧ kpM m (m + 1) (upd2 I m 7 0) K := by
  have q := s_isEvent (g := g) (I := I) (e := e) hm (by omega) hn
  rw [if_pos he] at q
  have qr := s_isIn (g := g) (I := I) (a := r) (b := 0) (c := 9) (by omega) (by omega) (by omega)
  rw [if_pos hr] at qr
  obtain ⟨K, k1, k2⟩ := s_sets (g := g) (I := upd2 I m 7 0) (k := 42 + 8 * e + 1) (v := r) hm (by rw [upd2_i (by decide)]; exact h6) (by omega)
  rw [upd2_p (show ¬ m + 1 = m by omega)] at k1
  have u7 : upd2 I m 7 0 m 7 = 0 := upd2_at
  obtain ⟨t_0, ⟨t_1, d_1, n_1⟩, ⟨t_2, d_2, n_2⟩, ⟨t_3, d_3, n_3⟩, ⟨t_4, d_4, n_4⟩, ⟨t_5, d_5, n_5⟩, ⟨t_6, n_6⟩, ⟨t_7, d_7, n_7⟩, ⟨t_8, d_8, n_8⟩, ⟨t_9, d_9, n_9⟩, ⟨t_10, d_10, n_10⟩, ⟨t_11, d_11, n_11⟩, ⟨t_12, d_12, n_12⟩, ⟨t_13, d_13, n_13⟩, ⟨t_14, d_14, n_14⟩, ⟨t_15, n_15⟩, ⟨t_16, n_16⟩, ⟨t_17, d_17, n_17⟩, ⟨t_18, d_18, n_18⟩⟩ := hm
  refine ⟨K, ?_, k2⟩
  simp (maxSteps := 2000000) (disch := first | assumption | omega) only [aft_v, aft_n, aft_t, Nat.add_assoc, Nat.reduceAdd, if_true, if_false, not_true_eq_false, not_false_eq_true, Classical.not_not, Int.reduceAdd, Int.reduceSub, Int.reduceMul, Int.reduceNeg, Int.reduceLT, Int.reduceLE, Int.reduceEq, Int.add_zero, Int.zero_add, Int.sub_zero, c_253, w_253_0, w_253_1, w_253_3, w_253_4, w_253_5, w_253_7, w_253_9, w_253_10, q, qr, u7, k1, show ¬ (1 : Int) = 0 by decide, if_pos (Int.le_refl 0)]
theorem s_setRestBad {e r : Int} (hm : isM g m) (hn : 0 ≤ I (m + 1) 0 ∧ I (m + 1) 0 ≤ 40) (hre : (-2147483648 ≤ e ∧ e < 2147483648)) (he : ¬ (0 ≤ e ∧ e < I (m + 1) 0)) : cl 253 [.ref m, .int (iI e), .int (iI r)] (mk g I) = some (.inl (some (.int (iI 0))), mk g (upd2 I m 7 1)) := by
  have q := s_isEvent (g := g) (I := I) (e := e) hm hre hn
  rw [if_neg he] at q
  have u7 : upd2 I m 7 1 m 7 = 1 := upd2_at
  obtain ⟨t_0, ⟨t_1, d_1, n_1⟩, ⟨t_2, d_2, n_2⟩, ⟨t_3, d_3, n_3⟩, ⟨t_4, d_4, n_4⟩, ⟨t_5, d_5, n_5⟩, ⟨t_6, n_6⟩, ⟨t_7, d_7, n_7⟩, ⟨t_8, d_8, n_8⟩, ⟨t_9, d_9, n_9⟩, ⟨t_10, d_10, n_10⟩, ⟨t_11, d_11, n_11⟩, ⟨t_12, d_12, n_12⟩, ⟨t_13, d_13, n_13⟩, ⟨t_14, d_14, n_14⟩, ⟨t_15, n_15⟩, ⟨t_16, n_16⟩, ⟨t_17, d_17, n_17⟩, ⟨t_18, d_18, n_18⟩⟩ := hm
  simp (maxSteps := 2000000) (disch := first | assumption | omega) only [aft_v, aft_n, aft_t, Nat.add_assoc, Nat.reduceAdd, if_true, if_false, not_true_eq_false, not_false_eq_true, Classical.not_not, Int.reduceAdd, Int.reduceSub, Int.reduceMul, Int.reduceNeg, Int.reduceLT, Int.reduceLE, Int.reduceEq, Int.add_zero, Int.zero_add, Int.sub_zero, c_253, w_253_0, w_253_1, w_253_2, w_253_7, w_253_8, w_253_10, q, u7, if_neg (show ¬ (1 : Int) ≤ 0 by decide)]
theorem s_setRestBadR {e r : Int} (hm : isM g m) (hn : 0 ≤ I (m + 1) 0 ∧ I (m + 1) 0 ≤ 40) (he : 0 ≤ e ∧ e < I (m + 1) 0) (hrr : (-2147483648 ≤ r ∧ r < 2147483648)) (hr : ¬ (0 ≤ r ∧ r ≤ 9)) : cl 253 [.ref m, .int (iI e), .int (iI r)] (mk g I) = some (.inl (some (.int (iI 0))), mk g (upd2 I m 7 2)) := by
  have q := s_isEvent (g := g) (I := I) (e := e) hm (by omega) hn
  rw [if_pos he] at q
  have qr := s_isIn (g := g) (I := I) (a := r) (b := 0) (c := 9) (by omega) (by omega) (by omega)
  rw [if_neg hr] at qr
  have u7 : upd2 I m 7 2 m 7 = 2 := upd2_at
  obtain ⟨t_0, ⟨t_1, d_1, n_1⟩, ⟨t_2, d_2, n_2⟩, ⟨t_3, d_3, n_3⟩, ⟨t_4, d_4, n_4⟩, ⟨t_5, d_5, n_5⟩, ⟨t_6, n_6⟩, ⟨t_7, d_7, n_7⟩, ⟨t_8, d_8, n_8⟩, ⟨t_9, d_9, n_9⟩, ⟨t_10, d_10, n_10⟩, ⟨t_11, d_11, n_11⟩, ⟨t_12, d_12, n_12⟩, ⟨t_13, d_13, n_13⟩, ⟨t_14, d_14, n_14⟩, ⟨t_15, n_15⟩, ⟨t_16, n_16⟩, ⟨t_17, d_17, n_17⟩, ⟨t_18, d_18, n_18⟩⟩ := hm
  simp (maxSteps := 2000000) (disch := first | assumption | omega) only [aft_v, aft_n, aft_t, Nat.add_assoc, Nat.reduceAdd, if_true, if_false, not_true_eq_false, not_false_eq_true, Classical.not_not, Int.reduceAdd, Int.reduceSub, Int.reduceMul, Int.reduceNeg, Int.reduceLT, Int.reduceLE, Int.reduceEq, Int.add_zero, Int.zero_add, Int.sub_zero, c_253, w_253_0, w_253_1, w_253_3, w_253_4, w_253_6, w_253_7, w_253_8, w_253_10, q, qr, u7, show ¬ (1 : Int) = 0 by decide, if_neg (show ¬ (2 : Int) ≤ 0 by decide)]
theorem s_letM {e k f may : Int} (hm : isM g m) (hW : Wf (mv I m)) (h6 : 0 ≤ I m 6 ∧ I m 6 ≤ 8) (he : 0 ≤ e ∧ e < I (m + 1) 0) (hk : 0 ≤ k ∧ k < I (m + 1) (42 + 8 * e)) (hf : 1 ≤ f ∧ f ≤ 5) (hy : may = 0 ∨ may = 1) :
    ∃ K w, cl 254 [.ref m, .int (iI e), .int (iI k), .int (iI f), .int (iI may)] (mk g I) = some (.inl (some (.int (iI (ltS (I (m + 1) (42 + 8 * e + 5 + k)) f may)))), mk g (upd2 (upd2 K (m + 1) (42 + 8 * e + 5 + k) (ltS (I (m + 1) (42 + 8 * e + 5 + k)) f may)) m 27 w)) ∧ kpM m (m + 1) (upd2 I m 7 0) K := by
  have hn := hW.2.1
  have hn : 0 ≤ I (m + 1) 0 ∧ I (m + 1) 0 ≤ 40 := hn
  have hz : 1 ≤ I (m + 1) (42 + 8 * e) ∧ I (m + 1) (42 + 8 * e) ≤ 3 := (hW.2.2.1 e he.1 he.2).1
  have q := s_isNote (g := g) (I := I) (e := e) (k := k) hm hW (by omega) (by omega)
  rw [if_pos ⟨he, hk⟩] at q
  have qf := s_isFinger (g := g) (I := I) (a := f) (by omega)
  rw [if_pos hf] at qf
  obtain ⟨v, hv⟩ : ∃ v, v = ltS (I (m + 1) (42 + 8 * e + 5 + k)) f may := ⟨_, rfl⟩
  obtain ⟨K, k1, k2⟩ := s_sets (g := g) (I := upd2 I m 7 0) (k := 42 + 8 * e + 5 + k) (v := v) hm (by rw [upd2_i (by decide)]; exact h6) (by omega)
  have ua : upd2 I m 7 0 (m + 1) (42 + 8 * e + 5 + k) = I (m + 1) (42 + 8 * e + 5 + k) := upd2_p (by omega)
  rw [ua] at k1
  have u7 : upd2 I m 7 0 m 7 = 0 := upd2_at
  have uv : upd2 (upd2 K (m + 1) (42 + 8 * e + 5 + k) v) m 27 (I (m + 1) (42 + 8 * e + 5 + k)) (m + 1) (42 + 8 * e + 5 + k) = v := by rw [upd2_p (by omega), upd2_at]
  have sb : shlI 1 (f - 1) = bitF f := by unfold bitF; rw [if_pos hf]
  obtain ⟨t_0, ⟨t_1, d_1, n_1⟩, ⟨t_2, d_2, n_2⟩, ⟨t_3, d_3, n_3⟩, ⟨t_4, d_4, n_4⟩, ⟨t_5, d_5, n_5⟩, ⟨t_6, n_6⟩, ⟨t_7, d_7, n_7⟩, ⟨t_8, d_8, n_8⟩, ⟨t_9, d_9, n_9⟩, ⟨t_10, d_10, n_10⟩, ⟨t_11, d_11, n_11⟩, ⟨t_12, d_12, n_12⟩, ⟨t_13, d_13, n_13⟩, ⟨t_14, d_14, n_14⟩, ⟨t_15, n_15⟩, ⟨t_16, n_16⟩, ⟨t_17, d_17, n_17⟩, ⟨t_18, d_18, n_18⟩⟩ := hm
  refine ⟨K, I (m + 1) (42 + 8 * e + 5 + k), ?_, k2⟩
  rw [← hv]
  rcases hy with rfl | rfl
  · have hv : andI (I (m + 1) (42 + 8 * e + 5 + k)) (xorI (bitF f) (-1)) = v := by rw [hv]; unfold ltS; rw [if_pos rfl]
    simp (maxSteps := 2000000) (disch := first | assumption | omega) only [aft_v, aft_n, aft_t, Nat.add_assoc, Nat.reduceAdd, if_true, if_false, not_true_eq_false, not_false_eq_true, Classical.not_not, Int.reduceAdd, Int.reduceSub, Int.reduceMul, Int.reduceNeg, Int.reduceLT, Int.reduceLE, Int.reduceEq, Int.add_zero, Int.zero_add, Int.sub_zero, c_254, w_254_0, w_254_1, w_254_2, w_254_3, w_254_4, w_254_6, w_254_8, w_254_10, w_254_11, w_254_12, q, qf, u7, ua, sb, hv, k1, uv, show ¬ (1 : Int) = 0 by decide, if_pos (Int.le_refl 0)]
  · have hv : orI (I (m + 1) (42 + 8 * e + 5 + k)) (bitF f) = v := by rw [hv]; unfold ltS; rw [if_neg (by decide)]
    simp (maxSteps := 2000000) (disch := first | assumption | omega) only [aft_v, aft_n, aft_t, Nat.add_assoc, Nat.reduceAdd, if_true, if_false, not_true_eq_false, not_false_eq_true, Classical.not_not, Int.reduceAdd, Int.reduceSub, Int.reduceMul, Int.reduceNeg, Int.reduceLT, Int.reduceLE, Int.reduceEq, Int.add_zero, Int.zero_add, Int.sub_zero, c_254, w_254_0, w_254_1, w_254_2, w_254_3, w_254_4, w_254_6, w_254_8, w_254_9, w_254_11, w_254_12, q, qf, u7, ua, sb, hv, k1, uv, show ¬ (1 : Int) = 0 by decide, if_pos (Int.le_refl 0)]
theorem s_letBad {e k f may : Int} (hm : isM g m) (hW : Wf (mv I m)) (hr : (-2147483648 ≤ e ∧ e < 2147483648)) (hr2 : (-2147483648 ≤ k ∧ k < 2147483648)) (hr3 : (-2147483648 ≤ f ∧ f < 2147483648)) (h : ¬ (((0 ≤ e ∧ e < I (m + 1) 0) ∧ 0 ≤ k ∧ k < I (m + 1) (42 + 8 * e)) ∧ 1 ≤ f ∧ f ≤ 5)) : cl 254 [.ref m, .int (iI e), .int (iI k), .int (iI f), .int (iI may)] (mk g I) = some (.inl (some (.int (iI 0))), mk g (upd2 I m 7 1)) := by
  have q := s_isNote (g := g) (I := I) (e := e) (k := k) hm hW hr hr2
  have q1 := s_isFinger (g := g) (I := I) (a := f) hr3
  have u7 : upd2 I m 7 1 m 7 = 1 := upd2_at
  obtain ⟨t_0, ⟨t_1, d_1, n_1⟩, ⟨t_2, d_2, n_2⟩, ⟨t_3, d_3, n_3⟩, ⟨t_4, d_4, n_4⟩, ⟨t_5, d_5, n_5⟩, ⟨t_6, n_6⟩, ⟨t_7, d_7, n_7⟩, ⟨t_8, d_8, n_8⟩, ⟨t_9, d_9, n_9⟩, ⟨t_10, d_10, n_10⟩, ⟨t_11, d_11, n_11⟩, ⟨t_12, d_12, n_12⟩, ⟨t_13, d_13, n_13⟩, ⟨t_14, d_14, n_14⟩, ⟨t_15, n_15⟩, ⟨t_16, n_16⟩, ⟨t_17, d_17, n_17⟩, ⟨t_18, d_18, n_18⟩⟩ := hm
  by_cases h1 : (0 ≤ e ∧ e < I (m + 1) 0) ∧ 0 ≤ k ∧ k < I (m + 1) (42 + 8 * e)
  · rw [if_pos h1] at q
    rw [if_neg (fun z => h ⟨h1, z⟩)] at q1
    simp (maxSteps := 2000000) (disch := first | assumption | omega) only [aft_v, aft_n, aft_t, Nat.add_assoc, Nat.reduceAdd, if_true, if_false, not_true_eq_false, not_false_eq_true, Classical.not_not, Int.reduceAdd, Int.reduceSub, Int.reduceMul, Int.reduceNeg, Int.reduceLT, Int.reduceLE, Int.reduceEq, Int.add_zero, Int.zero_add, Int.sub_zero, c_254, w_254_0, w_254_1, w_254_2, w_254_3, w_254_5, w_254_6, w_254_7, q, q1, u7, if_neg (show ¬ (1 : Int) ≤ 0 by decide), show ¬ (1 : Int) = 0 by decide]
  · rw [if_neg h1] at q
    simp (maxSteps := 2000000) (disch := first | assumption | omega) only [aft_v, aft_n, aft_t, Nat.add_assoc, Nat.reduceAdd, if_true, if_false, not_true_eq_false, not_false_eq_true, Classical.not_not, Int.reduceAdd, Int.reduceSub, Int.reduceMul, Int.reduceNeg, Int.reduceLT, Int.reduceLE, Int.reduceEq, Int.add_zero, Int.zero_add, Int.sub_zero, c_254, w_254_0, w_254_1, w_254_5, w_254_6, w_254_7, q, u7, if_neg (show ¬ (1 : Int) ≤ 0 by decide)]
theorem s_setWeightM {w v : Int} (hm : isM g m) (h6 : 0 ≤ I m 6 ∧ I m 6 ≤ 8) (hw : 0 ≤ w ∧ w ≤ 9) (hv : 0 ≤ v ∧ v ≤ 99) :
    ∃ K, cl 255 [.ref m, .int (iI w), .int (iI v)] (mk g I) = some (.inl (some (.int (iI (I (m + 1) (2 + w))))), mk g (upd2 K (m + 1) (2 + w) v)) ∧ kpM m (m + 1) (upd2 I m 7 0) K := by
  have q := s_isIn (g := g) (I := I) (a := w) (b := 0) (c := 9) (by omega) (by omega) (by omega)
  rw [if_pos hw] at q
  have qr := s_isIn (g := g) (I := I) (a := v) (b := 0) (c := 99) (by omega) (by omega) (by omega)
  rw [if_pos hv] at qr
  obtain ⟨K, k1, k2⟩ := s_sets (g := g) (I := upd2 I m 7 0) (k := 2 + w) (v := v) hm (by rw [upd2_i (by decide)]; exact h6) (by omega)
  rw [upd2_p (show ¬ m + 1 = m by omega)] at k1
  have u7 : upd2 I m 7 0 m 7 = 0 := upd2_at
  obtain ⟨t_0, ⟨t_1, d_1, n_1⟩, ⟨t_2, d_2, n_2⟩, ⟨t_3, d_3, n_3⟩, ⟨t_4, d_4, n_4⟩, ⟨t_5, d_5, n_5⟩, ⟨t_6, n_6⟩, ⟨t_7, d_7, n_7⟩, ⟨t_8, d_8, n_8⟩, ⟨t_9, d_9, n_9⟩, ⟨t_10, d_10, n_10⟩, ⟨t_11, d_11, n_11⟩, ⟨t_12, d_12, n_12⟩, ⟨t_13, d_13, n_13⟩, ⟨t_14, d_14, n_14⟩, ⟨t_15, n_15⟩, ⟨t_16, n_16⟩, ⟨t_17, d_17, n_17⟩, ⟨t_18, d_18, n_18⟩⟩ := hm
  refine ⟨K, ?_, k2⟩
  simp (maxSteps := 2000000) (disch := first | assumption | omega) only [aft_v, aft_n, aft_t, Nat.add_assoc, Nat.reduceAdd, if_true, if_false, not_true_eq_false, not_false_eq_true, Classical.not_not, Int.reduceAdd, Int.reduceSub, Int.reduceMul, Int.reduceNeg, Int.reduceLT, Int.reduceLE, Int.reduceEq, Int.add_zero, Int.zero_add, Int.sub_zero, c_255, w_255_0, w_255_1, w_255_3, w_255_4, w_255_5, w_255_7, w_255_9, w_255_10, q, qr, u7, k1, show ¬ (1 : Int) = 0 by decide, if_pos (Int.le_refl 0)]
theorem s_setWeightBad {w v : Int} (hm : isM g m) (hr : (-2147483648 ≤ w ∧ w < 2147483648)) (hw : ¬ (0 ≤ w ∧ w ≤ 9)) : cl 255 [.ref m, .int (iI w), .int (iI v)] (mk g I) = some (.inl (some (.int (iI 0))), mk g (upd2 I m 7 1)) := by
  have q := s_isIn (g := g) (I := I) (a := w) (b := 0) (c := 9) (by omega) (by omega) (by omega)
  rw [if_neg hw] at q
  have u7 : upd2 I m 7 1 m 7 = 1 := upd2_at
  obtain ⟨t_0, ⟨t_1, d_1, n_1⟩, ⟨t_2, d_2, n_2⟩, ⟨t_3, d_3, n_3⟩, ⟨t_4, d_4, n_4⟩, ⟨t_5, d_5, n_5⟩, ⟨t_6, n_6⟩, ⟨t_7, d_7, n_7⟩, ⟨t_8, d_8, n_8⟩, ⟨t_9, d_9, n_9⟩, ⟨t_10, d_10, n_10⟩, ⟨t_11, d_11, n_11⟩, ⟨t_12, d_12, n_12⟩, ⟨t_13, d_13, n_13⟩, ⟨t_14, d_14, n_14⟩, ⟨t_15, n_15⟩, ⟨t_16, n_16⟩, ⟨t_17, d_17, n_17⟩, ⟨t_18, d_18, n_18⟩⟩ := hm
  simp (maxSteps := 2000000) (disch := first | assumption | omega) only [aft_v, aft_n, aft_t, Nat.add_assoc, Nat.reduceAdd, if_true, if_false, not_true_eq_false, not_false_eq_true, Classical.not_not, Int.reduceAdd, Int.reduceSub, Int.reduceMul, Int.reduceNeg, Int.reduceLT, Int.reduceLE, Int.reduceEq, Int.add_zero, Int.zero_add, Int.sub_zero, c_255, w_255_0, w_255_1, w_255_2, w_255_7, w_255_8, w_255_10, q, u7, if_neg (show ¬ (1 : Int) ≤ 0 by decide)]
theorem s_setWeightBadV {w v : Int} (hm : isM g m) (hw : 0 ≤ w ∧ w ≤ 9) (hr : (-2147483648 ≤ v ∧ v < 2147483648)) (hv : ¬ (0 ≤ v ∧ v ≤ 99)) : cl 255 [.ref m, .int (iI w), .int (iI v)] (mk g I) = some (.inl (some (.int (iI 0))), mk g (upd2 I m 7 2)) := by
  have q := s_isIn (g := g) (I := I) (a := w) (b := 0) (c := 9) (by omega) (by omega) (by omega)
  rw [if_pos hw] at q
  have qr := s_isIn (g := g) (I := I) (a := v) (b := 0) (c := 99) (by omega) (by omega) (by omega)
  rw [if_neg hv] at qr
  have u7 : upd2 I m 7 2 m 7 = 2 := upd2_at
  obtain ⟨t_0, ⟨t_1, d_1, n_1⟩, ⟨t_2, d_2, n_2⟩, ⟨t_3, d_3, n_3⟩, ⟨t_4, d_4, n_4⟩, ⟨t_5, d_5, n_5⟩, ⟨t_6, n_6⟩, ⟨t_7, d_7, n_7⟩, ⟨t_8, d_8, n_8⟩, ⟨t_9, d_9, n_9⟩, ⟨t_10, d_10, n_10⟩, ⟨t_11, d_11, n_11⟩, ⟨t_12, d_12, n_12⟩, ⟨t_13, d_13, n_13⟩, ⟨t_14, d_14, n_14⟩, ⟨t_15, n_15⟩, ⟨t_16, n_16⟩, ⟨t_17, d_17, n_17⟩, ⟨t_18, d_18, n_18⟩⟩ := hm
  simp (maxSteps := 2000000) (disch := first | assumption | omega) only [aft_v, aft_n, aft_t, Nat.add_assoc, Nat.reduceAdd, if_true, if_false, not_true_eq_false, not_false_eq_true, Classical.not_not, Int.reduceAdd, Int.reduceSub, Int.reduceMul, Int.reduceNeg, Int.reduceLT, Int.reduceLE, Int.reduceEq, Int.add_zero, Int.zero_add, Int.sub_zero, c_255, w_255_0, w_255_1, w_255_3, w_255_4, w_255_6, w_255_7, w_255_8, w_255_10, q, qr, u7, show ¬ (1 : Int) = 0 by decide, if_neg (show ¬ (2 : Int) ≤ 0 by decide)]
theorem s_setSpanM {a b lo hi li : Int} (hm : isM g m) (h6 : 0 ≤ I m 6 ∧ I m 6 ≤ 8) (ha : 1 ≤ a ∧ a ≤ 5) (hb : 1 ≤ b ∧ b ≤ 5) (hs : spOk a b lo hi li) :
    ∃ K, cl 256 [.ref m, .int (iI a), .int (iI b), .int (iI lo), .int (iI hi), .int (iI li)] (mk g I) = some (.inl (some (.int (iI (I (m + 1) (prS a b + 2))))), mk g (psU K m a b lo hi li)) ∧ kpM m (m + 1) (upd2 I m 7 0) K := by
  obtain ⟨hn, h1, h2, h3⟩ := hs
  have w1 := s_isIn (g := g) (I := I) (a := lo) (b := 1) (c := 24) (by omega) (by omega) (by omega)
  have w2 := s_isIn (g := g) (I := I) (a := hi) (b := lo) (c := 24) (by omega) (by omega) (by omega)
  have w3 := s_isIn (g := g) (I := I) (a := li) (b := hi) (c := 24) (by omega) (by omega) (by omega)
  rw [if_pos h1] at w1
  rw [if_pos h2] at w2
  rw [if_pos h3] at w3
  have f1 := s_isFinger (g := g) (I := I) (a := a) (by omega)
  have f2 := s_isFinger (g := g) (I := I) (a := b) (by omega)
  rw [if_pos ha] at f1
  rw [if_pos hb] at f2
  have pb := prS_b ha hb hn
  obtain ⟨K, k1, k2⟩ := s_keeps (g := g) (I := upd2 I m 7 0) (r := m + 1) hm (Or.inl rfl) (by rw [upd2_i (by decide)]; exact h6)
  have q2 := s_pairOfM (g := g) (I := K) ha hb
  have q3 := s_putsSpan (g := g) (I := K) (lo := lo) (hi := hi) (li := li) hm ha hb hn
  have km : K (m + 1) = I (m + 1) := by rw [k2.1 _ (by omega) (by omega)]; exact funext fun j => upd2_p (by omega)
  have kv : K (m + 1) (prS a b + 2) = I (m + 1) (prS a b + 2) := by rw [km]
  have u7 : upd2 I m 7 0 m 7 = 0 := upd2_at
  obtain ⟨t_0, ⟨t_1, d_1, n_1⟩, ⟨t_2, d_2, n_2⟩, ⟨t_3, d_3, n_3⟩, ⟨t_4, d_4, n_4⟩, ⟨t_5, d_5, n_5⟩, ⟨t_6, n_6⟩, ⟨t_7, d_7, n_7⟩, ⟨t_8, d_8, n_8⟩, ⟨t_9, d_9, n_9⟩, ⟨t_10, d_10, n_10⟩, ⟨t_11, d_11, n_11⟩, ⟨t_12, d_12, n_12⟩, ⟨t_13, d_13, n_13⟩, ⟨t_14, d_14, n_14⟩, ⟨t_15, n_15⟩, ⟨t_16, n_16⟩, ⟨t_17, d_17, n_17⟩, ⟨t_18, d_18, n_18⟩⟩ := hm
  refine ⟨K, ?_, k2⟩
  simp (maxSteps := 2000000) (disch := first | assumption | omega) only [aft_v, aft_n, aft_t, Nat.add_assoc, Nat.reduceAdd, if_true, if_false, not_true_eq_false, not_false_eq_true, Classical.not_not, Int.reduceAdd, Int.reduceSub, Int.reduceMul, Int.reduceNeg, Int.reduceLT, Int.reduceLE, Int.reduceEq, Int.add_zero, Int.zero_add, Int.sub_zero, c_256, w_256_0, w_256_1, w_256_2, w_256_3, w_256_4, w_256_5, w_256_6, w_256_7, w_256_9, w_256_10, w_256_11, w_256_12, w_256_14, w_256_15, w_256_17, w_256_19, w_256_20, w_256_21, w_256_22, hn, w1, w2, w3, f1, f2, u7, k1, q2, q3, kv, show ¬ (1 : Int) = 0 by decide, if_pos (Int.le_refl 0)]
theorem s_setSpanBadF {a b lo hi li : Int} (hm : isM g m) (hra : (-2147483648 ≤ a ∧ a < 2147483648)) (hrb : (-2147483648 ≤ b ∧ b < 2147483648)) (r1 : (-2147483648 ≤ lo ∧ lo < 2147483648)) (r2 : (-2147483648 ≤ hi ∧ hi < 2147483648)) (r3 : (-2147483648 ≤ li ∧ li < 2147483648)) (h : ¬ ((1 ≤ a ∧ a ≤ 5) ∧ 1 ≤ b ∧ b ≤ 5)) : cl 256 [.ref m, .int (iI a), .int (iI b), .int (iI lo), .int (iI hi), .int (iI li)] (mk g I) = some (.inl (some (.int (iI 0))), mk g (upd2 I m 7 1)) := by
  have w1 := s_isIn (g := g) (I := I) (a := lo) (b := 1) (c := 24) (by omega) (by omega) (by omega)
  have w2 := s_isIn (g := g) (I := I) (a := hi) (b := lo) (c := 24) (by omega) (by omega) (by omega)
  have w3 := s_isIn (g := g) (I := I) (a := li) (b := hi) (c := 24) (by omega) (by omega) (by omega)
  have f1 := s_isFinger (g := g) (I := I) (a := a) hra
  have f2 := s_isFinger (g := g) (I := I) (a := b) hrb
  have u7 : upd2 I m 7 1 m 7 = 1 := upd2_at
  obtain ⟨t_0, ⟨t_1, d_1, n_1⟩, ⟨t_2, d_2, n_2⟩, ⟨t_3, d_3, n_3⟩, ⟨t_4, d_4, n_4⟩, ⟨t_5, d_5, n_5⟩, ⟨t_6, n_6⟩, ⟨t_7, d_7, n_7⟩, ⟨t_8, d_8, n_8⟩, ⟨t_9, d_9, n_9⟩, ⟨t_10, d_10, n_10⟩, ⟨t_11, d_11, n_11⟩, ⟨t_12, d_12, n_12⟩, ⟨t_13, d_13, n_13⟩, ⟨t_14, d_14, n_14⟩, ⟨t_15, n_15⟩, ⟨t_16, n_16⟩, ⟨t_17, d_17, n_17⟩, ⟨t_18, d_18, n_18⟩⟩ := hm
  -- the flag
  have fl : ∃ v, (v = 0 ∨ v = 1) ∧ cl 256 [.ref m, .int (iI a), .int (iI b), .int (iI lo), .int (iI hi), .int (iI li)] (mk g I) = rn 256 9 [some (.ref m), some (.int (iI a)), some (.int (iI b)), some (.int (iI lo)), some (.int (iI hi)), some (.int (iI li)), none, none] [.int (iI v)] (mk g I) := by
    by_cases hn : a = b
    · refine ⟨0, Or.inl rfl, ?_⟩
      simp (maxSteps := 2000000) (disch := first | assumption | omega) only [aft_v, aft_n, aft_t, Nat.add_assoc, Nat.reduceAdd, if_true, if_false, not_true_eq_false, not_false_eq_true, Classical.not_not, Int.reduceAdd, Int.reduceSub, Int.reduceMul, Int.reduceNeg, Int.reduceLT, Int.reduceLE, Int.reduceEq, Int.add_zero, Int.zero_add, Int.sub_zero, c_256, w_256_0, w_256_8, hn]
    by_cases h1 : 1 ≤ lo ∧ lo ≤ 24
    · rw [if_pos h1] at w1
      by_cases h2 : lo ≤ hi ∧ hi ≤ 24
      · rw [if_pos h2] at w2
        by_cases h3 : hi ≤ li ∧ li ≤ 24
        · rw [if_pos h3] at w3
          refine ⟨1, Or.inr rfl, ?_⟩
          simp (maxSteps := 2000000) (disch := first | assumption | omega) only [aft_v, aft_n, aft_t, Nat.add_assoc, Nat.reduceAdd, if_true, if_false, not_true_eq_false, not_false_eq_true, Classical.not_not, Int.reduceAdd, Int.reduceSub, Int.reduceMul, Int.reduceNeg, Int.reduceLT, Int.reduceLE, Int.reduceEq, Int.add_zero, Int.zero_add, Int.sub_zero, c_256, w_256_0, w_256_1, w_256_2, w_256_3, w_256_4, w_256_5, w_256_6, w_256_7, hn, w1, w2, w3, show ¬ (1 : Int) = 0 by decide]
        · rw [if_neg h3] at w3
          refine ⟨0, Or.inl rfl, ?_⟩
          simp (maxSteps := 2000000) (disch := first | assumption | omega) only [aft_v, aft_n, aft_t, Nat.add_assoc, Nat.reduceAdd, if_true, if_false, not_true_eq_false, not_false_eq_true, Classical.not_not, Int.reduceAdd, Int.reduceSub, Int.reduceMul, Int.reduceNeg, Int.reduceLT, Int.reduceLE, Int.reduceEq, Int.add_zero, Int.zero_add, Int.sub_zero, c_256, w_256_0, w_256_1, w_256_2, w_256_3, w_256_4, w_256_5, w_256_6, w_256_8, hn, w1, w2, w3, show ¬ (1 : Int) = 0 by decide]
      · rw [if_neg h2] at w2
        refine ⟨0, Or.inl rfl, ?_⟩
        simp (maxSteps := 2000000) (disch := first | assumption | omega) only [aft_v, aft_n, aft_t, Nat.add_assoc, Nat.reduceAdd, if_true, if_false, not_true_eq_false, not_false_eq_true, Classical.not_not, Int.reduceAdd, Int.reduceSub, Int.reduceMul, Int.reduceNeg, Int.reduceLT, Int.reduceLE, Int.reduceEq, Int.add_zero, Int.zero_add, Int.sub_zero, c_256, w_256_0, w_256_1, w_256_2, w_256_3, w_256_4, w_256_8, hn, w1, w2, show ¬ (1 : Int) = 0 by decide]
    · rw [if_neg h1] at w1
      refine ⟨0, Or.inl rfl, ?_⟩
      simp (maxSteps := 2000000) (disch := first | assumption | omega) only [aft_v, aft_n, aft_t, Nat.add_assoc, Nat.reduceAdd, if_true, if_false, not_true_eq_false, not_false_eq_true, Classical.not_not, Int.reduceAdd, Int.reduceSub, Int.reduceMul, Int.reduceNeg, Int.reduceLT, Int.reduceLE, Int.reduceEq, Int.add_zero, Int.zero_add, Int.sub_zero, c_256, w_256_0, w_256_1, w_256_2, w_256_8, hn, w1]
  obtain ⟨v, hv, e⟩ := fl
  rw [e]
  by_cases ha : 1 ≤ a ∧ a ≤ 5
  · rw [if_pos ha] at f1
    rw [if_neg (fun z => h ⟨ha, z⟩)] at f2
    simp (maxSteps := 2000000) (disch := first | assumption | omega) only [aft_v, aft_n, aft_t, Nat.add_assoc, Nat.reduceAdd, if_true, if_false, not_true_eq_false, not_false_eq_true, Classical.not_not, Int.reduceAdd, Int.reduceSub, Int.reduceMul, Int.reduceNeg, Int.reduceLT, Int.reduceLE, Int.reduceEq, Int.add_zero, Int.zero_add, Int.sub_zero, w_256_9, w_256_10, w_256_11, w_256_12, w_256_13, w_256_17, w_256_18, f1, f2, u7, show ¬ (1 : Int) = 0 by decide, if_neg (show ¬ (1 : Int) ≤ 0 by decide)]
  · rw [if_neg ha] at f1
    simp (maxSteps := 2000000) (disch := first | assumption | omega) only [aft_v, aft_n, aft_t, Nat.add_assoc, Nat.reduceAdd, if_true, if_false, not_true_eq_false, not_false_eq_true, Classical.not_not, Int.reduceAdd, Int.reduceSub, Int.reduceMul, Int.reduceNeg, Int.reduceLT, Int.reduceLE, Int.reduceEq, Int.add_zero, Int.zero_add, Int.sub_zero, w_256_9, w_256_10, w_256_13, w_256_17, w_256_18, f1, u7, if_neg (show ¬ (1 : Int) ≤ 0 by decide)]
theorem s_setSpanBadS {a b lo hi li : Int} (hm : isM g m) (ha : 1 ≤ a ∧ a ≤ 5) (hb : 1 ≤ b ∧ b ≤ 5) (r1 : (-2147483648 ≤ lo ∧ lo < 2147483648)) (r2 : (-2147483648 ≤ hi ∧ hi < 2147483648)) (r3 : (-2147483648 ≤ li ∧ li < 2147483648)) (h : ¬ spOk a b lo hi li) : cl 256 [.ref m, .int (iI a), .int (iI b), .int (iI lo), .int (iI hi), .int (iI li)] (mk g I) = some (.inl (some (.int (iI 0))), mk g (upd2 I m 7 2)) := by
  have w1 := s_isIn (g := g) (I := I) (a := lo) (b := 1) (c := 24) (by omega) (by omega) (by omega)
  have w2 := s_isIn (g := g) (I := I) (a := hi) (b := lo) (c := 24) (by omega) (by omega) (by omega)
  have w3 := s_isIn (g := g) (I := I) (a := li) (b := hi) (c := 24) (by omega) (by omega) (by omega)
  have f1 := s_isFinger (g := g) (I := I) (a := a) (by omega)
  have f2 := s_isFinger (g := g) (I := I) (a := b) (by omega)
  rw [if_pos ha] at f1
  rw [if_pos hb] at f2
  have u7 : upd2 I m 7 2 m 7 = 2 := upd2_at
  unfold spOk at h
  obtain ⟨t_0, ⟨t_1, d_1, n_1⟩, ⟨t_2, d_2, n_2⟩, ⟨t_3, d_3, n_3⟩, ⟨t_4, d_4, n_4⟩, ⟨t_5, d_5, n_5⟩, ⟨t_6, n_6⟩, ⟨t_7, d_7, n_7⟩, ⟨t_8, d_8, n_8⟩, ⟨t_9, d_9, n_9⟩, ⟨t_10, d_10, n_10⟩, ⟨t_11, d_11, n_11⟩, ⟨t_12, d_12, n_12⟩, ⟨t_13, d_13, n_13⟩, ⟨t_14, d_14, n_14⟩, ⟨t_15, n_15⟩, ⟨t_16, n_16⟩, ⟨t_17, d_17, n_17⟩, ⟨t_18, d_18, n_18⟩⟩ := hm
  have fl : cl 256 [.ref m, .int (iI a), .int (iI b), .int (iI lo), .int (iI hi), .int (iI li)] (mk g I) = rn 256 9 [some (.ref m), some (.int (iI a)), some (.int (iI b)), some (.int (iI lo)), some (.int (iI hi)), some (.int (iI li)), none, none] [.int (iI 0)] (mk g I) := by
    by_cases hn : a = b
    · simp (maxSteps := 2000000) (disch := first | assumption | omega) only [aft_v, aft_n, aft_t, Nat.add_assoc, Nat.reduceAdd, if_true, if_false, not_true_eq_false, not_false_eq_true, Classical.not_not, Int.reduceAdd, Int.reduceSub, Int.reduceMul, Int.reduceNeg, Int.reduceLT, Int.reduceLE, Int.reduceEq, Int.add_zero, Int.zero_add, Int.sub_zero, c_256, w_256_0, w_256_8, hn]
    by_cases h1 : 1 ≤ lo ∧ lo ≤ 24
    · rw [if_pos h1] at w1
      by_cases h2 : lo ≤ hi ∧ hi ≤ 24
      · rw [if_pos h2] at w2
        rw [if_neg (fun h3 => h ⟨hn, h1, h2, h3⟩)] at w3
        simp (maxSteps := 2000000) (disch := first | assumption | omega) only [aft_v, aft_n, aft_t, Nat.add_assoc, Nat.reduceAdd, if_true, if_false, not_true_eq_false, not_false_eq_true, Classical.not_not, Int.reduceAdd, Int.reduceSub, Int.reduceMul, Int.reduceNeg, Int.reduceLT, Int.reduceLE, Int.reduceEq, Int.add_zero, Int.zero_add, Int.sub_zero, c_256, w_256_0, w_256_1, w_256_2, w_256_3, w_256_4, w_256_5, w_256_6, w_256_8, hn, w1, w2, w3, show ¬ (1 : Int) = 0 by decide]
      · rw [if_neg h2] at w2
        simp (maxSteps := 2000000) (disch := first | assumption | omega) only [aft_v, aft_n, aft_t, Nat.add_assoc, Nat.reduceAdd, if_true, if_false, not_true_eq_false, not_false_eq_true, Classical.not_not, Int.reduceAdd, Int.reduceSub, Int.reduceMul, Int.reduceNeg, Int.reduceLT, Int.reduceLE, Int.reduceEq, Int.add_zero, Int.zero_add, Int.sub_zero, c_256, w_256_0, w_256_1, w_256_2, w_256_3, w_256_4, w_256_8, hn, w1, w2, show ¬ (1 : Int) = 0 by decide]
    · rw [if_neg h1] at w1
      simp (maxSteps := 2000000) (disch := first | assumption | omega) only [aft_v, aft_n, aft_t, Nat.add_assoc, Nat.reduceAdd, if_true, if_false, not_true_eq_false, not_false_eq_true, Classical.not_not, Int.reduceAdd, Int.reduceSub, Int.reduceMul, Int.reduceNeg, Int.reduceLT, Int.reduceLE, Int.reduceEq, Int.add_zero, Int.zero_add, Int.sub_zero, c_256, w_256_0, w_256_1, w_256_2, w_256_8, hn, w1]
  rw [fl]
  simp (maxSteps := 2000000) (disch := first | assumption | omega) only [aft_v, aft_n, aft_t, Nat.add_assoc, Nat.reduceAdd, if_true, if_false, not_true_eq_false, not_false_eq_true, Classical.not_not, Int.reduceAdd, Int.reduceSub, Int.reduceMul, Int.reduceNeg, Int.reduceLT, Int.reduceLE, Int.reduceEq, Int.add_zero, Int.zero_add, Int.sub_zero, w_256_9, w_256_10, w_256_11, w_256_12, w_256_14, w_256_16, w_256_17, w_256_18, f1, f2, u7, show ¬ (1 : Int) = 0 by decide, if_neg (show ¬ (2 : Int) ≤ 0 by decide)]
theorem kpM_mv {K : Mm} (h : kpM m (m + 1) (upd2 I m 7 0) K) : K (m + 1) = I (m + 1) := by
  rw [h.1 _ (by omega) (by omega)]; exact funext fun j => upd2_p (by omega)
theorem s_setHandM {L : Nat → Int → Int} {r : Int} (hm : isM g m) (hW : Wf P) (hP : P = mv I m) (h6 : 0 ≤ I m 6 ∧ I m 6 ≤ 8) (hr : r = 0 ∨ r = 1) :
    ∃ K w I' L', cl 257 [.ref m, .int (iI r)] (mk (gL g L) I) = some (.inl (some (.int (iI (lsS (mv (upd2 K (m + 1) 1 r) m) 0)))), mk (gL g L') I') ∧ kpM m (m + 1) (upd2 I m 7 0) K ∧ frM m (upd2 (upd2 K (m + 1) 1 r) m 27 w) I' ∧ frML m L L' := by
  obtain ⟨K, k1, k2⟩ := s_sets (g := gL g L) (I := upd2 I m 7 0) (k := 1) (v := r) hm (by rw [upd2_i (by decide)]; exact h6) (by omega)
  have km := kpM_mv k2
  have hsz := Wf_sz (I := I) (m := m) (by rw [← hP]; exact hW)
  obtain ⟨w, hw⟩ : ∃ w, w = upd2 I m 7 0 (m + 1) 1 := ⟨_, rfl⟩
  rw [← hw] at k1
  obtain ⟨K2, hK2⟩ : ∃ K2, K2 = upd2 (upd2 K (m + 1) 1 r) m 27 w := ⟨_, rfl⟩
  have e2 : mv K2 m = mv (upd2 K (m + 1) 1 r) m := by
    unfold mv
    rw [show K2 (m + 1) = upd2 K (m + 1) 1 r (m + 1) by rw [hK2]; exact funext fun j => upd2_p (by omega)]
  have hA : Agr (mv (upd2 K (m + 1) 1 r) m) (ohP (mv K m) r) := agr_oh (fun e a b => by rw [km] at b ⊢; exact (hsz e a b).2)
  have hWo : Wf (ohP (mv K m) r) := by
    have : mv K m = P := by rw [hP]; unfold mv; rw [km]
    rw [this]; exact oh_Wf hW hr
  have hW2 : Wf (mv K2 m) := by rw [e2]; exact hWo.agr hA.symm
  obtain ⟨J, L1, j1, j2, j3, j4⟩ := s_bestNow (g := g) (I := K2) (L := L) (P := mv K2 m) hm hW2 rfl
  rw [e2] at j1
  have hbd := Wf_bd hW2
  rw [e2] at hbd
  have lsb := ls_b hbd (b := 0)
  have fb := far_b lsb (by decide)
  have q2 := s_orNone (g := gL g L1) (I := J) (a := farS (lsS (mv (upd2 K (m + 1) 1 r) m) 0)) (by omega)
  rw [far_back lsb (by decide)] at q2
  refine ⟨K, w, J, L1, ?_, k2, by rw [← hK2]; exact j2, j3⟩
  obtain ⟨t_0, ⟨t_1, d_1, n_1⟩, ⟨t_2, d_2, n_2⟩, ⟨t_3, d_3, n_3⟩, ⟨t_4, d_4, n_4⟩, ⟨t_5, d_5, n_5⟩, ⟨t_6, n_6⟩, ⟨t_7, d_7, n_7⟩, ⟨t_8, d_8, n_8⟩, ⟨t_9, d_9, n_9⟩, ⟨t_10, d_10, n_10⟩, ⟨t_11, d_11, n_11⟩, ⟨t_12, d_12, n_12⟩, ⟨t_13, d_13, n_13⟩, ⟨t_14, d_14, n_14⟩, ⟨t_15, n_15⟩, ⟨t_16, n_16⟩, ⟨t_17, d_17, n_17⟩, ⟨t_18, d_18, n_18⟩⟩ := hm
  rcases hr with rfl | rfl
  · simp (maxSteps := 2000000) (disch := first | assumption | omega | (simp (disch := omega) only [gL_gL, gL_21, gtL, gnL, gL_1, gL_gL, gL_21, upd2_p]; first | assumption | omega)) only [gL_gL, gL_21, aft_v, aft_n, aft_t, Nat.add_assoc, Nat.reduceAdd, if_true, if_false, not_true_eq_false, not_false_eq_true, Classical.not_not, Int.reduceAdd, Int.reduceSub, Int.reduceMul, Int.reduceNeg, Int.reduceLT, Int.reduceLE, Int.reduceEq, Int.add_zero, Int.zero_add, Int.sub_zero, c_257, w_257_0, w_257_2, w_257_3, k1]
    refine (w_257_4 (g := gL g L) t_0 t_0).trans ?_
    rw [← hK2]
    simp (maxSteps := 2000000) (disch := first | assumption | omega | (simp (disch := omega) only [gL_gL, gL_21, gtL, gnL, gL_1, gL_gL, gL_21, upd2_p]; first | assumption | omega)) only [gL_gL, gL_21, aft_v, aft_n, aft_t, Nat.add_assoc, Nat.reduceAdd, if_true, if_false, not_true_eq_false, not_false_eq_true, Classical.not_not, Int.reduceAdd, Int.reduceSub, Int.reduceMul, Int.reduceNeg, Int.reduceLT, Int.reduceLE, Int.reduceEq, Int.add_zero, Int.zero_add, Int.sub_zero, w_257_5, w_257_6, j1, q2]
  · simp (maxSteps := 2000000) (disch := first | assumption | omega | (simp (disch := omega) only [gL_gL, gL_21, gtL, gnL, gL_1, gL_gL, gL_21, upd2_p]; first | assumption | omega)) only [gL_gL, gL_21, aft_v, aft_n, aft_t, Nat.add_assoc, Nat.reduceAdd, if_true, if_false, not_true_eq_false, not_false_eq_true, Classical.not_not, Int.reduceAdd, Int.reduceSub, Int.reduceMul, Int.reduceNeg, Int.reduceLT, Int.reduceLE, Int.reduceEq, Int.add_zero, Int.zero_add, Int.sub_zero, c_257, w_257_0, w_257_1, w_257_3, k1, show ¬ (1 : Int) = 0 by decide]
    refine (w_257_4 (g := gL g L) t_0 t_0).trans ?_
    rw [← hK2]
    simp (maxSteps := 2000000) (disch := first | assumption | omega | (simp (disch := omega) only [gL_gL, gL_21, gtL, gnL, gL_1, gL_gL, gL_21, upd2_p]; first | assumption | omega)) only [gL_gL, gL_21, aft_v, aft_n, aft_t, Nat.add_assoc, Nat.reduceAdd, if_true, if_false, not_true_eq_false, not_false_eq_true, Classical.not_not, Int.reduceAdd, Int.reduceSub, Int.reduceMul, Int.reduceNeg, Int.reduceLT, Int.reduceLE, Int.reduceEq, Int.add_zero, Int.zero_add, Int.sub_zero, w_257_5, w_257_6, j1, q2]
theorem s_transposeM {L : Nat → Int → Int} {d : Int} (hm : isM g m) (hW : Wf P) (hP : P = mv I m) (h6 : 0 ≤ I m 6 ∧ I m 6 ≤ 8) (hd : -87 ≤ d ∧ d ≤ 87) (hf : fitS P d) :
    ∃ K I' L', cl 258 [.ref m, .int (iI d)] (mk (gL g L) I) = some (.inl (some (.int (iI (lsS (mv (shK K m d (42 + 8 * K (m + 1) 0 + 2 + 0)) m) 0)))), mk (gL g L') I') ∧ kpM m (m + 1) (upd2 I m 7 0) K ∧ frM m (shK K m d (42 + 8 * K (m + 1) 0 + 2 + 0)) I' ∧ frML m L L' := by
  have q := s_canMove' (g := gL g L) (I := I) (d := d) hm hW hP (by omega)
  rw [if_pos ⟨hd, hf⟩] at q
  have w1 := hW.2.1
  have hE : pE P = I (m + 1) 0 := by rw [hP]; rfl
  obtain ⟨K, k1, k2⟩ := s_keeps (g := gL g L) (I := upd2 I m 7 0) (r := m + 1) hm (Or.inl rfl) (by rw [upd2_i (by decide)]; exact h6)
  have km := kpM_mv k2
  have hsz := Wf_sz (I := I) (m := m) (by rw [← hP]; exact hW)
  have hK : P = mv K m := by rw [hP]; unfold mv; rw [km]
  have m1 := s_moves (g := gL g L) (I := K) (d := d) hm (by rw [km, ← hE]; exact w1) (fun e a b => by rw [km] at b ⊢; exact hsz e a b)
  have hA := agr_sh (I := K) (m := m) (d := d) (by rw [km]; omega) (fun e a b => by rw [km] at b ⊢; exact (hsz e a b).2)
  obtain ⟨S, hS⟩ : ∃ S, S = shK K m d (42 + 8 * K (m + 1) 0 + 2 + 0) := ⟨_, rfl⟩
  rw [← hS] at m1 hA
  rw [← hK] at hA
  have hW2 := (sh_Wf hW hf).agr hA.symm
  obtain ⟨J, L1, j1, j2, j3, j4⟩ := s_bestNow (g := g) (I := S) (L := L) (P := mv S m) hm hW2 rfl
  have hbd := Wf_bd hW2
  have lsb := ls_b hbd (b := 0)
  have fb := far_b lsb (by decide)
  have q2 := s_orNone (g := gL g L1) (I := J) (a := farS (lsS (mv S m) 0)) (by omega)
  rw [far_back lsb (by decide)] at q2
  have u7 : upd2 I m 7 0 m 7 = 0 := upd2_at
  refine ⟨K, J, L1, ?_, k2, by rw [← hS]; exact j2, j3⟩
  rw [← hS]
  obtain ⟨t_0, ⟨t_1, d_1, n_1⟩, ⟨t_2, d_2, n_2⟩, ⟨t_3, d_3, n_3⟩, ⟨t_4, d_4, n_4⟩, ⟨t_5, d_5, n_5⟩, ⟨t_6, n_6⟩, ⟨t_7, d_7, n_7⟩, ⟨t_8, d_8, n_8⟩, ⟨t_9, d_9, n_9⟩, ⟨t_10, d_10, n_10⟩, ⟨t_11, d_11, n_11⟩, ⟨t_12, d_12, n_12⟩, ⟨t_13, d_13, n_13⟩, ⟨t_14, d_14, n_14⟩, ⟨t_15, n_15⟩, ⟨t_16, n_16⟩, ⟨t_17, d_17, n_17⟩, ⟨t_18, d_18, n_18⟩⟩ := hm
  simp (maxSteps := 2000000) (disch := first | assumption | omega | (simp (disch := omega) only [gL_gL, gL_21, gtL, gnL, gL_1, gL_gL, gL_21, upd2_p]; first | assumption | omega)) only [gL_gL, gL_21, aft_v, aft_n, aft_t, Nat.add_assoc, Nat.reduceAdd, if_true, if_false, not_true_eq_false, not_false_eq_true, Classical.not_not, Int.reduceAdd, Int.reduceSub, Int.reduceMul, Int.reduceNeg, Int.reduceLT, Int.reduceLE, Int.reduceEq, Int.add_zero, Int.zero_add, Int.sub_zero, c_258, w_258_0, w_258_1, w_258_2, w_258_4, w_258_6, w_258_7, w_258_8, w_258_9, w_258_10, q, u7, k1, m1, j1, q2, show ¬ (1 : Int) = 0 by decide, if_pos (Int.le_refl 0)]
theorem s_transposeBad {d : Int} (hm : isM g m) (hW : Wf P) (hP : P = mv I m) (hd : (-2147483648 ≤ d ∧ d < 2147483648)) (h : ¬ ((-87 ≤ d ∧ d ≤ 87) ∧ fitS P d)) : cl 258 [.ref m, .int (iI d)] (mk g I) = some (.inl (some (.int (iI 0))), mk g (upd2 I m 7 1)) := by
  have q := s_canMove' (g := g) (I := I) (d := d) hm hW hP hd
  rw [if_neg h] at q
  have u7 : upd2 I m 7 1 m 7 = 1 := upd2_at
  obtain ⟨t_0, ⟨t_1, d_1, n_1⟩, ⟨t_2, d_2, n_2⟩, ⟨t_3, d_3, n_3⟩, ⟨t_4, d_4, n_4⟩, ⟨t_5, d_5, n_5⟩, ⟨t_6, n_6⟩, ⟨t_7, d_7, n_7⟩, ⟨t_8, d_8, n_8⟩, ⟨t_9, d_9, n_9⟩, ⟨t_10, d_10, n_10⟩, ⟨t_11, d_11, n_11⟩, ⟨t_12, d_12, n_12⟩, ⟨t_13, d_13, n_13⟩, ⟨t_14, d_14, n_14⟩, ⟨t_15, n_15⟩, ⟨t_16, n_16⟩, ⟨t_17, d_17, n_17⟩, ⟨t_18, d_18, n_18⟩⟩ := hm
  simp (maxSteps := 2000000) (disch := first | assumption | omega) only [aft_v, aft_n, aft_t, Nat.add_assoc, Nat.reduceAdd, if_true, if_false, not_true_eq_false, not_false_eq_true, Classical.not_not, Int.reduceAdd, Int.reduceSub, Int.reduceMul, Int.reduceNeg, Int.reduceLT, Int.reduceLE, Int.reduceEq, Int.add_zero, Int.zero_add, Int.sub_zero, c_258, w_258_0, w_258_1, w_258_3, w_258_4, w_258_5, q, u7, if_neg (show ¬ (1 : Int) ≤ 0 by decide)]
/-- rows moved up by eight places, those above j -/
def upU (I : Mm) (p : Nat) (j : Int) : Mm := fun r i => if r = p ∧ j < i ∧ i ≤ 361 then I p (i - 8) else I r i
theorem upU_0 {I : Mm} {p : Nat} : upU I p 361 = I := by funext r i; exact if_neg (by omega)
theorem upU_p {I : Mm} {p r : Nat} {j : Int} (h : ¬ r = p) : upU I p j r = I r := by funext i; exact if_neg (fun z => h z.1)
theorem upU_lo {I : Mm} {p : Nat} {j i : Int} (h : i ≤ j) : upU I p j p i = I p i := if_neg (fun z => by omega)
theorem upU_hi {I : Mm} {p : Nat} {j i : Int} (h : j < i ∧ i ≤ 361) : upU I p j p i = I p (i - 8) := if_pos ⟨rfl, h⟩
theorem upU_s {I : Mm} {p : Nat} {j : Int} (h : j ≤ 361) : upd2 (upU I p j) p j (upU I p j p (j - 8)) = upU I p (j - 1) := by
  rw [upU_lo (by omega)]
  funext r i
  by_cases hp : r = p
  · subst hp
    by_cases hi : i = j
    · subst hi
      rw [upd2_at, upU_hi (by omega)]
    · rw [upd2_i hi]
      by_cases hc : j < i ∧ i ≤ 361
      · rw [upU_hi hc, upU_hi (by omega)]
      · unfold upU
        rw [if_neg (fun z => hc z.2), if_neg (fun z => hc (by omega))]
  · rw [upd2_p hp, upU_p hp, upU_p hp]
/-- rows moved down by eight places, from lo to below j -/
def dwU (I : Mm) (p : Nat) (lo j : Int) : Mm := fun r i => if r = p ∧ lo ≤ i ∧ i < j then I p (i + 8) else I r i
theorem dwU_0 {I : Mm} {p : Nat} {lo : Int} : dwU I p lo lo = I := by funext r i; exact if_neg (by omega)
theorem dwU_p {I : Mm} {p r : Nat} {lo j : Int} (h : ¬ r = p) : dwU I p lo j r = I r := by funext i; exact if_neg (fun z => h z.1)
theorem dwU_in {I : Mm} {p : Nat} {lo j i : Int} (h : lo ≤ i ∧ i < j) : dwU I p lo j p i = I p (i + 8) := if_pos ⟨rfl, h⟩
theorem dwU_out {I : Mm} {p : Nat} {lo j i : Int} (h : ¬ (lo ≤ i ∧ i < j)) : dwU I p lo j p i = I p i := if_neg (fun z => h z.2)
theorem dwU_s {I : Mm} {p : Nat} {lo j : Int} (h : lo ≤ j) : upd2 (dwU I p lo j) p j (dwU I p lo j p (j + 8)) = dwU I p lo (j + 1) := by
  rw [dwU_out (by omega)]
  funext r i
  by_cases hp : r = p
  · subst hp
    by_cases hi : i = j
    · subst hi
      rw [upd2_at, dwU_in (by omega)]
    · rw [upd2_i hi]
      by_cases hc : lo ≤ i ∧ i < j
      · rw [dwU_in hc, dwU_in (by omega)]
      · rw [dwU_out hc, dwU_out (by omega)]
  · rw [upd2_p hp, dwU_p hp, dwU_p hp]
/-- an event put into the row -/
def plU (I : Mm) (m : Nat) (e n r a b c : Int) : Mm :=
  upd2 (upd2 (upd2 (upd2 (upd2 (upd2 (upd2 (upd2 (upd2 (upU I (m + 1) (42 + 8 * e + 7)) (m + 1) (42 + 8 * e) n) (m + 1) (42 + 8 * e + 1) r) (m + 1) (42 + 8 * e + 2) a) (m + 1) (42 + 8 * e + 3) b) (m + 1) (42 + 8 * e + 4) c) (m + 1) (42 + 8 * e + 5) 31) (m + 1) (42 + 8 * e + 6) 31) (m + 1) (42 + 8 * e + 7) 31) (m + 1) 0 (I (m + 1) 0 + 1)
theorem s_playM {e a b c r : Int} (hm : isM g m) (h6 : 0 ≤ I m 6 ∧ I m 6 ≤ 8) (hn : 0 ≤ I (m + 1) 0 ∧ I (m + 1) 0 < 40) (he : 0 ≤ e ∧ e ≤ I (m + 1) 0) (hk : kyOk a b c) (hr : 0 ≤ r ∧ r ≤ 9) :
    ∃ K, cl 250 [.ref m, .int (iI e), .int (iI a), .int (iI b), .int (iI c), .int (iI r)] (mk g I) = some (.inl (some (.int (iI (I (m + 1) 0 + 1)))), mk g (plU K m e (if b = 0 then 1 else if c = 0 then 2 else 3) r a b c)) ∧ kpM m (m + 1) (upd2 I m 7 0) K := by
  have kb : (0 ≤ a ∧ a ≤ 108) ∧ (0 ≤ b ∧ b ≤ 108) ∧ (0 ≤ c ∧ c ≤ 108) := by unfold kyOk at hk; omega
  have qe := s_events (g := g) (I := I) hm
  have qw := s_isIn (g := g) (I := I) (a := e) (b := 0) (c := I (m + 1) 0) (by omega) (by omega) (by omega)
  rw [if_pos he] at qw
  have qk := s_areKeysM (g := g) (I := I) (a := a) (b := b) (c := c) (by omega) (by omega) (by omega)
  rw [if_pos (show (21 ≤ a ∧ a ≤ 108) ∧ ((b = 0 ∧ c = 0) ∨ (a < b ∧ b ≤ 108 ∧ (c = 0 ∨ (b < c ∧ c ≤ 108)))) from hk)] at qk
  have qr := s_isIn (g := g) (I := I) (a := r) (b := 0) (c := 9) (by omega) (by omega) (by omega)
  rw [if_pos hr] at qr
  have u7 : upd2 I m 7 0 m 7 = 0 := upd2_at
  have qe2 := s_events (g := g) (I := upd2 I m 7 0) hm
  rw [upd2_p (show ¬ m + 1 = m by omega)] at qe2
  obtain ⟨K, k1, k2⟩ := s_keeps (g := g) (I := upd2 I m 7 0) (r := m + 1) hm (Or.inl rfl) (by rw [upd2_i (by decide)]; exact h6)
  have km := kpM_mv k2
  have hm' := hm
  obtain ⟨t_0, ⟨t_1, d_1, n_1⟩, ⟨t_2, d_2, n_2⟩, ⟨t_3, d_3, n_3⟩, ⟨t_4, d_4, n_4⟩, ⟨t_5, d_5, n_5⟩, ⟨t_6, n_6⟩, ⟨t_7, d_7, n_7⟩, ⟨t_8, d_8, n_8⟩, ⟨t_9, d_9, n_9⟩, ⟨t_10, d_10, n_10⟩, ⟨t_11, d_11, n_11⟩, ⟨t_12, d_12, n_12⟩, ⟨t_13, d_13, n_13⟩, ⟨t_14, d_14, n_14⟩, ⟨t_15, n_15⟩, ⟨t_16, n_16⟩, ⟨t_17, d_17, n_17⟩, ⟨t_18, d_18, n_18⟩⟩ := hm
  have key := loop_up (σ := Unit) (head := fun i _ => rn 250 17 [some (.ref m), some (.int (iI e)), some (.int (iI a)), some (.int (iI b)), some (.int (iI c)), some (.int (iI r)), some (.int (iI (42 + 8 * e))), some (.int (iI (361 - i)))] [] (mk g (upU K (m + 1) (361 - i)))) (Inv := fun i _ => 0 ≤ i) (n := 312 - 8 * e) (by
    intro i s i1 i0
    refine ⟨(), ?_, by omega⟩
    show rn _ _ _ _ _ = rn _ _ _ _ _
    rw [show 361 - (i + 1) = 361 - i - 1 by omega, ← upU_s (I := K) (p := m + 1) (j := 361 - i) (by omega)]
    refine (w_250_17 (by first | assumption | omega) (by first | assumption | omega) (by first | assumption | omega) (by first | assumption | omega)).trans ?_
    refine (if_neg (by omega)).trans ?_
    simp (maxSteps := 2000000) (disch := first | assumption | omega) only [aft_v, aft_n, aft_t, Nat.add_assoc, Nat.reduceAdd, if_true, if_false, not_true_eq_false, not_false_eq_true, Classical.not_not, Int.reduceAdd, Int.reduceSub, Int.reduceMul, Int.reduceNeg, Int.reduceLT, Int.reduceLE, Int.reduceEq, Int.add_zero, Int.zero_add, Int.sub_zero, w_250_18]
    rfl) 0 () (by omega) (Int.le_refl _)
  obtain ⟨-, key, -⟩ := key
  have key : rn 250 17 [some (.ref m), some (.int (iI e)), some (.int (iI a)), some (.int (iI b)), some (.int (iI c)), some (.int (iI r)), some (.int (iI (42 + 8 * e))), some (.int (iI 361))] [] (mk g (upU K (m + 1) 361)) = rn 250 17 [some (.ref m), some (.int (iI e)), some (.int (iI a)), some (.int (iI b)), some (.int (iI c)), some (.int (iI r)), some (.int (iI (42 + 8 * e))), some (.int (iI (361 - (312 - 8 * e))))] [] (mk g (upU K (m + 1) (361 - (312 - 8 * e)))) := key
  rw [upU_0, show 361 - (312 - 8 * e) = 42 + 8 * e + 7 by omega] at key
  obtain ⟨n, hnn⟩ : ∃ n, n = (if b = 0 then (1 : Int) else if c = 0 then 2 else 3) := ⟨_, rfl⟩
  rw [← hnn]
  obtain ⟨U, hU⟩ : ∃ U, U = upU K (m + 1) (42 + 8 * e + 7) := ⟨_, rfl⟩
  rw [← hU] at key
  have u0 : U (m + 1) 0 = I (m + 1) 0 := by rw [hU, upU_lo (by omega), km]
  have size : rn 250 19 [some (.ref m), some (.int (iI e)), some (.int (iI a)), some (.int (iI b)), some (.int (iI c)), some (.int (iI r)), some (.int (iI (42 + 8 * e))), some (.int (iI (42 + 8 * e + 7)))] [] (mk g U) = rn 250 24 [some (.ref m), some (.int (iI e)), some (.int (iI a)), some (.int (iI b)), some (.int (iI c)), some (.int (iI r)), some (.int (iI (42 + 8 * e))), some (.int (iI (42 + 8 * e + 7)))] [.int (iI n), .int (iI (42 + 8 * e)), .ref (m + 1)] (mk g U) := by
    by_cases hb : b = 0
    · rw [hnn, if_pos hb]
      simp (maxSteps := 2000000) (disch := first | assumption | omega) only [aft_v, aft_n, aft_t, Nat.add_assoc, Nat.reduceAdd, if_true, if_false, not_true_eq_false, not_false_eq_true, Classical.not_not, Int.reduceAdd, Int.reduceSub, Int.reduceMul, Int.reduceNeg, Int.reduceLT, Int.reduceLE, Int.reduceEq, Int.add_zero, Int.zero_add, Int.sub_zero, w_250_19, w_250_20, hb]
    · by_cases hc : c = 0
      · rw [hnn, if_neg hb, if_pos hc]
        simp (maxSteps := 2000000) (disch := first | assumption | omega) only [aft_v, aft_n, aft_t, Nat.add_assoc, Nat.reduceAdd, if_true, if_false, not_true_eq_false, not_false_eq_true, Classical.not_not, Int.reduceAdd, Int.reduceSub, Int.reduceMul, Int.reduceNeg, Int.reduceLT, Int.reduceLE, Int.reduceEq, Int.add_zero, Int.zero_add, Int.sub_zero, w_250_19, w_250_21, w_250_22, hb, hc]
      · rw [hnn, if_neg hb, if_neg hc]
        simp (maxSteps := 2000000) (disch := first | assumption | omega) only [aft_v, aft_n, aft_t, Nat.add_assoc, Nat.reduceAdd, if_true, if_false, not_true_eq_false, not_false_eq_true, Classical.not_not, Int.reduceAdd, Int.reduceSub, Int.reduceMul, Int.reduceNeg, Int.reduceLT, Int.reduceLE, Int.reduceEq, Int.add_zero, Int.zero_add, Int.sub_zero, w_250_19, w_250_21, w_250_23, hb, hc]
  obtain ⟨V, hV⟩ : ∃ V, V = upd2 (upd2 (upd2 (upd2 (upd2 U (m + 1) (42 + 8 * e) n) (m + 1) (42 + 8 * e + 1) r) (m + 1) (42 + 8 * e + 2) a) (m + 1) (42 + 8 * e + 3) b) (m + 1) (42 + 8 * e + 4) c := ⟨_, rfl⟩
  obtain ⟨V3, hV3⟩ : ∃ V3, V3 = upd2 (upd2 (upd2 V (m + 1) (42 + 8 * e + 5) 31) (m + 1) (42 + 8 * e + 6) 31) (m + 1) (42 + 8 * e + 7) 31 := ⟨_, rfl⟩
  have v0 : V3 (m + 1) 0 = I (m + 1) 0 := by
    rw [hV3, upd2_i (by omega), upd2_i (by omega), upd2_i (by omega), hV, upd2_i (by omega), upd2_i (by omega), upd2_i (by omega), upd2_i (by omega), upd2_i (by omega), u0]
  have fin : plU K m e n r a b c = upd2 V3 (m + 1) 0 (I (m + 1) 0 + 1) := by
    unfold plU
    rw [← hU, ← hV, ← hV3, km]
  have qf := s_events (g := g) (I := upd2 V3 (m + 1) 0 (I (m + 1) 0 + 1)) hm'
  rw [upd2_at] at qf
  refine ⟨K, ?_, k2⟩
  rw [fin]
  simp (maxSteps := 2000000) (disch := first | assumption | omega) only [aft_v, aft_n, aft_t, Nat.add_assoc, Nat.reduceAdd, if_true, if_false, not_true_eq_false, not_false_eq_true, Classical.not_not, Int.reduceAdd, Int.reduceSub, Int.reduceMul, Int.reduceNeg, Int.reduceLT, Int.reduceLE, Int.reduceEq, Int.add_zero, Int.zero_add, Int.sub_zero, c_250, w_250_0, w_250_1, w_250_2, w_250_4, w_250_5, w_250_6, w_250_7, w_250_8, qe, qw, qk, qr, show ¬ (1 : Int) = 0 by decide]
  refine (w_250_10 (by first | assumption | omega) (by first | assumption | omega) (by first | assumption | omega) (by first | assumption | omega)).trans ?_
  simp (maxSteps := 2000000) (disch := first | assumption | omega) only [aft_v, aft_n, aft_t, Nat.add_assoc, Nat.reduceAdd, if_true, if_false, not_true_eq_false, not_false_eq_true, Classical.not_not, Int.reduceAdd, Int.reduceSub, Int.reduceMul, Int.reduceNeg, Int.reduceLT, Int.reduceLE, Int.reduceEq, Int.add_zero, Int.zero_add, Int.sub_zero, w_250_12, w_250_13, w_250_15, w_250_16, u7, qe2, k1, show ¬ I (m + 1) 0 = 40 by omega, if_pos (Int.le_refl 0)]
  rw [key]
  refine (w_250_17 (by first | assumption | omega) (by first | assumption | omega) (by first | assumption | omega) (by first | assumption | omega)).trans ?_
  refine (if_pos (by omega)).trans ?_
  rw [size]
  refine (w_250_24 (by first | omega | assumption) (by first | omega | assumption) (by first | omega | assumption) (by first | omega | assumption) (by first | omega | assumption) (by first | omega | assumption) (by first | omega | assumption) (by first | omega | assumption) (by first | omega | assumption) (by first | omega | assumption) (by first | omega | assumption) (by first | omega | assumption) (by first | omega | assumption) (by first | omega | assumption) (by first | omega | assumption) (by first | omega | assumption) (by first | omega | assumption) (by first | omega | assumption)).trans ?_
  rw [← hV]
  refine (w_250_25 (by first | assumption | omega) (by first | assumption | omega)).trans ?_
  refine (if_neg (by omega)).trans ?_
  refine (w_250_26 (by first | omega | assumption) (by first | omega | assumption) (by first | omega | assumption) (by first | omega | assumption) (by first | omega | assumption)).trans ?_
  refine (w_250_25 (by first | assumption | omega) (by first | assumption | omega)).trans ?_
  refine (if_neg (by omega)).trans ?_
  refine (w_250_26 (by first | omega | assumption) (by first | omega | assumption) (by first | omega | assumption) (by first | omega | assumption) (by first | omega | assumption)).trans ?_
  refine (w_250_25 (by first | assumption | omega) (by first | assumption | omega)).trans ?_
  refine (if_neg (by omega)).trans ?_
  refine (w_250_26 (by first | omega | assumption) (by first | omega | assumption) (by first | omega | assumption) (by first | omega | assumption) (by first | omega | assumption)).trans ?_
  refine (w_250_25 (by first | assumption | omega) (by first | assumption | omega)).trans ?_
  refine (if_pos (by omega)).trans ?_
  rw [show (42 + 8 * e + 5 + 0 : Int) = 42 + 8 * e + 5 by omega, show (42 + 8 * e + 5 + (0 + 1) : Int) = 42 + 8 * e + 6 by omega, show (42 + 8 * e + 5 + (0 + 1 + 1) : Int) = 42 + 8 * e + 7 by omega, ← hV3]
  refine (w_250_27 (by first | assumption | omega) (by first | assumption | omega) (by first | assumption | omega) (by first | assumption | omega)).trans ?_
  rw [v0, qf, aft_v]
  simp (maxSteps := 2000000) (disch := first | assumption | omega) only [aft_v, aft_n, aft_t, Nat.add_assoc, Nat.reduceAdd, if_true, if_false, not_true_eq_false, not_false_eq_true, Classical.not_not, Int.reduceAdd, Int.reduceSub, Int.reduceMul, Int.reduceNeg, Int.reduceLT, Int.reduceLE, Int.reduceEq, Int.add_zero, Int.zero_add, Int.sub_zero, w_250_28]
theorem s_playFullM {e a b c r : Int} (hm : isM g m) (hn : I (m + 1) 0 = 40) (he : 0 ≤ e ∧ e ≤ I (m + 1) 0) (hk : kyOk a b c) (hr : 0 ≤ r ∧ r ≤ 9) :
    cl 250 [.ref m, .int (iI e), .int (iI a), .int (iI b), .int (iI c), .int (iI r)] (mk g I) = some (.inl (some (.int (iI (-10)))), mk g (upd2 I m 7 0)) := by
  have kb : (0 ≤ a ∧ a ≤ 108) ∧ (0 ≤ b ∧ b ≤ 108) ∧ (0 ≤ c ∧ c ≤ 108) := by unfold kyOk at hk; omega
  have qe := s_events (g := g) (I := I) hm
  have qw := s_isIn (g := g) (I := I) (a := e) (b := 0) (c := I (m + 1) 0) (by omega) (by omega) (by omega)
  rw [if_pos he] at qw
  have qk := s_areKeysM (g := g) (I := I) (a := a) (b := b) (c := c) (by omega) (by omega) (by omega)
  rw [if_pos (show (21 ≤ a ∧ a ≤ 108) ∧ ((b = 0 ∧ c = 0) ∨ (a < b ∧ b ≤ 108 ∧ (c = 0 ∨ (b < c ∧ c ≤ 108)))) from hk)] at qk
  have qr := s_isIn (g := g) (I := I) (a := r) (b := 0) (c := 9) (by omega) (by omega) (by omega)
  rw [if_pos hr] at qr
  have u7 : upd2 I m 7 0 m 7 = 0 := upd2_at
  have qe2 := s_events (g := g) (I := upd2 I m 7 0) hm
  rw [upd2_p (show ¬ m + 1 = m by omega)] at qe2
  rw [hn] at qe qw qe2
  obtain ⟨t_0, ⟨t_1, d_1, n_1⟩, ⟨t_2, d_2, n_2⟩, ⟨t_3, d_3, n_3⟩, ⟨t_4, d_4, n_4⟩, ⟨t_5, d_5, n_5⟩, ⟨t_6, n_6⟩, ⟨t_7, d_7, n_7⟩, ⟨t_8, d_8, n_8⟩, ⟨t_9, d_9, n_9⟩, ⟨t_10, d_10, n_10⟩, ⟨t_11, d_11, n_11⟩, ⟨t_12, d_12, n_12⟩, ⟨t_13, d_13, n_13⟩, ⟨t_14, d_14, n_14⟩, ⟨t_15, n_15⟩, ⟨t_16, n_16⟩, ⟨t_17, d_17, n_17⟩, ⟨t_18, d_18, n_18⟩⟩ := hm
  simp (maxSteps := 2000000) (disch := first | assumption | omega) only [aft_v, aft_n, aft_t, Nat.add_assoc, Nat.reduceAdd, if_true, if_false, not_true_eq_false, not_false_eq_true, Classical.not_not, Int.reduceAdd, Int.reduceSub, Int.reduceMul, Int.reduceNeg, Int.reduceLT, Int.reduceLE, Int.reduceEq, Int.add_zero, Int.zero_add, Int.sub_zero, c_250, w_250_0, w_250_1, w_250_2, w_250_4, w_250_5, w_250_6, w_250_7, w_250_8, w_250_10, w_250_12, w_250_13, w_250_14, qe, qw, qk, qr, u7, qe2, show ¬ (1 : Int) = 0 by decide, if_pos (Int.le_refl 0)]
theorem s_playBad {e a b c r : Int} (hm : isM g m) (hn : 0 ≤ I (m + 1) 0 ∧ I (m + 1) 0 ≤ 40) (hre : (-2147483648 ≤ e ∧ e < 2147483648)) (he : ¬ (0 ≤ e ∧ e ≤ I (m + 1) 0)) :
    cl 250 [.ref m, .int (iI e), .int (iI a), .int (iI b), .int (iI c), .int (iI r)] (mk g I) = some (.inl (some (.int (iI 0))), mk g (upd2 I m 7 1)) := by
  have qe := s_events (g := g) (I := I) hm
  have qw := s_isIn (g := g) (I := I) (a := e) (b := 0) (c := I (m + 1) 0) (by omega) (by omega) (by omega)
  rw [if_neg he] at qw
  have u7 : upd2 I m 7 1 m 7 = 1 := upd2_at
  obtain ⟨t_0, ⟨t_1, d_1, n_1⟩, ⟨t_2, d_2, n_2⟩, ⟨t_3, d_3, n_3⟩, ⟨t_4, d_4, n_4⟩, ⟨t_5, d_5, n_5⟩, ⟨t_6, n_6⟩, ⟨t_7, d_7, n_7⟩, ⟨t_8, d_8, n_8⟩, ⟨t_9, d_9, n_9⟩, ⟨t_10, d_10, n_10⟩, ⟨t_11, d_11, n_11⟩, ⟨t_12, d_12, n_12⟩, ⟨t_13, d_13, n_13⟩, ⟨t_14, d_14, n_14⟩, ⟨t_15, n_15⟩, ⟨t_16, n_16⟩, ⟨t_17, d_17, n_17⟩, ⟨t_18, d_18, n_18⟩⟩ := hm
  simp (maxSteps := 2000000) (disch := first | assumption | omega) only [aft_v, aft_n, aft_t, Nat.add_assoc, Nat.reduceAdd, if_true, if_false, not_true_eq_false, not_false_eq_true, Classical.not_not, Int.reduceAdd, Int.reduceSub, Int.reduceMul, Int.reduceNeg, Int.reduceLT, Int.reduceLE, Int.reduceEq, Int.add_zero, Int.zero_add, Int.sub_zero, c_250, w_250_0, w_250_1, w_250_2, w_250_3, w_250_10, w_250_11, qe, qw, u7, if_neg (show ¬ (1 : Int) ≤ 0 by decide)]
theorem s_playBadK {e a b c r : Int} (hm : isM g m) (hn : 0 ≤ I (m + 1) 0 ∧ I (m + 1) 0 ≤ 40) (he : 0 ≤ e ∧ e ≤ I (m + 1) 0) (hra : (-2147483648 ≤ a ∧ a < 2147483648)) (hrb : (-2147483648 ≤ b ∧ b < 2147483648)) (hrc : (-2147483648 ≤ c ∧ c < 2147483648)) (hrr : (-2147483648 ≤ r ∧ r < 2147483648)) (h : ¬ (kyOk a b c ∧ 0 ≤ r ∧ r ≤ 9)) :
    cl 250 [.ref m, .int (iI e), .int (iI a), .int (iI b), .int (iI c), .int (iI r)] (mk g I) = some (.inl (some (.int (iI 0))), mk g (upd2 I m 7 2)) := by
  have qe := s_events (g := g) (I := I) hm
  have qw := s_isIn (g := g) (I := I) (a := e) (b := 0) (c := I (m + 1) 0) (by omega) (by omega) (by omega)
  rw [if_pos he] at qw
  have qk := s_areKeysM (g := g) (I := I) (a := a) (b := b) (c := c) (by omega) (by omega) (by omega)
  have qr := s_isIn (g := g) (I := I) (a := r) (b := 0) (c := 9) (by omega) (by omega) (by omega)
  have u7 : upd2 I m 7 2 m 7 = 2 := upd2_at
  obtain ⟨t_0, ⟨t_1, d_1, n_1⟩, ⟨t_2, d_2, n_2⟩, ⟨t_3, d_3, n_3⟩, ⟨t_4, d_4, n_4⟩, ⟨t_5, d_5, n_5⟩, ⟨t_6, n_6⟩, ⟨t_7, d_7, n_7⟩, ⟨t_8, d_8, n_8⟩, ⟨t_9, d_9, n_9⟩, ⟨t_10, d_10, n_10⟩, ⟨t_11, d_11, n_11⟩, ⟨t_12, d_12, n_12⟩, ⟨t_13, d_13, n_13⟩, ⟨t_14, d_14, n_14⟩, ⟨t_15, n_15⟩, ⟨t_16, n_16⟩, ⟨t_17, d_17, n_17⟩, ⟨t_18, d_18, n_18⟩⟩ := hm
  by_cases hk : kyOk a b c
  · rw [if_pos (show (21 ≤ a ∧ a ≤ 108) ∧ ((b = 0 ∧ c = 0) ∨ (a < b ∧ b ≤ 108 ∧ (c = 0 ∨ (b < c ∧ c ≤ 108)))) from hk)] at qk
    rw [if_neg (fun z => h ⟨hk, z⟩)] at qr
    simp (maxSteps := 2000000) (disch := first | assumption | omega) only [aft_v, aft_n, aft_t, Nat.add_assoc, Nat.reduceAdd, if_true, if_false, not_true_eq_false, not_false_eq_true, Classical.not_not, Int.reduceAdd, Int.reduceSub, Int.reduceMul, Int.reduceNeg, Int.reduceLT, Int.reduceLE, Int.reduceEq, Int.add_zero, Int.zero_add, Int.sub_zero, c_250, w_250_0, w_250_1, w_250_2, w_250_4, w_250_5, w_250_6, w_250_7, w_250_9, w_250_10, w_250_11, qe, qw, qk, qr, u7, show ¬ (1 : Int) = 0 by decide, if_neg (show ¬ (2 : Int) ≤ 0 by decide)]
  · rw [if_neg (show ¬ ((21 ≤ a ∧ a ≤ 108) ∧ ((b = 0 ∧ c = 0) ∨ (a < b ∧ b ≤ 108 ∧ (c = 0 ∨ (b < c ∧ c ≤ 108))))) from hk)] at qk
    simp (maxSteps := 2000000) (disch := first | assumption | omega) only [aft_v, aft_n, aft_t, Nat.add_assoc, Nat.reduceAdd, if_true, if_false, not_true_eq_false, not_false_eq_true, Classical.not_not, Int.reduceAdd, Int.reduceSub, Int.reduceMul, Int.reduceNeg, Int.reduceLT, Int.reduceLE, Int.reduceEq, Int.add_zero, Int.zero_add, Int.sub_zero, c_250, w_250_0, w_250_1, w_250_2, w_250_4, w_250_5, w_250_9, w_250_10, w_250_11, qe, qw, qk, u7, show ¬ (1 : Int) = 0 by decide, if_neg (show ¬ (2 : Int) ≤ 0 by decide)]
theorem s_dropM {e : Int} (hm : isM g m) (h6 : 0 ≤ I m 6 ∧ I m 6 ≤ 8) (hn : 0 ≤ I (m + 1) 0 ∧ I (m + 1) 0 ≤ 40) (he : 0 ≤ e ∧ e < I (m + 1) 0) :
    ∃ K, cl 251 [.ref m, .int (iI e)] (mk g I) = some (.inl (some (.int (iI (I (m + 1) 0 - 1)))), mk g (upd2 (dwU K (m + 1) (42 + 8 * e) 354) (m + 1) 0 (I (m + 1) 0 - 1))) ∧ kpM m (m + 1) (upd2 I m 7 0) K := by
  have q := s_isEvent (g := g) (I := I) (e := e) hm (by omega) hn
  rw [if_pos he] at q
  have u7 : upd2 I m 7 0 m 7 = 0 := upd2_at
  obtain ⟨K, k1, k2⟩ := s_keeps (g := g) (I := upd2 I m 7 0) (r := m + 1) hm (Or.inl rfl) (by rw [upd2_i (by decide)]; exact h6)
  have km := kpM_mv k2
  have hm' := hm
  obtain ⟨t_0, ⟨t_1, d_1, n_1⟩, ⟨t_2, d_2, n_2⟩, ⟨t_3, d_3, n_3⟩, ⟨t_4, d_4, n_4⟩, ⟨t_5, d_5, n_5⟩, ⟨t_6, n_6⟩, ⟨t_7, d_7, n_7⟩, ⟨t_8, d_8, n_8⟩, ⟨t_9, d_9, n_9⟩, ⟨t_10, d_10, n_10⟩, ⟨t_11, d_11, n_11⟩, ⟨t_12, d_12, n_12⟩, ⟨t_13, d_13, n_13⟩, ⟨t_14, d_14, n_14⟩, ⟨t_15, n_15⟩, ⟨t_16, n_16⟩, ⟨t_17, d_17, n_17⟩, ⟨t_18, d_18, n_18⟩⟩ := hm
  have key := loop_up (σ := Unit) (head := fun j _ => rn 251 8 [some (.ref m), some (.int (iI e)), some (.int (iI j))] [] (mk g (dwU K (m + 1) (42 + 8 * e) j))) (Inv := fun j _ => 42 + 8 * e ≤ j) (n := 354) (by
    intro j s j1 j0
    refine ⟨(), ?_, by omega⟩
    show rn _ _ _ _ _ = rn _ _ _ _ _
    rw [← dwU_s j0]
    refine (w_251_8 (by first | assumption | omega) (by first | assumption | omega)).trans ?_
    refine (if_neg (by omega)).trans ?_
    simp (maxSteps := 2000000) (disch := first | assumption | omega) only [aft_v, aft_n, aft_t, Nat.add_assoc, Nat.reduceAdd, if_true, if_false, not_true_eq_false, not_false_eq_true, Classical.not_not, Int.reduceAdd, Int.reduceSub, Int.reduceMul, Int.reduceNeg, Int.reduceLT, Int.reduceLE, Int.reduceEq, Int.add_zero, Int.zero_add, Int.sub_zero, w_251_9]) (42 + 8 * e) () (by omega) (Int.le_refl _)
  obtain ⟨-, key, -⟩ := key
  have key : rn 251 8 [some (.ref m), some (.int (iI e)), some (.int (iI (42 + 8 * e)))] [] (mk g (dwU K (m + 1) (42 + 8 * e) (42 + 8 * e))) = rn 251 8 [some (.ref m), some (.int (iI e)), some (.int (iI 354))] [] (mk g (dwU K (m + 1) (42 + 8 * e) 354)) := key
  rw [dwU_0] at key
  obtain ⟨D, hD⟩ : ∃ D, D = dwU K (m + 1) (42 + 8 * e) 354 := ⟨_, rfl⟩
  rw [← hD] at key
  have d0 : D (m + 1) 0 = I (m + 1) 0 := by rw [hD, dwU_out (by omega), km]
  have qf := s_events (g := g) (I := upd2 D (m + 1) 0 (I (m + 1) 0 - 1)) hm'
  rw [upd2_at] at qf
  refine ⟨K, ?_, k2⟩
  rw [← hD]
  simp (maxSteps := 2000000) (disch := first | assumption | omega) only [aft_v, aft_n, aft_t, Nat.add_assoc, Nat.reduceAdd, if_true, if_false, not_true_eq_false, not_false_eq_true, Classical.not_not, Int.reduceAdd, Int.reduceSub, Int.reduceMul, Int.reduceNeg, Int.reduceLT, Int.reduceLE, Int.reduceEq, Int.add_zero, Int.zero_add, Int.sub_zero, c_251, w_251_0, w_251_1, w_251_2, w_251_4, w_251_6, w_251_7, q, u7, k1, show ¬ (1 : Int) = 0 by decide, if_pos (Int.le_refl 0)]
  rw [key]
  refine (w_251_8 (by first | assumption | omega) (by first | assumption | omega)).trans ?_
  refine (if_pos (by omega)).trans ?_
  refine (w_251_10 (by first | assumption | omega) (by first | assumption | omega) (by first | assumption | omega) (by first | assumption | omega)).trans ?_
  rw [d0, qf, aft_v]
  simp (maxSteps := 2000000) (disch := first | assumption | omega) only [aft_v, aft_n, aft_t, Nat.add_assoc, Nat.reduceAdd, if_true, if_false, not_true_eq_false, not_false_eq_true, Classical.not_not, Int.reduceAdd, Int.reduceSub, Int.reduceMul, Int.reduceNeg, Int.reduceLT, Int.reduceLE, Int.reduceEq, Int.add_zero, Int.zero_add, Int.sub_zero, w_251_11]
theorem s_dropBad {e : Int} (hm : isM g m) (hn : 0 ≤ I (m + 1) 0 ∧ I (m + 1) 0 ≤ 40) (hre : (-2147483648 ≤ e ∧ e < 2147483648)) (he : ¬ (0 ≤ e ∧ e < I (m + 1) 0)) : cl 251 [.ref m, .int (iI e)] (mk g I) = some (.inl (some (.int (iI 0))), mk g (upd2 I m 7 1)) := by
  have q := s_isEvent (g := g) (I := I) (e := e) hm hre hn
  rw [if_neg he] at q
  have u7 : upd2 I m 7 1 m 7 = 1 := upd2_at
  obtain ⟨t_0, ⟨t_1, d_1, n_1⟩, ⟨t_2, d_2, n_2⟩, ⟨t_3, d_3, n_3⟩, ⟨t_4, d_4, n_4⟩, ⟨t_5, d_5, n_5⟩, ⟨t_6, n_6⟩, ⟨t_7, d_7, n_7⟩, ⟨t_8, d_8, n_8⟩, ⟨t_9, d_9, n_9⟩, ⟨t_10, d_10, n_10⟩, ⟨t_11, d_11, n_11⟩, ⟨t_12, d_12, n_12⟩, ⟨t_13, d_13, n_13⟩, ⟨t_14, d_14, n_14⟩, ⟨t_15, n_15⟩, ⟨t_16, n_16⟩, ⟨t_17, d_17, n_17⟩, ⟨t_18, d_18, n_18⟩⟩ := hm
  simp (maxSteps := 2000000) (disch := first | assumption | omega) only [aft_v, aft_n, aft_t, Nat.add_assoc, Nat.reduceAdd, if_true, if_false, not_true_eq_false, not_false_eq_true, Classical.not_not, Int.reduceAdd, Int.reduceSub, Int.reduceMul, Int.reduceNeg, Int.reduceLT, Int.reduceLE, Int.reduceEq, Int.add_zero, Int.zero_add, Int.sub_zero, c_251, w_251_0, w_251_1, w_251_3, w_251_4, w_251_5, q, u7, if_neg (show ¬ (1 : Int) ≤ 0 by decide)]
end MS
