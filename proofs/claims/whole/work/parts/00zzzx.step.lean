/-! A round of the law, once both answers are known. -/
theorem s_thrown' {g : Gm} {I : Mm} {m : Nat} (h : g.1 m = sX6 m) : cl 156 [.ref m] (mk g I) = some (.inl (some (.int (iI (I m 7)))), mk g I) := by
  simp (maxSteps := 2000000) (disch := first | assumption | omega) only [aft_v, aft_n, aft_t, Nat.add_assoc, Nat.reduceAdd, if_true, if_false, not_true_eq_false, not_false_eq_true, Classical.not_not, Int.reduceAdd, Int.reduceSub, Int.reduceMul, Int.reduceNeg, Int.reduceLT, Int.reduceLE, Int.reduceEq, Int.add_zero, Int.zero_add, Int.sub_zero, c_156, w_156_0]
section LT
variable {g g1 g2 : Gm} {I I1 I2 : Mm} {s x m o od : Nat} {i v w : Int} {o6 o7 o8 : Option Value}
theorem lt_append (hs : gt g s = 0 ∨ gt g s = 7) (hi : 0 ≤ i ∧ i + 6 ≤ gn g s ∧ (gn g s : Int) < 2147483648) (hm : g.1 m = sX6 m) (ho : gt g o = 1 ∧ gn g o = 1) (e1 : g1.1 = g.1) (e2 : g2.1 = g.1) (es : I1 s = I s) (h1 : cl 263 [.ref x, .int (iI (I s (i + 1))), .int (iI (I s (i + 2))), .int (iI (I s (i + 3))), .int (iI (I s (i + 4))), .int (iI (I s (i + 5))), .ref o] (mk g I) = some (.inl (some (.int (iI v))), mk g1 I1)) (h2 : cl 164 [.ref m, .int (iI (I s (i + 1))), .int (iI (I s (i + 2))), .int (iI (I s (i + 3))), .int (iI (I s (i + 4))), .int (iI (I s (i + 5)))] (mk g1 I1) = some (.inl (some (.int (iI w))), mk g2 I2)) (hv : 0 ≤ v ∧ v ≤ 3) (ht : I2 m 7 = v) (hq : v = 0 → g2.2.1 o 0 = (iI w).toInt) :
    ∃ p6 p7 p8, rn 291 5 [some (.ref s), some (.ref x), some (.ref m), some (.ref o), some (.ref od), some (.int (iI i)), o6, o7, o8] [] (mk g I) = rn 291 314 [some (.ref s), some (.ref x), some (.ref m), some (.ref o), some (.ref od), some (.int (iI i)), p6, p7, p8] [] (mk g2 I2) := by
  have hs1 : gt g1 s = 0 ∨ gt g1 s = 7 := by rw [gt_e e1]; exact hs
  have hn1 : gn g1 s = gn g s := gn_e e1 s
  have m1 : g1.1 m = sX6 m := by rw [e1]; exact hm
  have m2 : g2.1 m = sX6 m := by rw [e2]; exact hm
  have o2 : gt g2 o = 1 := by rw [gt_e e2]; exact ho.1
  have n2 : gn g2 o = 1 := by rw [gn_e e2]; exact ho.2
  have n2' : 0 < (gn g2 o : Int) := by omega
  have hr := iI_rng (iI w)
  rw [iI_of (iI w)] at h2
  obtain ⟨w', hw'⟩ : ∃ w', w' = (iI w).toInt := ⟨_, rfl⟩
  rw [← hw'] at h2 hr hq
  have qt := s_thrown' (g := g2) (I := I2) m2
  rw [ht] at qt
  rw [← es] at h2
  refine ⟨some (.int (iI v)), some (.int (iI w')), o8, ?_⟩
  refine (w_291_5 (by first | omega | assumption) (by first | omega | assumption) (by first | omega | assumption) (by first | omega | assumption) (by first | omega | assumption) (by first | omega | assumption) (by first | omega | assumption) (by first | omega | assumption) (by first | omega | assumption) (by first | omega | assumption) (by first | omega | assumption) (by first | omega | assumption) (by first | omega | assumption) (by first | omega | assumption) (by first | omega | assumption) (by first | omega | assumption)).trans ?_
  rw [h1, aft_v]
  refine (w_291_6 (by first | omega | assumption) (by first | omega | assumption) (by first | omega | assumption) (by first | omega | assumption) (by first | omega | assumption) (by first | omega | assumption) (by first | omega | assumption) (by first | omega | assumption) (by first | omega | assumption) (by first | omega | assumption) (by first | omega | assumption) (by first | omega | assumption) (by first | omega | assumption) (by first | omega | assumption) (by first | omega | assumption) (by first | omega | assumption) (by first | omega | assumption)).trans ?_
  rw [h2, aft_v]
  refine (w_291_7 (by first | omega | assumption)).trans ?_
  rw [qt, aft_v]
  refine (w_291_8 (by first | omega | assumption) (by first | omega | assumption) (by first | omega | assumption) (by first | omega | assumption)).trans ?_
  refine (if_pos rfl).trans ?_
  refine (w_291_10 (by first | omega | assumption) (by first | omega | assumption)).trans ?_
  by_cases h0 : v = 0
  · refine (if_neg (not_not_intro h0)).trans ?_
    have hq' := hq h0
    have c0 : cmpI (g2.2.1 o 0) w' = 0 := by rw [hq']; unfold cmpI; rw [if_neg (by omega), if_pos rfl]
    have c1 : -2147483648 ≤ cmpI (g2.2.1 o 0) w' := by omega
    have c2 : cmpI (g2.2.1 o 0) w' < 2147483648 := by omega
    refine (w_291_11 (by first | omega | assumption) (by first | omega | assumption) (by first | omega | assumption) (by first | omega | assumption) (by first | omega | assumption) (by first | omega | assumption) (by first | omega | assumption) (by first | omega | assumption) (by first | omega | assumption) (by first | omega | assumption)).trans ?_
    refine (if_pos c0).trans ?_
    exact w_291_13
  · refine (if_pos h0).trans ?_
    exact w_291_13
theorem lt_count (hs : gt g s = 0 ∨ gt g s = 7) (hi : 0 ≤ i ∧ i + 6 ≤ gn g s ∧ (gn g s : Int) < 2147483648) (hm : g.1 m = sX6 m) (ho : gt g o = 1 ∧ gn g o = 1) (e1 : g1.1 = g.1) (e2 : g2.1 = g.1) (es : I1 s = I s) (h1 : cl 264 [.ref x, .int (iI (I s (i + 1))), .ref o] (mk g I) = some (.inl (some (.int (iI v))), mk g1 I1)) (h2 : cl 219 [.ref m, .int (iI (I s (i + 1)))] (mk g1 I1) = some (.inl (some (.int (iI w))), mk g2 I2)) (hv : 0 ≤ v ∧ v ≤ 3) (ht : I2 m 7 = v) (hq : v = 0 → g2.2.1 o 0 = (iI w).toInt) :
    ∃ p6 p7 p8, rn 291 22 [some (.ref s), some (.ref x), some (.ref m), some (.ref o), some (.ref od), some (.int (iI i)), o6, o7, o8] [] (mk g I) = rn 291 314 [some (.ref s), some (.ref x), some (.ref m), some (.ref o), some (.ref od), some (.int (iI i)), p6, p7, p8] [] (mk g2 I2) := by
  have hs1 : gt g1 s = 0 ∨ gt g1 s = 7 := by rw [gt_e e1]; exact hs
  have hn1 : gn g1 s = gn g s := gn_e e1 s
  have m1 : g1.1 m = sX6 m := by rw [e1]; exact hm
  have m2 : g2.1 m = sX6 m := by rw [e2]; exact hm
  have o2 : gt g2 o = 1 := by rw [gt_e e2]; exact ho.1
  have n2 : gn g2 o = 1 := by rw [gn_e e2]; exact ho.2
  have n2' : 0 < (gn g2 o : Int) := by omega
  have hr := iI_rng (iI w)
  rw [iI_of (iI w)] at h2
  obtain ⟨w', hw'⟩ : ∃ w', w' = (iI w).toInt := ⟨_, rfl⟩
  rw [← hw'] at h2 hr hq
  have qt := s_thrown' (g := g2) (I := I2) m2
  rw [ht] at qt
  rw [← es] at h2
  refine ⟨some (.int (iI v)), some (.int (iI w')), o8, ?_⟩
  refine (w_291_22 (by first | omega | assumption) (by first | omega | assumption) (by first | omega | assumption) (by first | omega | assumption)).trans ?_
  rw [h1, aft_v]
  refine (w_291_23 (by first | omega | assumption) (by first | omega | assumption) (by first | omega | assumption) (by first | omega | assumption) (by first | omega | assumption)).trans ?_
  rw [h2, aft_v]
  refine (w_291_24 (by first | omega | assumption)).trans ?_
  rw [qt, aft_v]
  refine (w_291_25 (by first | omega | assumption) (by first | omega | assumption) (by first | omega | assumption) (by first | omega | assumption)).trans ?_
  refine (if_pos rfl).trans ?_
  refine (w_291_27 (by first | omega | assumption) (by first | omega | assumption)).trans ?_
  by_cases h0 : v = 0
  · refine (if_neg (not_not_intro h0)).trans ?_
    have hq' := hq h0
    have c0 : cmpI (g2.2.1 o 0) w' = 0 := by rw [hq']; unfold cmpI; rw [if_neg (by omega), if_pos rfl]
    have c1 : -2147483648 ≤ cmpI (g2.2.1 o 0) w' := by omega
    have c2 : cmpI (g2.2.1 o 0) w' < 2147483648 := by omega
    refine (w_291_28 (by first | omega | assumption) (by first | omega | assumption) (by first | omega | assumption) (by first | omega | assumption) (by first | omega | assumption) (by first | omega | assumption) (by first | omega | assumption) (by first | omega | assumption) (by first | omega | assumption) (by first | omega | assumption)).trans ?_
    refine (if_pos c0).trans ?_
    exact w_291_30
  · refine (if_pos h0).trans ?_
    exact w_291_30
theorem lt_event (hs : gt g s = 0 ∨ gt g s = 7) (hi : 0 ≤ i ∧ i + 6 ≤ gn g s ∧ (gn g s : Int) < 2147483648) (hm : g.1 m = sX6 m) (ho : gt g o = 1 ∧ gn g o = 1) (e1 : g1.1 = g.1) (e2 : g2.1 = g.1) (es : I1 s = I s) (h1 : cl 265 [.ref x, .int (iI (I s (i + 1))), .int (iI (I s (i + 2))), .ref o] (mk g I) = some (.inl (some (.int (iI v))), mk g1 I1)) (h2 : cl 220 [.ref m, .int (iI (I s (i + 1))), .int (iI (I s (i + 2)))] (mk g1 I1) = some (.inl (some (.int (iI w))), mk g2 I2)) (hv : 0 ≤ v ∧ v ≤ 3) (ht : I2 m 7 = v) (hq : v = 0 → g2.2.1 o 0 = (iI w).toInt) :
    ∃ p6 p7 p8, rn 291 31 [some (.ref s), some (.ref x), some (.ref m), some (.ref o), some (.ref od), some (.int (iI i)), o6, o7, o8] [] (mk g I) = rn 291 314 [some (.ref s), some (.ref x), some (.ref m), some (.ref o), some (.ref od), some (.int (iI i)), p6, p7, p8] [] (mk g2 I2) := by
  have hs1 : gt g1 s = 0 ∨ gt g1 s = 7 := by rw [gt_e e1]; exact hs
  have hn1 : gn g1 s = gn g s := gn_e e1 s
  have m1 : g1.1 m = sX6 m := by rw [e1]; exact hm
  have m2 : g2.1 m = sX6 m := by rw [e2]; exact hm
  have o2 : gt g2 o = 1 := by rw [gt_e e2]; exact ho.1
  have n2 : gn g2 o = 1 := by rw [gn_e e2]; exact ho.2
  have n2' : 0 < (gn g2 o : Int) := by omega
  have hr := iI_rng (iI w)
  rw [iI_of (iI w)] at h2
  obtain ⟨w', hw'⟩ : ∃ w', w' = (iI w).toInt := ⟨_, rfl⟩
  rw [← hw'] at h2 hr hq
  have qt := s_thrown' (g := g2) (I := I2) m2
  rw [ht] at qt
  rw [← es] at h2
  refine ⟨some (.int (iI v)), some (.int (iI w')), o8, ?_⟩
  refine (w_291_31 (by first | omega | assumption) (by first | omega | assumption) (by first | omega | assumption) (by first | omega | assumption) (by first | omega | assumption) (by first | omega | assumption) (by first | omega | assumption)).trans ?_
  rw [h1, aft_v]
  refine (w_291_32 (by first | omega | assumption) (by first | omega | assumption) (by first | omega | assumption) (by first | omega | assumption) (by first | omega | assumption) (by first | omega | assumption) (by first | omega | assumption) (by first | omega | assumption)).trans ?_
  rw [h2, aft_v]
  refine (w_291_33 (by first | omega | assumption)).trans ?_
  rw [qt, aft_v]
  refine (w_291_34 (by first | omega | assumption) (by first | omega | assumption) (by first | omega | assumption) (by first | omega | assumption)).trans ?_
  refine (if_pos rfl).trans ?_
  refine (w_291_36 (by first | omega | assumption) (by first | omega | assumption)).trans ?_
  by_cases h0 : v = 0
  · refine (if_neg (not_not_intro h0)).trans ?_
    have hq' := hq h0
    have c0 : cmpI (g2.2.1 o 0) w' = 0 := by rw [hq']; unfold cmpI; rw [if_neg (by omega), if_pos rfl]
    have c1 : -2147483648 ≤ cmpI (g2.2.1 o 0) w' := by omega
    have c2 : cmpI (g2.2.1 o 0) w' < 2147483648 := by omega
    refine (w_291_37 (by first | omega | assumption) (by first | omega | assumption) (by first | omega | assumption) (by first | omega | assumption) (by first | omega | assumption) (by first | omega | assumption) (by first | omega | assumption) (by first | omega | assumption) (by first | omega | assumption) (by first | omega | assumption)).trans ?_
    refine (if_pos c0).trans ?_
    exact w_291_39
  · refine (if_pos h0).trans ?_
    exact w_291_39
theorem lt_note (hs : gt g s = 0 ∨ gt g s = 7) (hi : 0 ≤ i ∧ i + 6 ≤ gn g s ∧ (gn g s : Int) < 2147483648) (hm : g.1 m = sX6 m) (ho : gt g o = 1 ∧ gn g o = 1) (e1 : g1.1 = g.1) (e2 : g2.1 = g.1) (es : I1 s = I s) (h1 : cl 266 [.ref x, .int (iI (I s (i + 1))), .int (iI (I s (i + 2))), .int (iI (I s (i + 3))), .ref o] (mk g I) = some (.inl (some (.int (iI v))), mk g1 I1)) (h2 : cl 221 [.ref m, .int (iI (I s (i + 1))), .int (iI (I s (i + 2))), .int (iI (I s (i + 3)))] (mk g1 I1) = some (.inl (some (.int (iI w))), mk g2 I2)) (hv : 0 ≤ v ∧ v ≤ 3) (ht : I2 m 7 = v) (hq : v = 0 → g2.2.1 o 0 = (iI w).toInt) :
    ∃ p6 p7 p8, rn 291 40 [some (.ref s), some (.ref x), some (.ref m), some (.ref o), some (.ref od), some (.int (iI i)), o6, o7, o8] [] (mk g I) = rn 291 314 [some (.ref s), some (.ref x), some (.ref m), some (.ref o), some (.ref od), some (.int (iI i)), p6, p7, p8] [] (mk g2 I2) := by
  have hs1 : gt g1 s = 0 ∨ gt g1 s = 7 := by rw [gt_e e1]; exact hs
  have hn1 : gn g1 s = gn g s := gn_e e1 s
  have m1 : g1.1 m = sX6 m := by rw [e1]; exact hm
  have m2 : g2.1 m = sX6 m := by rw [e2]; exact hm
  have o2 : gt g2 o = 1 := by rw [gt_e e2]; exact ho.1
  have n2 : gn g2 o = 1 := by rw [gn_e e2]; exact ho.2
  have n2' : 0 < (gn g2 o : Int) := by omega
  have hr := iI_rng (iI w)
  rw [iI_of (iI w)] at h2
  obtain ⟨w', hw'⟩ : ∃ w', w' = (iI w).toInt := ⟨_, rfl⟩
  rw [← hw'] at h2 hr hq
  have qt := s_thrown' (g := g2) (I := I2) m2
  rw [ht] at qt
  rw [← es] at h2
  refine ⟨some (.int (iI v)), some (.int (iI w')), o8, ?_⟩
  refine (w_291_40 (by first | omega | assumption) (by first | omega | assumption) (by first | omega | assumption) (by first | omega | assumption) (by first | omega | assumption) (by first | omega | assumption) (by first | omega | assumption) (by first | omega | assumption) (by first | omega | assumption) (by first | omega | assumption)).trans ?_
  rw [h1, aft_v]
  refine (w_291_41 (by first | omega | assumption) (by first | omega | assumption) (by first | omega | assumption) (by first | omega | assumption) (by first | omega | assumption) (by first | omega | assumption) (by first | omega | assumption) (by first | omega | assumption) (by first | omega | assumption) (by first | omega | assumption) (by first | omega | assumption)).trans ?_
  rw [h2, aft_v]
  refine (w_291_42 (by first | omega | assumption)).trans ?_
  rw [qt, aft_v]
  refine (w_291_43 (by first | omega | assumption) (by first | omega | assumption) (by first | omega | assumption) (by first | omega | assumption)).trans ?_
  refine (if_pos rfl).trans ?_
  refine (w_291_45 (by first | omega | assumption) (by first | omega | assumption)).trans ?_
  by_cases h0 : v = 0
  · refine (if_neg (not_not_intro h0)).trans ?_
    have hq' := hq h0
    have c0 : cmpI (g2.2.1 o 0) w' = 0 := by rw [hq']; unfold cmpI; rw [if_neg (by omega), if_pos rfl]
    have c1 : -2147483648 ≤ cmpI (g2.2.1 o 0) w' := by omega
    have c2 : cmpI (g2.2.1 o 0) w' < 2147483648 := by omega
    refine (w_291_46 (by first | omega | assumption) (by first | omega | assumption) (by first | omega | assumption) (by first | omega | assumption) (by first | omega | assumption) (by first | omega | assumption) (by first | omega | assumption) (by first | omega | assumption) (by first | omega | assumption) (by first | omega | assumption)).trans ?_
    refine (if_pos c0).trans ?_
    exact w_291_48
  · refine (if_pos h0).trans ?_
    exact w_291_48
theorem lt_weight (hs : gt g s = 0 ∨ gt g s = 7) (hi : 0 ≤ i ∧ i + 6 ≤ gn g s ∧ (gn g s : Int) < 2147483648) (hm : g.1 m = sX6 m) (ho : gt g o = 1 ∧ gn g o = 1) (e1 : g1.1 = g.1) (e2 : g2.1 = g.1) (es : I1 s = I s) (h1 : cl 267 [.ref x, .int (iI (I s (i + 1))), .ref o] (mk g I) = some (.inl (some (.int (iI v))), mk g1 I1)) (h2 : cl 222 [.ref m, .int (iI (I s (i + 1)))] (mk g1 I1) = some (.inl (some (.int (iI w))), mk g2 I2)) (hv : 0 ≤ v ∧ v ≤ 3) (ht : I2 m 7 = v) (hq : v = 0 → g2.2.1 o 0 = (iI w).toInt) :
    ∃ p6 p7 p8, rn 291 49 [some (.ref s), some (.ref x), some (.ref m), some (.ref o), some (.ref od), some (.int (iI i)), o6, o7, o8] [] (mk g I) = rn 291 314 [some (.ref s), some (.ref x), some (.ref m), some (.ref o), some (.ref od), some (.int (iI i)), p6, p7, p8] [] (mk g2 I2) := by
  have hs1 : gt g1 s = 0 ∨ gt g1 s = 7 := by rw [gt_e e1]; exact hs
  have hn1 : gn g1 s = gn g s := gn_e e1 s
  have m1 : g1.1 m = sX6 m := by rw [e1]; exact hm
  have m2 : g2.1 m = sX6 m := by rw [e2]; exact hm
  have o2 : gt g2 o = 1 := by rw [gt_e e2]; exact ho.1
  have n2 : gn g2 o = 1 := by rw [gn_e e2]; exact ho.2
  have n2' : 0 < (gn g2 o : Int) := by omega
  have hr := iI_rng (iI w)
  rw [iI_of (iI w)] at h2
  obtain ⟨w', hw'⟩ : ∃ w', w' = (iI w).toInt := ⟨_, rfl⟩
  rw [← hw'] at h2 hr hq
  have qt := s_thrown' (g := g2) (I := I2) m2
  rw [ht] at qt
  rw [← es] at h2
  refine ⟨some (.int (iI v)), some (.int (iI w')), o8, ?_⟩
  refine (w_291_49 (by first | omega | assumption) (by first | omega | assumption) (by first | omega | assumption) (by first | omega | assumption)).trans ?_
  rw [h1, aft_v]
  refine (w_291_50 (by first | omega | assumption) (by first | omega | assumption) (by first | omega | assumption) (by first | omega | assumption) (by first | omega | assumption)).trans ?_
  rw [h2, aft_v]
  refine (w_291_51 (by first | omega | assumption)).trans ?_
  rw [qt, aft_v]
  refine (w_291_52 (by first | omega | assumption) (by first | omega | assumption) (by first | omega | assumption) (by first | omega | assumption)).trans ?_
  refine (if_pos rfl).trans ?_
  refine (w_291_54 (by first | omega | assumption) (by first | omega | assumption)).trans ?_
  by_cases h0 : v = 0
  · refine (if_neg (not_not_intro h0)).trans ?_
    have hq' := hq h0
    have c0 : cmpI (g2.2.1 o 0) w' = 0 := by rw [hq']; unfold cmpI; rw [if_neg (by omega), if_pos rfl]
    have c1 : -2147483648 ≤ cmpI (g2.2.1 o 0) w' := by omega
    have c2 : cmpI (g2.2.1 o 0) w' < 2147483648 := by omega
    refine (w_291_55 (by first | omega | assumption) (by first | omega | assumption) (by first | omega | assumption) (by first | omega | assumption) (by first | omega | assumption) (by first | omega | assumption) (by first | omega | assumption) (by first | omega | assumption) (by first | omega | assumption) (by first | omega | assumption)).trans ?_
    refine (if_pos c0).trans ?_
    exact w_291_57
  · refine (if_pos h0).trans ?_
    exact w_291_57
theorem lt_span (hs : gt g s = 0 ∨ gt g s = 7) (hi : 0 ≤ i ∧ i + 6 ≤ gn g s ∧ (gn g s : Int) < 2147483648) (hm : g.1 m = sX6 m) (ho : gt g o = 1 ∧ gn g o = 1) (e1 : g1.1 = g.1) (e2 : g2.1 = g.1) (es : I1 s = I s) (h1 : cl 268 [.ref x, .int (iI (I s (i + 1))), .int (iI (I s (i + 2))), .int (iI (I s (i + 3))), .ref o] (mk g I) = some (.inl (some (.int (iI v))), mk g1 I1)) (h2 : cl 223 [.ref m, .int (iI (I s (i + 1))), .int (iI (I s (i + 2))), .int (iI (I s (i + 3)))] (mk g1 I1) = some (.inl (some (.int (iI w))), mk g2 I2)) (hv : 0 ≤ v ∧ v ≤ 3) (ht : I2 m 7 = v) (hq : v = 0 → g2.2.1 o 0 = (iI w).toInt) :
    ∃ p6 p7 p8, rn 291 58 [some (.ref s), some (.ref x), some (.ref m), some (.ref o), some (.ref od), some (.int (iI i)), o6, o7, o8] [] (mk g I) = rn 291 314 [some (.ref s), some (.ref x), some (.ref m), some (.ref o), some (.ref od), some (.int (iI i)), p6, p7, p8] [] (mk g2 I2) := by
  have hs1 : gt g1 s = 0 ∨ gt g1 s = 7 := by rw [gt_e e1]; exact hs
  have hn1 : gn g1 s = gn g s := gn_e e1 s
  have m1 : g1.1 m = sX6 m := by rw [e1]; exact hm
  have m2 : g2.1 m = sX6 m := by rw [e2]; exact hm
  have o2 : gt g2 o = 1 := by rw [gt_e e2]; exact ho.1
  have n2 : gn g2 o = 1 := by rw [gn_e e2]; exact ho.2
  have n2' : 0 < (gn g2 o : Int) := by omega
  have hr := iI_rng (iI w)
  rw [iI_of (iI w)] at h2
  obtain ⟨w', hw'⟩ : ∃ w', w' = (iI w).toInt := ⟨_, rfl⟩
  rw [← hw'] at h2 hr hq
  have qt := s_thrown' (g := g2) (I := I2) m2
  rw [ht] at qt
  rw [← es] at h2
  refine ⟨some (.int (iI v)), some (.int (iI w')), o8, ?_⟩
  refine (w_291_58 (by first | omega | assumption) (by first | omega | assumption) (by first | omega | assumption) (by first | omega | assumption) (by first | omega | assumption) (by first | omega | assumption) (by first | omega | assumption) (by first | omega | assumption) (by first | omega | assumption) (by first | omega | assumption)).trans ?_
  rw [h1, aft_v]
  refine (w_291_59 (by first | omega | assumption) (by first | omega | assumption) (by first | omega | assumption) (by first | omega | assumption) (by first | omega | assumption) (by first | omega | assumption) (by first | omega | assumption) (by first | omega | assumption) (by first | omega | assumption) (by first | omega | assumption) (by first | omega | assumption)).trans ?_
  rw [h2, aft_v]
  refine (w_291_60 (by first | omega | assumption)).trans ?_
  rw [qt, aft_v]
  refine (w_291_61 (by first | omega | assumption) (by first | omega | assumption) (by first | omega | assumption) (by first | omega | assumption)).trans ?_
  refine (if_pos rfl).trans ?_
  refine (w_291_63 (by first | omega | assumption) (by first | omega | assumption)).trans ?_
  by_cases h0 : v = 0
  · refine (if_neg (not_not_intro h0)).trans ?_
    have hq' := hq h0
    have c0 : cmpI (g2.2.1 o 0) w' = 0 := by rw [hq']; unfold cmpI; rw [if_neg (by omega), if_pos rfl]
    have c1 : -2147483648 ≤ cmpI (g2.2.1 o 0) w' := by omega
    have c2 : cmpI (g2.2.1 o 0) w' < 2147483648 := by omega
    refine (w_291_64 (by first | omega | assumption) (by first | omega | assumption) (by first | omega | assumption) (by first | omega | assumption) (by first | omega | assumption) (by first | omega | assumption) (by first | omega | assumption) (by first | omega | assumption) (by first | omega | assumption) (by first | omega | assumption)).trans ?_
    refine (if_pos c0).trans ?_
    exact w_291_66
  · refine (if_pos h0).trans ?_
    exact w_291_66
theorem lt_link (hs : gt g s = 0 ∨ gt g s = 7) (hi : 0 ≤ i ∧ i + 6 ≤ gn g s ∧ (gn g s : Int) < 2147483648) (hm : g.1 m = sX6 m) (ho : gt g o = 1 ∧ gn g o = 1) (e1 : g1.1 = g.1) (e2 : g2.1 = g.1) (es : I1 s = I s) (h1 : cl 269 [.ref x, .int (iI (I s (i + 1))), .int (iI (I s (i + 2))), .int (iI (I s (i + 3))), .int (iI (I s (i + 4))), .ref o] (mk g I) = some (.inl (some (.int (iI v))), mk g1 I1)) (h2 : cl 225 [.ref m, .int (iI (I s (i + 1))), .int (iI (I s (i + 2))), .int (iI (I s (i + 3))), .int (iI (I s (i + 4)))] (mk g1 I1) = some (.inl (some (.int (iI w))), mk g2 I2)) (hv : 0 ≤ v ∧ v ≤ 3) (ht : I2 m 7 = v) (hq : v = 0 → g2.2.1 o 0 = (iI w).toInt) :
    ∃ p6 p7 p8, rn 291 67 [some (.ref s), some (.ref x), some (.ref m), some (.ref o), some (.ref od), some (.int (iI i)), o6, o7, o8] [] (mk g I) = rn 291 314 [some (.ref s), some (.ref x), some (.ref m), some (.ref o), some (.ref od), some (.int (iI i)), p6, p7, p8] [] (mk g2 I2) := by
  have hs1 : gt g1 s = 0 ∨ gt g1 s = 7 := by rw [gt_e e1]; exact hs
  have hn1 : gn g1 s = gn g s := gn_e e1 s
  have m1 : g1.1 m = sX6 m := by rw [e1]; exact hm
  have m2 : g2.1 m = sX6 m := by rw [e2]; exact hm
  have o2 : gt g2 o = 1 := by rw [gt_e e2]; exact ho.1
  have n2 : gn g2 o = 1 := by rw [gn_e e2]; exact ho.2
  have n2' : 0 < (gn g2 o : Int) := by omega
  have hr := iI_rng (iI w)
  rw [iI_of (iI w)] at h2
  obtain ⟨w', hw'⟩ : ∃ w', w' = (iI w).toInt := ⟨_, rfl⟩
  rw [← hw'] at h2 hr hq
  have qt := s_thrown' (g := g2) (I := I2) m2
  rw [ht] at qt
  rw [← es] at h2
  refine ⟨some (.int (iI v)), some (.int (iI w')), o8, ?_⟩
  refine (w_291_67 (by first | omega | assumption) (by first | omega | assumption) (by first | omega | assumption) (by first | omega | assumption) (by first | omega | assumption) (by first | omega | assumption) (by first | omega | assumption) (by first | omega | assumption) (by first | omega | assumption) (by first | omega | assumption) (by first | omega | assumption) (by first | omega | assumption) (by first | omega | assumption)).trans ?_
  rw [h1, aft_v]
  refine (w_291_68 (by first | omega | assumption) (by first | omega | assumption) (by first | omega | assumption) (by first | omega | assumption) (by first | omega | assumption) (by first | omega | assumption) (by first | omega | assumption) (by first | omega | assumption) (by first | omega | assumption) (by first | omega | assumption) (by first | omega | assumption) (by first | omega | assumption) (by first | omega | assumption) (by first | omega | assumption)).trans ?_
  rw [h2, aft_v]
  refine (w_291_69 (by first | omega | assumption)).trans ?_
  rw [qt, aft_v]
  refine (w_291_70 (by first | omega | assumption) (by first | omega | assumption) (by first | omega | assumption) (by first | omega | assumption)).trans ?_
  refine (if_pos rfl).trans ?_
  refine (w_291_72 (by first | omega | assumption) (by first | omega | assumption)).trans ?_
  by_cases h0 : v = 0
  · refine (if_neg (not_not_intro h0)).trans ?_
    have hq' := hq h0
    have c0 : cmpI (g2.2.1 o 0) w' = 0 := by rw [hq']; unfold cmpI; rw [if_neg (by omega), if_pos rfl]
    have c1 : -2147483648 ≤ cmpI (g2.2.1 o 0) w' := by omega
    have c2 : cmpI (g2.2.1 o 0) w' < 2147483648 := by omega
    refine (w_291_73 (by first | omega | assumption) (by first | omega | assumption) (by first | omega | assumption) (by first | omega | assumption) (by first | omega | assumption) (by first | omega | assumption) (by first | omega | assumption) (by first | omega | assumption) (by first | omega | assumption) (by first | omega | assumption)).trans ?_
    refine (if_pos c0).trans ?_
    exact w_291_75
  · refine (if_pos h0).trans ?_
    exact w_291_75
theorem lt_finger (hs : gt g s = 0 ∨ gt g s = 7) (hi : 0 ≤ i ∧ i + 6 ≤ gn g s ∧ (gn g s : Int) < 2147483648) (hm : g.1 m = sX6 m) (ho : gt g o = 1 ∧ gn g o = 1) (e1 : g1.1 = g.1) (e2 : g2.1 = g.1) (es : I1 s = I s) (h1 : cl 270 [.ref x, .int (iI (I s (i + 1))), .int (iI (I s (i + 2))), .ref o] (mk g I) = some (.inl (some (.int (iI v))), mk g1 I1)) (h2 : cl 227 [.ref m, .int (iI (I s (i + 1))), .int (iI (I s (i + 2)))] (mk g1 I1) = some (.inl (some (.int (iI w))), mk g2 I2)) (hv : 0 ≤ v ∧ v ≤ 3) (ht : I2 m 7 = v) (hq : v = 0 → g2.2.1 o 0 = (iI w).toInt) :
    ∃ p6 p7 p8, rn 291 80 [some (.ref s), some (.ref x), some (.ref m), some (.ref o), some (.ref od), some (.int (iI i)), o6, o7, o8] [] (mk g I) = rn 291 314 [some (.ref s), some (.ref x), some (.ref m), some (.ref o), some (.ref od), some (.int (iI i)), p6, p7, p8] [] (mk g2 I2) := by
  have hs1 : gt g1 s = 0 ∨ gt g1 s = 7 := by rw [gt_e e1]; exact hs
  have hn1 : gn g1 s = gn g s := gn_e e1 s
  have m1 : g1.1 m = sX6 m := by rw [e1]; exact hm
  have m2 : g2.1 m = sX6 m := by rw [e2]; exact hm
  have o2 : gt g2 o = 1 := by rw [gt_e e2]; exact ho.1
  have n2 : gn g2 o = 1 := by rw [gn_e e2]; exact ho.2
  have n2' : 0 < (gn g2 o : Int) := by omega
  have hr := iI_rng (iI w)
  rw [iI_of (iI w)] at h2
  obtain ⟨w', hw'⟩ : ∃ w', w' = (iI w).toInt := ⟨_, rfl⟩
  rw [← hw'] at h2 hr hq
  have qt := s_thrown' (g := g2) (I := I2) m2
  rw [ht] at qt
  rw [← es] at h2
  refine ⟨some (.int (iI v)), some (.int (iI w')), o8, ?_⟩
  refine (w_291_80 (by first | omega | assumption) (by first | omega | assumption) (by first | omega | assumption) (by first | omega | assumption) (by first | omega | assumption) (by first | omega | assumption) (by first | omega | assumption)).trans ?_
  rw [h1, aft_v]
  refine (w_291_81 (by first | omega | assumption) (by first | omega | assumption) (by first | omega | assumption) (by first | omega | assumption) (by first | omega | assumption) (by first | omega | assumption) (by first | omega | assumption) (by first | omega | assumption)).trans ?_
  rw [h2, aft_v]
  refine (w_291_82 (by first | omega | assumption)).trans ?_
  rw [qt, aft_v]
  refine (w_291_83 (by first | omega | assumption) (by first | omega | assumption) (by first | omega | assumption) (by first | omega | assumption)).trans ?_
  refine (if_pos rfl).trans ?_
  refine (w_291_85 (by first | omega | assumption) (by first | omega | assumption)).trans ?_
  by_cases h0 : v = 0
  · refine (if_neg (not_not_intro h0)).trans ?_
    have hq' := hq h0
    have c0 : cmpI (g2.2.1 o 0) w' = 0 := by rw [hq']; unfold cmpI; rw [if_neg (by omega), if_pos rfl]
    have c1 : -2147483648 ≤ cmpI (g2.2.1 o 0) w' := by omega
    have c2 : cmpI (g2.2.1 o 0) w' < 2147483648 := by omega
    refine (w_291_86 (by first | omega | assumption) (by first | omega | assumption) (by first | omega | assumption) (by first | omega | assumption) (by first | omega | assumption) (by first | omega | assumption) (by first | omega | assumption) (by first | omega | assumption) (by first | omega | assumption) (by first | omega | assumption)).trans ?_
    refine (if_pos c0).trans ?_
    exact w_291_88
  · refine (if_pos h0).trans ?_
    exact w_291_88
theorem lt_part (hs : gt g s = 0 ∨ gt g s = 7) (hi : 0 ≤ i ∧ i + 6 ≤ gn g s ∧ (gn g s : Int) < 2147483648) (hm : g.1 m = sX6 m) (ho : gt g o = 1 ∧ gn g o = 1) (e1 : g1.1 = g.1) (e2 : g2.1 = g.1) (es : I1 s = I s) (h1 : cl 271 [.ref x, .int (iI (I s (i + 1))), .int (iI (I s (i + 2))), .ref o] (mk g I) = some (.inl (some (.int (iI v))), mk g1 I1)) (h2 : cl 228 [.ref m, .int (iI (I s (i + 1))), .int (iI (I s (i + 2)))] (mk g1 I1) = some (.inl (some (.int (iI w))), mk g2 I2)) (hv : 0 ≤ v ∧ v ≤ 3) (ht : I2 m 7 = v) (hq : v = 0 → g2.2.1 o 0 = (iI w).toInt) :
    ∃ p6 p7 p8, rn 291 89 [some (.ref s), some (.ref x), some (.ref m), some (.ref o), some (.ref od), some (.int (iI i)), o6, o7, o8] [] (mk g I) = rn 291 314 [some (.ref s), some (.ref x), some (.ref m), some (.ref o), some (.ref od), some (.int (iI i)), p6, p7, p8] [] (mk g2 I2) := by
  have hs1 : gt g1 s = 0 ∨ gt g1 s = 7 := by rw [gt_e e1]; exact hs
  have hn1 : gn g1 s = gn g s := gn_e e1 s
  have m1 : g1.1 m = sX6 m := by rw [e1]; exact hm
  have m2 : g2.1 m = sX6 m := by rw [e2]; exact hm
  have o2 : gt g2 o = 1 := by rw [gt_e e2]; exact ho.1
  have n2 : gn g2 o = 1 := by rw [gn_e e2]; exact ho.2
  have n2' : 0 < (gn g2 o : Int) := by omega
  have hr := iI_rng (iI w)
  rw [iI_of (iI w)] at h2
  obtain ⟨w', hw'⟩ : ∃ w', w' = (iI w).toInt := ⟨_, rfl⟩
  rw [← hw'] at h2 hr hq
  have qt := s_thrown' (g := g2) (I := I2) m2
  rw [ht] at qt
  rw [← es] at h2
  refine ⟨some (.int (iI v)), some (.int (iI w')), o8, ?_⟩
  refine (w_291_89 (by first | omega | assumption) (by first | omega | assumption) (by first | omega | assumption) (by first | omega | assumption) (by first | omega | assumption) (by first | omega | assumption) (by first | omega | assumption)).trans ?_
  rw [h1, aft_v]
  refine (w_291_90 (by first | omega | assumption) (by first | omega | assumption) (by first | omega | assumption) (by first | omega | assumption) (by first | omega | assumption) (by first | omega | assumption) (by first | omega | assumption) (by first | omega | assumption)).trans ?_
  rw [h2, aft_v]
  refine (w_291_91 (by first | omega | assumption)).trans ?_
  rw [qt, aft_v]
  refine (w_291_92 (by first | omega | assumption) (by first | omega | assumption) (by first | omega | assumption) (by first | omega | assumption)).trans ?_
  refine (if_pos rfl).trans ?_
  refine (w_291_94 (by first | omega | assumption) (by first | omega | assumption)).trans ?_
  by_cases h0 : v = 0
  · refine (if_neg (not_not_intro h0)).trans ?_
    have hq' := hq h0
    have c0 : cmpI (g2.2.1 o 0) w' = 0 := by rw [hq']; unfold cmpI; rw [if_neg (by omega), if_pos rfl]
    have c1 : -2147483648 ≤ cmpI (g2.2.1 o 0) w' := by omega
    have c2 : cmpI (g2.2.1 o 0) w' < 2147483648 := by omega
    refine (w_291_95 (by first | omega | assumption) (by first | omega | assumption) (by first | omega | assumption) (by first | omega | assumption) (by first | omega | assumption) (by first | omega | assumption) (by first | omega | assumption) (by first | omega | assumption) (by first | omega | assumption) (by first | omega | assumption)).trans ?_
    refine (if_pos c0).trans ?_
    exact w_291_97
  · refine (if_pos h0).trans ?_
    exact w_291_97
theorem lt_costWith (hs : gt g s = 0 ∨ gt g s = 7) (hi : 0 ≤ i ∧ i + 6 ≤ gn g s ∧ (gn g s : Int) < 2147483648) (hm : g.1 m = sX6 m) (ho : gt g o = 1 ∧ gn g o = 1) (e1 : g1.1 = g.1) (e2 : g2.1 = g.1) (es : I1 s = I s) (h1 : cl 272 [.ref x, .int (iI (I s (i + 1))), .int (iI (I s (i + 2))), .int (iI (I s (i + 3))), .ref o] (mk g I) = some (.inl (some (.int (iI v))), mk g1 I1)) (h2 : cl 230 [.ref m, .int (iI (I s (i + 1))), .int (iI (I s (i + 2))), .int (iI (I s (i + 3)))] (mk g1 I1) = some (.inl (some (.int (iI w))), mk g2 I2)) (hv : 0 ≤ v ∧ v ≤ 3) (ht : I2 m 7 = v) (hq : v = 0 → g2.2.1 o 0 = (iI w).toInt) :
    ∃ p6 p7 p8, rn 291 108 [some (.ref s), some (.ref x), some (.ref m), some (.ref o), some (.ref od), some (.int (iI i)), o6, o7, o8] [] (mk g I) = rn 291 314 [some (.ref s), some (.ref x), some (.ref m), some (.ref o), some (.ref od), some (.int (iI i)), p6, p7, p8] [] (mk g2 I2) := by
  have hs1 : gt g1 s = 0 ∨ gt g1 s = 7 := by rw [gt_e e1]; exact hs
  have hn1 : gn g1 s = gn g s := gn_e e1 s
  have m1 : g1.1 m = sX6 m := by rw [e1]; exact hm
  have m2 : g2.1 m = sX6 m := by rw [e2]; exact hm
  have o2 : gt g2 o = 1 := by rw [gt_e e2]; exact ho.1
  have n2 : gn g2 o = 1 := by rw [gn_e e2]; exact ho.2
  have n2' : 0 < (gn g2 o : Int) := by omega
  have hr := iI_rng (iI w)
  rw [iI_of (iI w)] at h2
  obtain ⟨w', hw'⟩ : ∃ w', w' = (iI w).toInt := ⟨_, rfl⟩
  rw [← hw'] at h2 hr hq
  have qt := s_thrown' (g := g2) (I := I2) m2
  rw [ht] at qt
  rw [← es] at h2
  refine ⟨some (.int (iI v)), some (.int (iI w')), o8, ?_⟩
  refine (w_291_108 (by first | omega | assumption) (by first | omega | assumption) (by first | omega | assumption) (by first | omega | assumption) (by first | omega | assumption) (by first | omega | assumption) (by first | omega | assumption) (by first | omega | assumption) (by first | omega | assumption) (by first | omega | assumption)).trans ?_
  rw [h1, aft_v]
  refine (w_291_109 (by first | omega | assumption) (by first | omega | assumption) (by first | omega | assumption) (by first | omega | assumption) (by first | omega | assumption) (by first | omega | assumption) (by first | omega | assumption) (by first | omega | assumption) (by first | omega | assumption) (by first | omega | assumption) (by first | omega | assumption)).trans ?_
  rw [h2, aft_v]
  refine (w_291_110 (by first | omega | assumption)).trans ?_
  rw [qt, aft_v]
  refine (w_291_111 (by first | omega | assumption) (by first | omega | assumption) (by first | omega | assumption) (by first | omega | assumption)).trans ?_
  refine (if_pos rfl).trans ?_
  refine (w_291_113 (by first | omega | assumption) (by first | omega | assumption)).trans ?_
  by_cases h0 : v = 0
  · refine (if_neg (not_not_intro h0)).trans ?_
    have hq' := hq h0
    have c0 : cmpI (g2.2.1 o 0) w' = 0 := by rw [hq']; unfold cmpI; rw [if_neg (by omega), if_pos rfl]
    have c1 : -2147483648 ≤ cmpI (g2.2.1 o 0) w' := by omega
    have c2 : cmpI (g2.2.1 o 0) w' < 2147483648 := by omega
    refine (w_291_114 (by first | omega | assumption) (by first | omega | assumption) (by first | omega | assumption) (by first | omega | assumption) (by first | omega | assumption) (by first | omega | assumption) (by first | omega | assumption) (by first | omega | assumption) (by first | omega | assumption) (by first | omega | assumption)).trans ?_
    refine (if_pos c0).trans ?_
    exact w_291_116
  · refine (if_pos h0).trans ?_
    exact w_291_116
theorem lt_uses (hs : gt g s = 0 ∨ gt g s = 7) (hi : 0 ≤ i ∧ i + 6 ≤ gn g s ∧ (gn g s : Int) < 2147483648) (hm : g.1 m = sX6 m) (ho : gt g o = 1 ∧ gn g o = 1) (e1 : g1.1 = g.1) (e2 : g2.1 = g.1) (es : I1 s = I s) (h1 : cl 273 [.ref x, .int (iI (I s (i + 1))), .ref o] (mk g I) = some (.inl (some (.int (iI v))), mk g1 I1)) (h2 : cl 233 [.ref m, .int (iI (I s (i + 1)))] (mk g1 I1) = some (.inl (some (.int (iI w))), mk g2 I2)) (hv : 0 ≤ v ∧ v ≤ 3) (ht : I2 m 7 = v) (hq : v = 0 → g2.2.1 o 0 = (iI w).toInt) :
    ∃ p6 p7 p8, rn 291 121 [some (.ref s), some (.ref x), some (.ref m), some (.ref o), some (.ref od), some (.int (iI i)), o6, o7, o8] [] (mk g I) = rn 291 314 [some (.ref s), some (.ref x), some (.ref m), some (.ref o), some (.ref od), some (.int (iI i)), p6, p7, p8] [] (mk g2 I2) := by
  have hs1 : gt g1 s = 0 ∨ gt g1 s = 7 := by rw [gt_e e1]; exact hs
  have hn1 : gn g1 s = gn g s := gn_e e1 s
  have m1 : g1.1 m = sX6 m := by rw [e1]; exact hm
  have m2 : g2.1 m = sX6 m := by rw [e2]; exact hm
  have o2 : gt g2 o = 1 := by rw [gt_e e2]; exact ho.1
  have n2 : gn g2 o = 1 := by rw [gn_e e2]; exact ho.2
  have n2' : 0 < (gn g2 o : Int) := by omega
  have hr := iI_rng (iI w)
  rw [iI_of (iI w)] at h2
  obtain ⟨w', hw'⟩ : ∃ w', w' = (iI w).toInt := ⟨_, rfl⟩
  rw [← hw'] at h2 hr hq
  have qt := s_thrown' (g := g2) (I := I2) m2
  rw [ht] at qt
  rw [← es] at h2
  refine ⟨some (.int (iI v)), some (.int (iI w')), o8, ?_⟩
  refine (w_291_121 (by first | omega | assumption) (by first | omega | assumption) (by first | omega | assumption) (by first | omega | assumption)).trans ?_
  rw [h1, aft_v]
  refine (w_291_122 (by first | omega | assumption) (by first | omega | assumption) (by first | omega | assumption) (by first | omega | assumption) (by first | omega | assumption)).trans ?_
  rw [h2, aft_v]
  refine (w_291_123 (by first | omega | assumption)).trans ?_
  rw [qt, aft_v]
  refine (w_291_124 (by first | omega | assumption) (by first | omega | assumption) (by first | omega | assumption) (by first | omega | assumption)).trans ?_
  refine (if_pos rfl).trans ?_
  refine (w_291_126 (by first | omega | assumption) (by first | omega | assumption)).trans ?_
  by_cases h0 : v = 0
  · refine (if_neg (not_not_intro h0)).trans ?_
    have hq' := hq h0
    have c0 : cmpI (g2.2.1 o 0) w' = 0 := by rw [hq']; unfold cmpI; rw [if_neg (by omega), if_pos rfl]
    have c1 : -2147483648 ≤ cmpI (g2.2.1 o 0) w' := by omega
    have c2 : cmpI (g2.2.1 o 0) w' < 2147483648 := by omega
    refine (w_291_127 (by first | omega | assumption) (by first | omega | assumption) (by first | omega | assumption) (by first | omega | assumption) (by first | omega | assumption) (by first | omega | assumption) (by first | omega | assumption) (by first | omega | assumption) (by first | omega | assumption) (by first | omega | assumption)).trans ?_
    refine (if_pos c0).trans ?_
    exact w_291_129
  · refine (if_pos h0).trans ?_
    exact w_291_129
theorem lt_sure (hs : gt g s = 0 ∨ gt g s = 7) (hi : 0 ≤ i ∧ i + 6 ≤ gn g s ∧ (gn g s : Int) < 2147483648) (hm : g.1 m = sX6 m) (ho : gt g o = 1 ∧ gn g o = 1) (e1 : g1.1 = g.1) (e2 : g2.1 = g.1) (es : I1 s = I s) (h1 : cl 274 [.ref x, .ref o] (mk g I) = some (.inl (some (.int (iI v))), mk g1 I1)) (h2 : cl 235 [.ref m] (mk g1 I1) = some (.inl (some (.int (iI w))), mk g2 I2)) (hv : 0 ≤ v ∧ v ≤ 3) (ht : I2 m 7 = v) (hq : v = 0 → g2.2.1 o 0 = (iI w).toInt) :
    ∃ p6 p7 p8, rn 291 130 [some (.ref s), some (.ref x), some (.ref m), some (.ref o), some (.ref od), some (.int (iI i)), o6, o7, o8] [] (mk g I) = rn 291 314 [some (.ref s), some (.ref x), some (.ref m), some (.ref o), some (.ref od), some (.int (iI i)), p6, p7, p8] [] (mk g2 I2) := by
  have hs1 : gt g1 s = 0 ∨ gt g1 s = 7 := by rw [gt_e e1]; exact hs
  have hn1 : gn g1 s = gn g s := gn_e e1 s
  have m1 : g1.1 m = sX6 m := by rw [e1]; exact hm
  have m2 : g2.1 m = sX6 m := by rw [e2]; exact hm
  have o2 : gt g2 o = 1 := by rw [gt_e e2]; exact ho.1
  have n2 : gn g2 o = 1 := by rw [gn_e e2]; exact ho.2
  have n2' : 0 < (gn g2 o : Int) := by omega
  have hr := iI_rng (iI w)
  rw [iI_of (iI w)] at h2
  obtain ⟨w', hw'⟩ : ∃ w', w' = (iI w).toInt := ⟨_, rfl⟩
  rw [← hw'] at h2 hr hq
  have qt := s_thrown' (g := g2) (I := I2) m2
  rw [ht] at qt
  refine ⟨some (.int (iI v)), some (.int (iI w')), o8, ?_⟩
  refine (w_291_130).trans ?_
  rw [h1, aft_v]
  refine (w_291_131 (by first | omega | assumption)).trans ?_
  rw [h2, aft_v]
  refine (w_291_132 (by first | omega | assumption)).trans ?_
  rw [qt, aft_v]
  refine (w_291_133 (by first | omega | assumption) (by first | omega | assumption) (by first | omega | assumption) (by first | omega | assumption)).trans ?_
  refine (if_pos rfl).trans ?_
  refine (w_291_135 (by first | omega | assumption) (by first | omega | assumption)).trans ?_
  by_cases h0 : v = 0
  · refine (if_neg (not_not_intro h0)).trans ?_
    have hq' := hq h0
    have c0 : cmpI (g2.2.1 o 0) w' = 0 := by rw [hq']; unfold cmpI; rw [if_neg (by omega), if_pos rfl]
    have c1 : -2147483648 ≤ cmpI (g2.2.1 o 0) w' := by omega
    have c2 : cmpI (g2.2.1 o 0) w' < 2147483648 := by omega
    refine (w_291_136 (by first | omega | assumption) (by first | omega | assumption) (by first | omega | assumption) (by first | omega | assumption) (by first | omega | assumption) (by first | omega | assumption) (by first | omega | assumption) (by first | omega | assumption) (by first | omega | assumption) (by first | omega | assumption)).trans ?_
    refine (if_pos c0).trans ?_
    exact w_291_138
  · refine (if_pos h0).trans ?_
    exact w_291_138
theorem lt_transposed (hs : gt g s = 0 ∨ gt g s = 7) (hi : 0 ≤ i ∧ i + 6 ≤ gn g s ∧ (gn g s : Int) < 2147483648) (hm : g.1 m = sX6 m) (ho : gt g o = 1 ∧ gn g o = 1) (e1 : g1.1 = g.1) (e2 : g2.1 = g.1) (es : I1 s = I s) (h1 : cl 276 [.ref x, .int (iI (I s (i + 1))), .ref o] (mk g I) = some (.inl (some (.int (iI v))), mk g1 I1)) (h2 : cl 246 [.ref m, .int (iI (I s (i + 1)))] (mk g1 I1) = some (.inl (some (.int (iI w))), mk g2 I2)) (hv : 0 ≤ v ∧ v ≤ 3) (ht : I2 m 7 = v) (hq : v = 0 → g2.2.1 o 0 = (iI w).toInt) :
    ∃ p6 p7 p8, rn 291 162 [some (.ref s), some (.ref x), some (.ref m), some (.ref o), some (.ref od), some (.int (iI i)), o6, o7, o8] [] (mk g I) = rn 291 314 [some (.ref s), some (.ref x), some (.ref m), some (.ref o), some (.ref od), some (.int (iI i)), p6, p7, p8] [] (mk g2 I2) := by
  have hs1 : gt g1 s = 0 ∨ gt g1 s = 7 := by rw [gt_e e1]; exact hs
  have hn1 : gn g1 s = gn g s := gn_e e1 s
  have m1 : g1.1 m = sX6 m := by rw [e1]; exact hm
  have m2 : g2.1 m = sX6 m := by rw [e2]; exact hm
  have o2 : gt g2 o = 1 := by rw [gt_e e2]; exact ho.1
  have n2 : gn g2 o = 1 := by rw [gn_e e2]; exact ho.2
  have n2' : 0 < (gn g2 o : Int) := by omega
  have hr := iI_rng (iI w)
  rw [iI_of (iI w)] at h2
  obtain ⟨w', hw'⟩ : ∃ w', w' = (iI w).toInt := ⟨_, rfl⟩
  rw [← hw'] at h2 hr hq
  have qt := s_thrown' (g := g2) (I := I2) m2
  rw [ht] at qt
  rw [← es] at h2
  refine ⟨some (.int (iI v)), some (.int (iI w')), o8, ?_⟩
  refine (w_291_162 (by first | omega | assumption) (by first | omega | assumption) (by first | omega | assumption) (by first | omega | assumption)).trans ?_
  rw [h1, aft_v]
  refine (w_291_163 (by first | omega | assumption) (by first | omega | assumption) (by first | omega | assumption) (by first | omega | assumption) (by first | omega | assumption)).trans ?_
  rw [h2, aft_v]
  refine (w_291_164 (by first | omega | assumption)).trans ?_
  rw [qt, aft_v]
  refine (w_291_165 (by first | omega | assumption) (by first | omega | assumption) (by first | omega | assumption) (by first | omega | assumption)).trans ?_
  refine (if_pos rfl).trans ?_
  refine (w_291_167 (by first | omega | assumption) (by first | omega | assumption)).trans ?_
  by_cases h0 : v = 0
  · refine (if_neg (not_not_intro h0)).trans ?_
    have hq' := hq h0
    have c0 : cmpI (g2.2.1 o 0) w' = 0 := by rw [hq']; unfold cmpI; rw [if_neg (by omega), if_pos rfl]
    have c1 : -2147483648 ≤ cmpI (g2.2.1 o 0) w' := by omega
    have c2 : cmpI (g2.2.1 o 0) w' < 2147483648 := by omega
    refine (w_291_168 (by first | omega | assumption) (by first | omega | assumption) (by first | omega | assumption) (by first | omega | assumption) (by first | omega | assumption) (by first | omega | assumption) (by first | omega | assumption) (by first | omega | assumption) (by first | omega | assumption) (by first | omega | assumption)).trans ?_
    refine (if_pos c0).trans ?_
    exact w_291_170
  · refine (if_pos h0).trans ?_
    exact w_291_170
theorem lt_easiest (hs : gt g s = 0 ∨ gt g s = 7) (hi : 0 ≤ i ∧ i + 6 ≤ gn g s ∧ (gn g s : Int) < 2147483648) (hm : g.1 m = sX6 m) (ho : gt g o = 1 ∧ gn g o = 1) (e1 : g1.1 = g.1) (e2 : g2.1 = g.1) (es : I1 s = I s) (h1 : cl 277 [.ref x, .int (iI (I s (i + 1))), .ref o] (mk g I) = some (.inl (some (.int (iI v))), mk g1 I1)) (h2 : cl 247 [.ref m, .int (iI (I s (i + 1)))] (mk g1 I1) = some (.inl (some (.int (iI w))), mk g2 I2)) (hv : 0 ≤ v ∧ v ≤ 3) (ht : I2 m 7 = v) (hq : v = 0 → g2.2.1 o 0 = (iI w).toInt) :
    ∃ p6 p7 p8, rn 291 171 [some (.ref s), some (.ref x), some (.ref m), some (.ref o), some (.ref od), some (.int (iI i)), o6, o7, o8] [] (mk g I) = rn 291 314 [some (.ref s), some (.ref x), some (.ref m), some (.ref o), some (.ref od), some (.int (iI i)), p6, p7, p8] [] (mk g2 I2) := by
  have hs1 : gt g1 s = 0 ∨ gt g1 s = 7 := by rw [gt_e e1]; exact hs
  have hn1 : gn g1 s = gn g s := gn_e e1 s
  have m1 : g1.1 m = sX6 m := by rw [e1]; exact hm
  have m2 : g2.1 m = sX6 m := by rw [e2]; exact hm
  have o2 : gt g2 o = 1 := by rw [gt_e e2]; exact ho.1
  have n2 : gn g2 o = 1 := by rw [gn_e e2]; exact ho.2
  have n2' : 0 < (gn g2 o : Int) := by omega
  have hr := iI_rng (iI w)
  rw [iI_of (iI w)] at h2
  obtain ⟨w', hw'⟩ : ∃ w', w' = (iI w).toInt := ⟨_, rfl⟩
  rw [← hw'] at h2 hr hq
  have qt := s_thrown' (g := g2) (I := I2) m2
  rw [ht] at qt
  rw [← es] at h2
  refine ⟨some (.int (iI v)), some (.int (iI w')), o8, ?_⟩
  refine (w_291_171 (by first | omega | assumption) (by first | omega | assumption) (by first | omega | assumption) (by first | omega | assumption)).trans ?_
  rw [h1, aft_v]
  refine (w_291_172 (by first | omega | assumption) (by first | omega | assumption) (by first | omega | assumption) (by first | omega | assumption) (by first | omega | assumption)).trans ?_
  rw [h2, aft_v]
  refine (w_291_173 (by first | omega | assumption)).trans ?_
  rw [qt, aft_v]
  refine (w_291_174 (by first | omega | assumption) (by first | omega | assumption) (by first | omega | assumption) (by first | omega | assumption)).trans ?_
  refine (if_pos rfl).trans ?_
  refine (w_291_176 (by first | omega | assumption) (by first | omega | assumption)).trans ?_
  by_cases h0 : v = 0
  · refine (if_neg (not_not_intro h0)).trans ?_
    have hq' := hq h0
    have c0 : cmpI (g2.2.1 o 0) w' = 0 := by rw [hq']; unfold cmpI; rw [if_neg (by omega), if_pos rfl]
    have c1 : -2147483648 ≤ cmpI (g2.2.1 o 0) w' := by omega
    have c2 : cmpI (g2.2.1 o 0) w' < 2147483648 := by omega
    refine (w_291_177 (by first | omega | assumption) (by first | omega | assumption) (by first | omega | assumption) (by first | omega | assumption) (by first | omega | assumption) (by first | omega | assumption) (by first | omega | assumption) (by first | omega | assumption) (by first | omega | assumption) (by first | omega | assumption)).trans ?_
    refine (if_pos c0).trans ?_
    exact w_291_179
  · refine (if_pos h0).trans ?_
    exact w_291_179
theorem lt_play (hs : gt g s = 0 ∨ gt g s = 7) (hi : 0 ≤ i ∧ i + 6 ≤ gn g s ∧ (gn g s : Int) < 2147483648) (hm : g.1 m = sX6 m) (ho : gt g o = 1 ∧ gn g o = 1) (e1 : g1.1 = g.1) (e2 : g2.1 = g.1) (es : I1 s = I s) (h1 : cl 278 [.ref x, .int (iI (I s (i + 1))), .int (iI (I s (i + 2))), .int (iI (I s (i + 3))), .int (iI (I s (i + 4))), .int (iI (I s (i + 5))), .ref o] (mk g I) = some (.inl (some (.int (iI v))), mk g1 I1)) (h2 : cl 250 [.ref m, .int (iI (I s (i + 1))), .int (iI (I s (i + 2))), .int (iI (I s (i + 3))), .int (iI (I s (i + 4))), .int (iI (I s (i + 5)))] (mk g1 I1) = some (.inl (some (.int (iI w))), mk g2 I2)) (hv : 0 ≤ v ∧ v ≤ 3) (ht : I2 m 7 = v) (hq : v = 0 → g2.2.1 o 0 = (iI w).toInt) :
    ∃ p6 p7 p8, rn 291 184 [some (.ref s), some (.ref x), some (.ref m), some (.ref o), some (.ref od), some (.int (iI i)), o6, o7, o8] [] (mk g I) = rn 291 314 [some (.ref s), some (.ref x), some (.ref m), some (.ref o), some (.ref od), some (.int (iI i)), p6, p7, p8] [] (mk g2 I2) := by
  have hs1 : gt g1 s = 0 ∨ gt g1 s = 7 := by rw [gt_e e1]; exact hs
  have hn1 : gn g1 s = gn g s := gn_e e1 s
  have m1 : g1.1 m = sX6 m := by rw [e1]; exact hm
  have m2 : g2.1 m = sX6 m := by rw [e2]; exact hm
  have o2 : gt g2 o = 1 := by rw [gt_e e2]; exact ho.1
  have n2 : gn g2 o = 1 := by rw [gn_e e2]; exact ho.2
  have n2' : 0 < (gn g2 o : Int) := by omega
  have hr := iI_rng (iI w)
  rw [iI_of (iI w)] at h2
  obtain ⟨w', hw'⟩ : ∃ w', w' = (iI w).toInt := ⟨_, rfl⟩
  rw [← hw'] at h2 hr hq
  have qt := s_thrown' (g := g2) (I := I2) m2
  rw [ht] at qt
  rw [← es] at h2
  refine ⟨some (.int (iI v)), some (.int (iI w')), o8, ?_⟩
  refine (w_291_184 (by first | omega | assumption) (by first | omega | assumption) (by first | omega | assumption) (by first | omega | assumption) (by first | omega | assumption) (by first | omega | assumption) (by first | omega | assumption) (by first | omega | assumption) (by first | omega | assumption) (by first | omega | assumption) (by first | omega | assumption) (by first | omega | assumption) (by first | omega | assumption) (by first | omega | assumption) (by first | omega | assumption) (by first | omega | assumption)).trans ?_
  rw [h1, aft_v]
  refine (w_291_185 (by first | omega | assumption) (by first | omega | assumption) (by first | omega | assumption) (by first | omega | assumption) (by first | omega | assumption) (by first | omega | assumption) (by first | omega | assumption) (by first | omega | assumption) (by first | omega | assumption) (by first | omega | assumption) (by first | omega | assumption) (by first | omega | assumption) (by first | omega | assumption) (by first | omega | assumption) (by first | omega | assumption) (by first | omega | assumption) (by first | omega | assumption)).trans ?_
  rw [h2, aft_v]
  refine (w_291_186 (by first | omega | assumption)).trans ?_
  rw [qt, aft_v]
  refine (w_291_187 (by first | omega | assumption) (by first | omega | assumption) (by first | omega | assumption) (by first | omega | assumption)).trans ?_
  refine (if_pos rfl).trans ?_
  refine (w_291_189 (by first | omega | assumption) (by first | omega | assumption)).trans ?_
  by_cases h0 : v = 0
  · refine (if_neg (not_not_intro h0)).trans ?_
    have hq' := hq h0
    have c0 : cmpI (g2.2.1 o 0) w' = 0 := by rw [hq']; unfold cmpI; rw [if_neg (by omega), if_pos rfl]
    have c1 : -2147483648 ≤ cmpI (g2.2.1 o 0) w' := by omega
    have c2 : cmpI (g2.2.1 o 0) w' < 2147483648 := by omega
    refine (w_291_190 (by first | omega | assumption) (by first | omega | assumption) (by first | omega | assumption) (by first | omega | assumption) (by first | omega | assumption) (by first | omega | assumption) (by first | omega | assumption) (by first | omega | assumption) (by first | omega | assumption) (by first | omega | assumption)).trans ?_
    refine (if_pos c0).trans ?_
    exact w_291_192
  · refine (if_pos h0).trans ?_
    exact w_291_192
theorem lt_drop (hs : gt g s = 0 ∨ gt g s = 7) (hi : 0 ≤ i ∧ i + 6 ≤ gn g s ∧ (gn g s : Int) < 2147483648) (hm : g.1 m = sX6 m) (ho : gt g o = 1 ∧ gn g o = 1) (e1 : g1.1 = g.1) (e2 : g2.1 = g.1) (es : I1 s = I s) (h1 : cl 279 [.ref x, .int (iI (I s (i + 1))), .ref o] (mk g I) = some (.inl (some (.int (iI v))), mk g1 I1)) (h2 : cl 251 [.ref m, .int (iI (I s (i + 1)))] (mk g1 I1) = some (.inl (some (.int (iI w))), mk g2 I2)) (hv : 0 ≤ v ∧ v ≤ 3) (ht : I2 m 7 = v) (hq : v = 0 → g2.2.1 o 0 = (iI w).toInt) :
    ∃ p6 p7 p8, rn 291 193 [some (.ref s), some (.ref x), some (.ref m), some (.ref o), some (.ref od), some (.int (iI i)), o6, o7, o8] [] (mk g I) = rn 291 314 [some (.ref s), some (.ref x), some (.ref m), some (.ref o), some (.ref od), some (.int (iI i)), p6, p7, p8] [] (mk g2 I2) := by
  have hs1 : gt g1 s = 0 ∨ gt g1 s = 7 := by rw [gt_e e1]; exact hs
  have hn1 : gn g1 s = gn g s := gn_e e1 s
  have m1 : g1.1 m = sX6 m := by rw [e1]; exact hm
  have m2 : g2.1 m = sX6 m := by rw [e2]; exact hm
  have o2 : gt g2 o = 1 := by rw [gt_e e2]; exact ho.1
  have n2 : gn g2 o = 1 := by rw [gn_e e2]; exact ho.2
  have n2' : 0 < (gn g2 o : Int) := by omega
  have hr := iI_rng (iI w)
  rw [iI_of (iI w)] at h2
  obtain ⟨w', hw'⟩ : ∃ w', w' = (iI w).toInt := ⟨_, rfl⟩
  rw [← hw'] at h2 hr hq
  have qt := s_thrown' (g := g2) (I := I2) m2
  rw [ht] at qt
  rw [← es] at h2
  refine ⟨some (.int (iI v)), some (.int (iI w')), o8, ?_⟩
  refine (w_291_193 (by first | omega | assumption) (by first | omega | assumption) (by first | omega | assumption) (by first | omega | assumption)).trans ?_
  rw [h1, aft_v]
  refine (w_291_194 (by first | omega | assumption) (by first | omega | assumption) (by first | omega | assumption) (by first | omega | assumption) (by first | omega | assumption)).trans ?_
  rw [h2, aft_v]
  refine (w_291_195 (by first | omega | assumption)).trans ?_
  rw [qt, aft_v]
  refine (w_291_196 (by first | omega | assumption) (by first | omega | assumption) (by first | omega | assumption) (by first | omega | assumption)).trans ?_
  refine (if_pos rfl).trans ?_
  refine (w_291_198 (by first | omega | assumption) (by first | omega | assumption)).trans ?_
  by_cases h0 : v = 0
  · refine (if_neg (not_not_intro h0)).trans ?_
    have hq' := hq h0
    have c0 : cmpI (g2.2.1 o 0) w' = 0 := by rw [hq']; unfold cmpI; rw [if_neg (by omega), if_pos rfl]
    have c1 : -2147483648 ≤ cmpI (g2.2.1 o 0) w' := by omega
    have c2 : cmpI (g2.2.1 o 0) w' < 2147483648 := by omega
    refine (w_291_199 (by first | omega | assumption) (by first | omega | assumption) (by first | omega | assumption) (by first | omega | assumption) (by first | omega | assumption) (by first | omega | assumption) (by first | omega | assumption) (by first | omega | assumption) (by first | omega | assumption) (by first | omega | assumption)).trans ?_
    refine (if_pos c0).trans ?_
    exact w_291_201
  · refine (if_pos h0).trans ?_
    exact w_291_201
theorem lt_setRest (hs : gt g s = 0 ∨ gt g s = 7) (hi : 0 ≤ i ∧ i + 6 ≤ gn g s ∧ (gn g s : Int) < 2147483648) (hm : g.1 m = sX6 m) (ho : gt g o = 1 ∧ gn g o = 1) (e1 : g1.1 = g.1) (e2 : g2.1 = g.1) (es : I1 s = I s) (h1 : cl 280 [.ref x, .int (iI (I s (i + 1))), .int (iI (I s (i + 2))), .ref o] (mk g I) = some (.inl (some (.int (iI v))), mk g1 I1)) (h2 : cl 253 [.ref m, .int (iI (I s (i + 1))), .int (iI (I s (i + 2)))] (mk g1 I1) = some (.inl (some (.int (iI w))), mk g2 I2)) (hv : 0 ≤ v ∧ v ≤ 3) (ht : I2 m 7 = v) (hq : v = 0 → g2.2.1 o 0 = (iI w).toInt) :
    ∃ p6 p7 p8, rn 291 202 [some (.ref s), some (.ref x), some (.ref m), some (.ref o), some (.ref od), some (.int (iI i)), o6, o7, o8] [] (mk g I) = rn 291 314 [some (.ref s), some (.ref x), some (.ref m), some (.ref o), some (.ref od), some (.int (iI i)), p6, p7, p8] [] (mk g2 I2) := by
  have hs1 : gt g1 s = 0 ∨ gt g1 s = 7 := by rw [gt_e e1]; exact hs
  have hn1 : gn g1 s = gn g s := gn_e e1 s
  have m1 : g1.1 m = sX6 m := by rw [e1]; exact hm
  have m2 : g2.1 m = sX6 m := by rw [e2]; exact hm
  have o2 : gt g2 o = 1 := by rw [gt_e e2]; exact ho.1
  have n2 : gn g2 o = 1 := by rw [gn_e e2]; exact ho.2
  have n2' : 0 < (gn g2 o : Int) := by omega
  have hr := iI_rng (iI w)
  rw [iI_of (iI w)] at h2
  obtain ⟨w', hw'⟩ : ∃ w', w' = (iI w).toInt := ⟨_, rfl⟩
  rw [← hw'] at h2 hr hq
  have qt := s_thrown' (g := g2) (I := I2) m2
  rw [ht] at qt
  rw [← es] at h2
  refine ⟨some (.int (iI v)), some (.int (iI w')), o8, ?_⟩
  refine (w_291_202 (by first | omega | assumption) (by first | omega | assumption) (by first | omega | assumption) (by first | omega | assumption) (by first | omega | assumption) (by first | omega | assumption) (by first | omega | assumption)).trans ?_
  rw [h1, aft_v]
  refine (w_291_203 (by first | omega | assumption) (by first | omega | assumption) (by first | omega | assumption) (by first | omega | assumption) (by first | omega | assumption) (by first | omega | assumption) (by first | omega | assumption) (by first | omega | assumption)).trans ?_
  rw [h2, aft_v]
  refine (w_291_204 (by first | omega | assumption)).trans ?_
  rw [qt, aft_v]
  refine (w_291_205 (by first | omega | assumption) (by first | omega | assumption) (by first | omega | assumption) (by first | omega | assumption)).trans ?_
  refine (if_pos rfl).trans ?_
  refine (w_291_207 (by first | omega | assumption) (by first | omega | assumption)).trans ?_
  by_cases h0 : v = 0
  · refine (if_neg (not_not_intro h0)).trans ?_
    have hq' := hq h0
    have c0 : cmpI (g2.2.1 o 0) w' = 0 := by rw [hq']; unfold cmpI; rw [if_neg (by omega), if_pos rfl]
    have c1 : -2147483648 ≤ cmpI (g2.2.1 o 0) w' := by omega
    have c2 : cmpI (g2.2.1 o 0) w' < 2147483648 := by omega
    refine (w_291_208 (by first | omega | assumption) (by first | omega | assumption) (by first | omega | assumption) (by first | omega | assumption) (by first | omega | assumption) (by first | omega | assumption) (by first | omega | assumption) (by first | omega | assumption) (by first | omega | assumption) (by first | omega | assumption)).trans ?_
    refine (if_pos c0).trans ?_
    exact w_291_210
  · refine (if_pos h0).trans ?_
    exact w_291_210
theorem lt_setWeight (hs : gt g s = 0 ∨ gt g s = 7) (hi : 0 ≤ i ∧ i + 6 ≤ gn g s ∧ (gn g s : Int) < 2147483648) (hm : g.1 m = sX6 m) (ho : gt g o = 1 ∧ gn g o = 1) (e1 : g1.1 = g.1) (e2 : g2.1 = g.1) (es : I1 s = I s) (h1 : cl 282 [.ref x, .int (iI (I s (i + 1))), .int (iI (I s (i + 2))), .ref o] (mk g I) = some (.inl (some (.int (iI v))), mk g1 I1)) (h2 : cl 255 [.ref m, .int (iI (I s (i + 1))), .int (iI (I s (i + 2)))] (mk g1 I1) = some (.inl (some (.int (iI w))), mk g2 I2)) (hv : 0 ≤ v ∧ v ≤ 3) (ht : I2 m 7 = v) (hq : v = 0 → g2.2.1 o 0 = (iI w).toInt) :
    ∃ p6 p7 p8, rn 291 226 [some (.ref s), some (.ref x), some (.ref m), some (.ref o), some (.ref od), some (.int (iI i)), o6, o7, o8] [] (mk g I) = rn 291 314 [some (.ref s), some (.ref x), some (.ref m), some (.ref o), some (.ref od), some (.int (iI i)), p6, p7, p8] [] (mk g2 I2) := by
  have hs1 : gt g1 s = 0 ∨ gt g1 s = 7 := by rw [gt_e e1]; exact hs
  have hn1 : gn g1 s = gn g s := gn_e e1 s
  have m1 : g1.1 m = sX6 m := by rw [e1]; exact hm
  have m2 : g2.1 m = sX6 m := by rw [e2]; exact hm
  have o2 : gt g2 o = 1 := by rw [gt_e e2]; exact ho.1
  have n2 : gn g2 o = 1 := by rw [gn_e e2]; exact ho.2
  have n2' : 0 < (gn g2 o : Int) := by omega
  have hr := iI_rng (iI w)
  rw [iI_of (iI w)] at h2
  obtain ⟨w', hw'⟩ : ∃ w', w' = (iI w).toInt := ⟨_, rfl⟩
  rw [← hw'] at h2 hr hq
  have qt := s_thrown' (g := g2) (I := I2) m2
  rw [ht] at qt
  rw [← es] at h2
  refine ⟨some (.int (iI v)), some (.int (iI w')), o8, ?_⟩
  refine (w_291_226 (by first | omega | assumption) (by first | omega | assumption) (by first | omega | assumption) (by first | omega | assumption) (by first | omega | assumption) (by first | omega | assumption) (by first | omega | assumption)).trans ?_
  rw [h1, aft_v]
  refine (w_291_227 (by first | omega | assumption) (by first | omega | assumption) (by first | omega | assumption) (by first | omega | assumption) (by first | omega | assumption) (by first | omega | assumption) (by first | omega | assumption) (by first | omega | assumption)).trans ?_
  rw [h2, aft_v]
  refine (w_291_228 (by first | omega | assumption)).trans ?_
  rw [qt, aft_v]
  refine (w_291_229 (by first | omega | assumption) (by first | omega | assumption) (by first | omega | assumption) (by first | omega | assumption)).trans ?_
  refine (if_pos rfl).trans ?_
  refine (w_291_231 (by first | omega | assumption) (by first | omega | assumption)).trans ?_
  by_cases h0 : v = 0
  · refine (if_neg (not_not_intro h0)).trans ?_
    have hq' := hq h0
    have c0 : cmpI (g2.2.1 o 0) w' = 0 := by rw [hq']; unfold cmpI; rw [if_neg (by omega), if_pos rfl]
    have c1 : -2147483648 ≤ cmpI (g2.2.1 o 0) w' := by omega
    have c2 : cmpI (g2.2.1 o 0) w' < 2147483648 := by omega
    refine (w_291_232 (by first | omega | assumption) (by first | omega | assumption) (by first | omega | assumption) (by first | omega | assumption) (by first | omega | assumption) (by first | omega | assumption) (by first | omega | assumption) (by first | omega | assumption) (by first | omega | assumption) (by first | omega | assumption)).trans ?_
    refine (if_pos c0).trans ?_
    exact w_291_234
  · refine (if_pos h0).trans ?_
    exact w_291_234
theorem lt_setSpan (hs : gt g s = 0 ∨ gt g s = 7) (hi : 0 ≤ i ∧ i + 6 ≤ gn g s ∧ (gn g s : Int) < 2147483648) (hm : g.1 m = sX6 m) (ho : gt g o = 1 ∧ gn g o = 1) (e1 : g1.1 = g.1) (e2 : g2.1 = g.1) (es : I1 s = I s) (h1 : cl 283 [.ref x, .int (iI (I s (i + 1))), .int (iI (I s (i + 2))), .int (iI (I s (i + 3))), .int (iI (I s (i + 4))), .int (iI (I s (i + 5))), .ref o] (mk g I) = some (.inl (some (.int (iI v))), mk g1 I1)) (h2 : cl 256 [.ref m, .int (iI (I s (i + 1))), .int (iI (I s (i + 2))), .int (iI (I s (i + 3))), .int (iI (I s (i + 4))), .int (iI (I s (i + 5)))] (mk g1 I1) = some (.inl (some (.int (iI w))), mk g2 I2)) (hv : 0 ≤ v ∧ v ≤ 3) (ht : I2 m 7 = v) (hq : v = 0 → g2.2.1 o 0 = (iI w).toInt) :
    ∃ p6 p7 p8, rn 291 235 [some (.ref s), some (.ref x), some (.ref m), some (.ref o), some (.ref od), some (.int (iI i)), o6, o7, o8] [] (mk g I) = rn 291 314 [some (.ref s), some (.ref x), some (.ref m), some (.ref o), some (.ref od), some (.int (iI i)), p6, p7, p8] [] (mk g2 I2) := by
  have hs1 : gt g1 s = 0 ∨ gt g1 s = 7 := by rw [gt_e e1]; exact hs
  have hn1 : gn g1 s = gn g s := gn_e e1 s
  have m1 : g1.1 m = sX6 m := by rw [e1]; exact hm
  have m2 : g2.1 m = sX6 m := by rw [e2]; exact hm
  have o2 : gt g2 o = 1 := by rw [gt_e e2]; exact ho.1
  have n2 : gn g2 o = 1 := by rw [gn_e e2]; exact ho.2
  have n2' : 0 < (gn g2 o : Int) := by omega
  have hr := iI_rng (iI w)
  rw [iI_of (iI w)] at h2
  obtain ⟨w', hw'⟩ : ∃ w', w' = (iI w).toInt := ⟨_, rfl⟩
  rw [← hw'] at h2 hr hq
  have qt := s_thrown' (g := g2) (I := I2) m2
  rw [ht] at qt
  rw [← es] at h2
  refine ⟨some (.int (iI v)), some (.int (iI w')), o8, ?_⟩
  refine (w_291_235 (by first | omega | assumption) (by first | omega | assumption) (by first | omega | assumption) (by first | omega | assumption) (by first | omega | assumption) (by first | omega | assumption) (by first | omega | assumption) (by first | omega | assumption) (by first | omega | assumption) (by first | omega | assumption) (by first | omega | assumption) (by first | omega | assumption) (by first | omega | assumption) (by first | omega | assumption) (by first | omega | assumption) (by first | omega | assumption)).trans ?_
  rw [h1, aft_v]
  refine (w_291_236 (by first | omega | assumption) (by first | omega | assumption) (by first | omega | assumption) (by first | omega | assumption) (by first | omega | assumption) (by first | omega | assumption) (by first | omega | assumption) (by first | omega | assumption) (by first | omega | assumption) (by first | omega | assumption) (by first | omega | assumption) (by first | omega | assumption) (by first | omega | assumption) (by first | omega | assumption) (by first | omega | assumption) (by first | omega | assumption) (by first | omega | assumption)).trans ?_
  rw [h2, aft_v]
  refine (w_291_237 (by first | omega | assumption)).trans ?_
  rw [qt, aft_v]
  refine (w_291_238 (by first | omega | assumption) (by first | omega | assumption) (by first | omega | assumption) (by first | omega | assumption)).trans ?_
  refine (if_pos rfl).trans ?_
  refine (w_291_240 (by first | omega | assumption) (by first | omega | assumption)).trans ?_
  by_cases h0 : v = 0
  · refine (if_neg (not_not_intro h0)).trans ?_
    have hq' := hq h0
    have c0 : cmpI (g2.2.1 o 0) w' = 0 := by rw [hq']; unfold cmpI; rw [if_neg (by omega), if_pos rfl]
    have c1 : -2147483648 ≤ cmpI (g2.2.1 o 0) w' := by omega
    have c2 : cmpI (g2.2.1 o 0) w' < 2147483648 := by omega
    refine (w_291_241 (by first | omega | assumption) (by first | omega | assumption) (by first | omega | assumption) (by first | omega | assumption) (by first | omega | assumption) (by first | omega | assumption) (by first | omega | assumption) (by first | omega | assumption) (by first | omega | assumption) (by first | omega | assumption)).trans ?_
    refine (if_pos c0).trans ?_
    exact w_291_243
  · refine (if_pos h0).trans ?_
    exact w_291_243
theorem lt_transpose (hs : gt g s = 0 ∨ gt g s = 7) (hi : 0 ≤ i ∧ i + 6 ≤ gn g s ∧ (gn g s : Int) < 2147483648) (hm : g.1 m = sX6 m) (ho : gt g o = 1 ∧ gn g o = 1) (e1 : g1.1 = g.1) (e2 : g2.1 = g.1) (es : I1 s = I s) (h1 : cl 284 [.ref x, .int (iI (I s (i + 1))), .ref o] (mk g I) = some (.inl (some (.int (iI v))), mk g1 I1)) (h2 : cl 258 [.ref m, .int (iI (I s (i + 1)))] (mk g1 I1) = some (.inl (some (.int (iI w))), mk g2 I2)) (hv : 0 ≤ v ∧ v ≤ 3) (ht : I2 m 7 = v) (hq : v = 0 → g2.2.1 o 0 = (iI w).toInt) :
    ∃ p6 p7 p8, rn 291 254 [some (.ref s), some (.ref x), some (.ref m), some (.ref o), some (.ref od), some (.int (iI i)), o6, o7, o8] [] (mk g I) = rn 291 314 [some (.ref s), some (.ref x), some (.ref m), some (.ref o), some (.ref od), some (.int (iI i)), p6, p7, p8] [] (mk g2 I2) := by
  have hs1 : gt g1 s = 0 ∨ gt g1 s = 7 := by rw [gt_e e1]; exact hs
  have hn1 : gn g1 s = gn g s := gn_e e1 s
  have m1 : g1.1 m = sX6 m := by rw [e1]; exact hm
  have m2 : g2.1 m = sX6 m := by rw [e2]; exact hm
  have o2 : gt g2 o = 1 := by rw [gt_e e2]; exact ho.1
  have n2 : gn g2 o = 1 := by rw [gn_e e2]; exact ho.2
  have n2' : 0 < (gn g2 o : Int) := by omega
  have hr := iI_rng (iI w)
  rw [iI_of (iI w)] at h2
  obtain ⟨w', hw'⟩ : ∃ w', w' = (iI w).toInt := ⟨_, rfl⟩
  rw [← hw'] at h2 hr hq
  have qt := s_thrown' (g := g2) (I := I2) m2
  rw [ht] at qt
  rw [← es] at h2
  refine ⟨some (.int (iI v)), some (.int (iI w')), o8, ?_⟩
  refine (w_291_254 (by first | omega | assumption) (by first | omega | assumption) (by first | omega | assumption) (by first | omega | assumption)).trans ?_
  rw [h1, aft_v]
  refine (w_291_255 (by first | omega | assumption) (by first | omega | assumption) (by first | omega | assumption) (by first | omega | assumption) (by first | omega | assumption)).trans ?_
  rw [h2, aft_v]
  refine (w_291_256 (by first | omega | assumption)).trans ?_
  rw [qt, aft_v]
  refine (w_291_257 (by first | omega | assumption) (by first | omega | assumption) (by first | omega | assumption) (by first | omega | assumption)).trans ?_
  refine (if_pos rfl).trans ?_
  refine (w_291_259 (by first | omega | assumption) (by first | omega | assumption)).trans ?_
  by_cases h0 : v = 0
  · refine (if_neg (not_not_intro h0)).trans ?_
    have hq' := hq h0
    have c0 : cmpI (g2.2.1 o 0) w' = 0 := by rw [hq']; unfold cmpI; rw [if_neg (by omega), if_pos rfl]
    have c1 : -2147483648 ≤ cmpI (g2.2.1 o 0) w' := by omega
    have c2 : cmpI (g2.2.1 o 0) w' < 2147483648 := by omega
    refine (w_291_260 (by first | omega | assumption) (by first | omega | assumption) (by first | omega | assumption) (by first | omega | assumption) (by first | omega | assumption) (by first | omega | assumption) (by first | omega | assumption) (by first | omega | assumption) (by first | omega | assumption) (by first | omega | assumption)).trans ?_
    refine (if_pos c0).trans ?_
    exact w_291_262
  · refine (if_pos h0).trans ?_
    exact w_291_262
theorem lt_fix (hs : gt g s = 0 ∨ gt g s = 7) (hi : 0 ≤ i ∧ i + 6 ≤ gn g s ∧ (gn g s : Int) < 2147483648) (hm : g.1 m = sX6 m) (ho : gt g o = 1 ∧ gn g o = 1) (e1 : g1.1 = g.1) (e2 : g2.1 = g.1) (es : I1 s = I s) (h1 : cl 285 [.ref x, .ref o] (mk g I) = some (.inl (some (.int (iI v))), mk g1 I1)) (h2 : cl 259 [.ref m] (mk g1 I1) = some (.inl (some (.int (iI w))), mk g2 I2)) (hv : 0 ≤ v ∧ v ≤ 3) (ht : I2 m 7 = v) (hq : v = 0 → g2.2.1 o 0 = (iI w).toInt) :
    ∃ p6 p7 p8, rn 291 263 [some (.ref s), some (.ref x), some (.ref m), some (.ref o), some (.ref od), some (.int (iI i)), o6, o7, o8] [] (mk g I) = rn 291 314 [some (.ref s), some (.ref x), some (.ref m), some (.ref o), some (.ref od), some (.int (iI i)), p6, p7, p8] [] (mk g2 I2) := by
  have hs1 : gt g1 s = 0 ∨ gt g1 s = 7 := by rw [gt_e e1]; exact hs
  have hn1 : gn g1 s = gn g s := gn_e e1 s
  have m1 : g1.1 m = sX6 m := by rw [e1]; exact hm
  have m2 : g2.1 m = sX6 m := by rw [e2]; exact hm
  have o2 : gt g2 o = 1 := by rw [gt_e e2]; exact ho.1
  have n2 : gn g2 o = 1 := by rw [gn_e e2]; exact ho.2
  have n2' : 0 < (gn g2 o : Int) := by omega
  have hr := iI_rng (iI w)
  rw [iI_of (iI w)] at h2
  obtain ⟨w', hw'⟩ : ∃ w', w' = (iI w).toInt := ⟨_, rfl⟩
  rw [← hw'] at h2 hr hq
  have qt := s_thrown' (g := g2) (I := I2) m2
  rw [ht] at qt
  refine ⟨some (.int (iI v)), some (.int (iI w')), o8, ?_⟩
  refine (w_291_263).trans ?_
  rw [h1, aft_v]
  refine (w_291_264 (by first | omega | assumption)).trans ?_
  rw [h2, aft_v]
  refine (w_291_265 (by first | omega | assumption)).trans ?_
  rw [qt, aft_v]
  refine (w_291_266 (by first | omega | assumption) (by first | omega | assumption) (by first | omega | assumption) (by first | omega | assumption)).trans ?_
  refine (if_pos rfl).trans ?_
  refine (w_291_268 (by first | omega | assumption) (by first | omega | assumption)).trans ?_
  by_cases h0 : v = 0
  · refine (if_neg (not_not_intro h0)).trans ?_
    have hq' := hq h0
    have c0 : cmpI (g2.2.1 o 0) w' = 0 := by rw [hq']; unfold cmpI; rw [if_neg (by omega), if_pos rfl]
    have c1 : -2147483648 ≤ cmpI (g2.2.1 o 0) w' := by omega
    have c2 : cmpI (g2.2.1 o 0) w' < 2147483648 := by omega
    refine (w_291_269 (by first | omega | assumption) (by first | omega | assumption) (by first | omega | assumption) (by first | omega | assumption) (by first | omega | assumption) (by first | omega | assumption) (by first | omega | assumption) (by first | omega | assumption) (by first | omega | assumption) (by first | omega | assumption)).trans ?_
    refine (if_pos c0).trans ?_
    exact w_291_271
  · refine (if_pos h0).trans ?_
    exact w_291_271
theorem lt_undo (hs : gt g s = 0 ∨ gt g s = 7) (hi : 0 ≤ i ∧ i + 6 ≤ gn g s ∧ (gn g s : Int) < 2147483648) (hm : g.1 m = sX6 m) (ho : gt g o = 1 ∧ gn g o = 1) (e1 : g1.1 = g.1) (e2 : g2.1 = g.1) (es : I1 s = I s) (h1 : cl 286 [.ref x, .ref o] (mk g I) = some (.inl (some (.int (iI v))), mk g1 I1)) (h2 : cl 160 [.ref m] (mk g1 I1) = some (.inl (some (.int (iI w))), mk g2 I2)) (hv : 0 ≤ v ∧ v ≤ 3) (ht : I2 m 7 = v) (hq : v = 0 → g2.2.1 o 0 = (iI w).toInt) :
    ∃ p6 p7 p8, rn 291 272 [some (.ref s), some (.ref x), some (.ref m), some (.ref o), some (.ref od), some (.int (iI i)), o6, o7, o8] [] (mk g I) = rn 291 314 [some (.ref s), some (.ref x), some (.ref m), some (.ref o), some (.ref od), some (.int (iI i)), p6, p7, p8] [] (mk g2 I2) := by
  have hs1 : gt g1 s = 0 ∨ gt g1 s = 7 := by rw [gt_e e1]; exact hs
  have hn1 : gn g1 s = gn g s := gn_e e1 s
  have m1 : g1.1 m = sX6 m := by rw [e1]; exact hm
  have m2 : g2.1 m = sX6 m := by rw [e2]; exact hm
  have o2 : gt g2 o = 1 := by rw [gt_e e2]; exact ho.1
  have n2 : gn g2 o = 1 := by rw [gn_e e2]; exact ho.2
  have n2' : 0 < (gn g2 o : Int) := by omega
  have hr := iI_rng (iI w)
  rw [iI_of (iI w)] at h2
  obtain ⟨w', hw'⟩ : ∃ w', w' = (iI w).toInt := ⟨_, rfl⟩
  rw [← hw'] at h2 hr hq
  have qt := s_thrown' (g := g2) (I := I2) m2
  rw [ht] at qt
  refine ⟨some (.int (iI v)), some (.int (iI w')), o8, ?_⟩
  refine (w_291_272).trans ?_
  rw [h1, aft_v]
  refine (w_291_273 (by first | omega | assumption)).trans ?_
  rw [h2, aft_v]
  refine (w_291_274 (by first | omega | assumption)).trans ?_
  rw [qt, aft_v]
  refine (w_291_275 (by first | omega | assumption) (by first | omega | assumption) (by first | omega | assumption) (by first | omega | assumption)).trans ?_
  refine (if_pos rfl).trans ?_
  refine (w_291_277 (by first | omega | assumption) (by first | omega | assumption)).trans ?_
  by_cases h0 : v = 0
  · refine (if_neg (not_not_intro h0)).trans ?_
    have hq' := hq h0
    have c0 : cmpI (g2.2.1 o 0) w' = 0 := by rw [hq']; unfold cmpI; rw [if_neg (by omega), if_pos rfl]
    have c1 : -2147483648 ≤ cmpI (g2.2.1 o 0) w' := by omega
    have c2 : cmpI (g2.2.1 o 0) w' < 2147483648 := by omega
    refine (w_291_278 (by first | omega | assumption) (by first | omega | assumption) (by first | omega | assumption) (by first | omega | assumption) (by first | omega | assumption) (by first | omega | assumption) (by first | omega | assumption) (by first | omega | assumption) (by first | omega | assumption) (by first | omega | assumption)).trans ?_
    refine (if_pos c0).trans ?_
    exact w_291_280
  · refine (if_pos h0).trans ?_
    exact w_291_280
theorem lt_restore (hs : gt g s = 0 ∨ gt g s = 7) (hi : 0 ≤ i ∧ i + 6 ≤ gn g s ∧ (gn g s : Int) < 2147483648) (hm : g.1 m = sX6 m) (ho : gt g o = 1 ∧ gn g o = 1) (e1 : g1.1 = g.1) (e2 : g2.1 = g.1) (es : I1 s = I s) (h1 : cl 288 [.ref x, .int (iI (I s (i + 1))), .ref o] (mk g I) = some (.inl (some (.int (iI v))), mk g1 I1)) (h2 : cl 162 [.ref m, .int (iI (I s (i + 1)))] (mk g1 I1) = some (.inl (some (.int (iI w))), mk g2 I2)) (hv : 0 ≤ v ∧ v ≤ 3) (ht : I2 m 7 = v) (hq : v = 0 → g2.2.1 o 0 = (iI w).toInt) :
    ∃ p6 p7 p8, rn 291 287 [some (.ref s), some (.ref x), some (.ref m), some (.ref o), some (.ref od), some (.int (iI i)), o6, o7, o8] [] (mk g I) = rn 291 314 [some (.ref s), some (.ref x), some (.ref m), some (.ref o), some (.ref od), some (.int (iI i)), p6, p7, p8] [] (mk g2 I2) := by
  have hs1 : gt g1 s = 0 ∨ gt g1 s = 7 := by rw [gt_e e1]; exact hs
  have hn1 : gn g1 s = gn g s := gn_e e1 s
  have m1 : g1.1 m = sX6 m := by rw [e1]; exact hm
  have m2 : g2.1 m = sX6 m := by rw [e2]; exact hm
  have o2 : gt g2 o = 1 := by rw [gt_e e2]; exact ho.1
  have n2 : gn g2 o = 1 := by rw [gn_e e2]; exact ho.2
  have n2' : 0 < (gn g2 o : Int) := by omega
  have hr := iI_rng (iI w)
  rw [iI_of (iI w)] at h2
  obtain ⟨w', hw'⟩ : ∃ w', w' = (iI w).toInt := ⟨_, rfl⟩
  rw [← hw'] at h2 hr hq
  have qt := s_thrown' (g := g2) (I := I2) m2
  rw [ht] at qt
  rw [← es] at h2
  refine ⟨some (.int (iI v)), some (.int (iI w')), o8, ?_⟩
  refine (w_291_287 (by first | omega | assumption) (by first | omega | assumption) (by first | omega | assumption) (by first | omega | assumption)).trans ?_
  rw [h1, aft_v]
  refine (w_291_288 (by first | omega | assumption) (by first | omega | assumption) (by first | omega | assumption) (by first | omega | assumption) (by first | omega | assumption)).trans ?_
  rw [h2, aft_v]
  refine (w_291_289 (by first | omega | assumption)).trans ?_
  rw [qt, aft_v]
  refine (w_291_290 (by first | omega | assumption) (by first | omega | assumption) (by first | omega | assumption) (by first | omega | assumption)).trans ?_
  refine (if_pos rfl).trans ?_
  refine (w_291_292 (by first | omega | assumption) (by first | omega | assumption)).trans ?_
  by_cases h0 : v = 0
  · refine (if_neg (not_not_intro h0)).trans ?_
    have hq' := hq h0
    have c0 : cmpI (g2.2.1 o 0) w' = 0 := by rw [hq']; unfold cmpI; rw [if_neg (by omega), if_pos rfl]
    have c1 : -2147483648 ≤ cmpI (g2.2.1 o 0) w' := by omega
    have c2 : cmpI (g2.2.1 o 0) w' < 2147483648 := by omega
    refine (w_291_293 (by first | omega | assumption) (by first | omega | assumption) (by first | omega | assumption) (by first | omega | assumption) (by first | omega | assumption) (by first | omega | assumption) (by first | omega | assumption) (by first | omega | assumption) (by first | omega | assumption) (by first | omega | assumption)).trans ?_
    refine (if_pos c0).trans ?_
    exact w_291_295
  · refine (if_pos h0).trans ?_
    exact w_291_295
theorem lt_writeFingers (hs : gt g s = 0 ∨ gt g s = 7) (hi : 0 ≤ i ∧ i + 6 ≤ gn g s ∧ (gn g s : Int) < 2147483648) (hm : g.1 m = sX6 m) (ho : gt g o = 1 ∧ gn g o = 1) (e1 : g1.1 = g.1) (e2 : g2.1 = g.1) (es : I1 s = I s) (h1 : cl 289 [.ref x, .ref o] (mk g I) = some (.inl (some (.int (iI v))), mk g1 I1)) (h2 : cl 261 [.ref m] (mk g1 I1) = some (.inl (some (.int (iI w))), mk g2 I2)) (hv : 0 ≤ v ∧ v ≤ 3) (ht : I2 m 7 = v) (hq : v = 0 → g2.2.1 o 0 = (iI w).toInt) :
    ∃ p6 p7 p8, rn 291 296 [some (.ref s), some (.ref x), some (.ref m), some (.ref o), some (.ref od), some (.int (iI i)), o6, o7, o8] [] (mk g I) = rn 291 314 [some (.ref s), some (.ref x), some (.ref m), some (.ref o), some (.ref od), some (.int (iI i)), p6, p7, p8] [] (mk g2 I2) := by
  have hs1 : gt g1 s = 0 ∨ gt g1 s = 7 := by rw [gt_e e1]; exact hs
  have hn1 : gn g1 s = gn g s := gn_e e1 s
  have m1 : g1.1 m = sX6 m := by rw [e1]; exact hm
  have m2 : g2.1 m = sX6 m := by rw [e2]; exact hm
  have o2 : gt g2 o = 1 := by rw [gt_e e2]; exact ho.1
  have n2 : gn g2 o = 1 := by rw [gn_e e2]; exact ho.2
  have n2' : 0 < (gn g2 o : Int) := by omega
  have hr := iI_rng (iI w)
  rw [iI_of (iI w)] at h2
  obtain ⟨w', hw'⟩ : ∃ w', w' = (iI w).toInt := ⟨_, rfl⟩
  rw [← hw'] at h2 hr hq
  have qt := s_thrown' (g := g2) (I := I2) m2
  rw [ht] at qt
  refine ⟨some (.int (iI v)), some (.int (iI w')), o8, ?_⟩
  refine (w_291_296).trans ?_
  rw [h1, aft_v]
  refine (w_291_297 (by first | omega | assumption)).trans ?_
  rw [h2, aft_v]
  refine (w_291_298 (by first | omega | assumption)).trans ?_
  rw [qt, aft_v]
  refine (w_291_299 (by first | omega | assumption) (by first | omega | assumption) (by first | omega | assumption) (by first | omega | assumption)).trans ?_
  refine (if_pos rfl).trans ?_
  refine (w_291_301 (by first | omega | assumption) (by first | omega | assumption)).trans ?_
  by_cases h0 : v = 0
  · refine (if_neg (not_not_intro h0)).trans ?_
    have hq' := hq h0
    have c0 : cmpI (g2.2.1 o 0) w' = 0 := by rw [hq']; unfold cmpI; rw [if_neg (by omega), if_pos rfl]
    have c1 : -2147483648 ≤ cmpI (g2.2.1 o 0) w' := by omega
    have c2 : cmpI (g2.2.1 o 0) w' < 2147483648 := by omega
    refine (w_291_302 (by first | omega | assumption) (by first | omega | assumption) (by first | omega | assumption) (by first | omega | assumption) (by first | omega | assumption) (by first | omega | assumption) (by first | omega | assumption) (by first | omega | assumption) (by first | omega | assumption) (by first | omega | assumption)).trans ?_
    refine (if_pos c0).trans ?_
    exact w_291_304
  · refine (if_pos h0).trans ?_
    exact w_291_304
theorem lt_writtenByte (hs : gt g s = 0 ∨ gt g s = 7) (hi : 0 ≤ i ∧ i + 6 ≤ gn g s ∧ (gn g s : Int) < 2147483648) (hm : g.1 m = sX6 m) (ho : gt g o = 1 ∧ gn g o = 1) (e1 : g1.1 = g.1) (e2 : g2.1 = g.1) (es : I1 s = I s) (h1 : cl 290 [.ref x, .int (iI (I s (i + 1))), .ref o] (mk g I) = some (.inl (some (.int (iI v))), mk g1 I1)) (h2 : cl 262 [.ref m, .int (iI (I s (i + 1)))] (mk g1 I1) = some (.inl (some (.int (iI w))), mk g2 I2)) (hv : 0 ≤ v ∧ v ≤ 3) (ht : I2 m 7 = v) (hq : v = 0 → g2.2.1 o 0 = (iI w).toInt) :
    ∃ p6 p7 p8, rn 291 305 [some (.ref s), some (.ref x), some (.ref m), some (.ref o), some (.ref od), some (.int (iI i)), o6, o7, o8] [] (mk g I) = rn 291 314 [some (.ref s), some (.ref x), some (.ref m), some (.ref o), some (.ref od), some (.int (iI i)), p6, p7, p8] [] (mk g2 I2) := by
  have hs1 : gt g1 s = 0 ∨ gt g1 s = 7 := by rw [gt_e e1]; exact hs
  have hn1 : gn g1 s = gn g s := gn_e e1 s
  have m1 : g1.1 m = sX6 m := by rw [e1]; exact hm
  have m2 : g2.1 m = sX6 m := by rw [e2]; exact hm
  have o2 : gt g2 o = 1 := by rw [gt_e e2]; exact ho.1
  have n2 : gn g2 o = 1 := by rw [gn_e e2]; exact ho.2
  have n2' : 0 < (gn g2 o : Int) := by omega
  have hr := iI_rng (iI w)
  rw [iI_of (iI w)] at h2
  obtain ⟨w', hw'⟩ : ∃ w', w' = (iI w).toInt := ⟨_, rfl⟩
  rw [← hw'] at h2 hr hq
  have qt := s_thrown' (g := g2) (I := I2) m2
  rw [ht] at qt
  rw [← es] at h2
  refine ⟨some (.int (iI v)), some (.int (iI w')), o8, ?_⟩
  refine (w_291_305 (by first | omega | assumption) (by first | omega | assumption) (by first | omega | assumption) (by first | omega | assumption)).trans ?_
  rw [h1, aft_v]
  refine (w_291_306 (by first | omega | assumption) (by first | omega | assumption) (by first | omega | assumption) (by first | omega | assumption) (by first | omega | assumption)).trans ?_
  rw [h2, aft_v]
  refine (w_291_307 (by first | omega | assumption)).trans ?_
  rw [qt, aft_v]
  refine (w_291_308 (by first | omega | assumption) (by first | omega | assumption) (by first | omega | assumption) (by first | omega | assumption)).trans ?_
  refine (if_pos rfl).trans ?_
  refine (w_291_310 (by first | omega | assumption) (by first | omega | assumption)).trans ?_
  by_cases h0 : v = 0
  · refine (if_neg (not_not_intro h0)).trans ?_
    have hq' := hq h0
    have c0 : cmpI (g2.2.1 o 0) w' = 0 := by rw [hq']; unfold cmpI; rw [if_neg (by omega), if_pos rfl]
    have c1 : -2147483648 ≤ cmpI (g2.2.1 o 0) w' := by omega
    have c2 : cmpI (g2.2.1 o 0) w' < 2147483648 := by omega
    refine (w_291_311 (by first | omega | assumption) (by first | omega | assumption) (by first | omega | assumption) (by first | omega | assumption) (by first | omega | assumption) (by first | omega | assumption) (by first | omega | assumption) (by first | omega | assumption) (by first | omega | assumption) (by first | omega | assumption)).trans ?_
    refine (if_pos c0).trans ?_
    exact w_291_313
  · refine (if_pos h0).trans ?_
    exact w_291_313
end LT
