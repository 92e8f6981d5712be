/-! The reference loads a piece, altogether. -/
section LW
variable {g : Gm} {I J : Mm} {m : Nat} {B : Int → Int} {n b : Int} {P : PT}
theorem l_mW (hm : isM g m) (hO : txB B n) (h7 : I (m + 7) = B) (h9 : I m 9 = n) (hs : ∀ p, 3 ≤ p → p ≤ 20 → isTs g I p) (hx : 64 ≤ m) (hQ : Wf P ∧ pE P = 0) (h : pstM B n m P b I J) :
    (∃ e K, gLo B n 6 (gWt B n) P b = .inl e ∧ rn 180 17 [some (.ref m)] [] (mk g J) = rn 180 21 [some (.ref m)] [] (mk g K) ∧ perM m e I K) ∨ ∃ P' c K, gLo B n 6 (gWt B n) P b = .inr (P', c) ∧ (Wf P' ∧ pE P' = 0) ∧ rn 180 17 [some (.ref m)] [] (mk g J) = rn 180 21 [some (.ref m)] [] (mk g K) ∧ pstM B n m P' c I K := by
  have hm' := hm
  have t_0 := hm.1
  have o1 : ¬ (1 : Int) = 0 := by decide
  have hts : ∀ K, (∀ p, ¬ p = m → ¬ p = m + 1 → K p = I p) → ∀ p, 3 ≤ p → p ≤ 20 → isTs g K p := fun K hK p p0 p1 => isTs_c (hK _ (by omega) (by omega)) (hs p p0 p1)
  have b0 := h.2.2.2.1.2.2.2.2.2.2.1
  have hn := hO.1.2
  refine l_loop (Q := fun P => Wf P ∧ pE P = 0) (H := fun J => rn 180 17 [some (.ref m)] [] (mk g J)) (X := fun J => rn 180 21 [some (.ref m)] [] (mk g J)) hO (fun P b J hQ h hw => ?_) (fun P b J h hw => ?_) (fun e J h => ?_) 601 P b J hQ h (by omega)
  · have w := s_misWord hm' hO h.2.2.2.1 h.2.2.1 (hts J h.1 6 (by decide) (by decide))
    rw [wdS_y hw] at w
    rcases s_readsWeight hm' hO h7 h9 hs hx h with ⟨e, K, g1, k1, k2⟩ | ⟨P', c, K, g1, k1, k2⟩
    · refine Or.inl ⟨e, K, g1, ?_, k2⟩
      show rn _ _ _ _ _ = rn _ _ _ _ _
      refine (w_180_17 (by first | assumption | omega)).trans ?_
      rw [w, aft_v]
      refine (w_180_18 (by first | assumption | omega) (by first | assumption | omega)).trans ?_
      refine (if_neg o1).trans ?_
      simp (maxSteps := 2000000) (disch := first | assumption | omega) only [aft_v, aft_n, aft_t, Nat.add_assoc, Nat.reduceAdd, if_true, if_false, not_true_eq_false, not_false_eq_true, Classical.not_not, Int.reduceAdd, Int.reduceSub, Int.reduceMul, Int.reduceNeg, Int.reduceLT, Int.reduceLE, Int.reduceEq, Int.add_zero, Int.zero_add, Int.sub_zero, w_180_19, w_180_20, k1]
    · refine Or.inr ⟨P', c, K, g1, gWt_lt hw h.2.2.2.1.2.2.2.2.2.2.2 g1, gWt_ok hQ g1, ?_, k2⟩
      show rn _ _ _ _ _ = rn _ _ _ _ _
      refine (w_180_17 (by first | assumption | omega)).trans ?_
      rw [w, aft_v]
      refine (w_180_18 (by first | assumption | omega) (by first | assumption | omega)).trans ?_
      refine (if_neg o1).trans ?_
      simp (maxSteps := 2000000) (disch := first | assumption | omega) only [aft_v, aft_n, aft_t, Nat.add_assoc, Nat.reduceAdd, if_true, if_false, not_true_eq_false, not_false_eq_true, Classical.not_not, Int.reduceAdd, Int.reduceSub, Int.reduceMul, Int.reduceNeg, Int.reduceLT, Int.reduceLE, Int.reduceEq, Int.add_zero, Int.zero_add, Int.sub_zero, w_180_19, w_180_20, k1]
  · have w := s_misWord hm' hO h.2.2.2.1 h.2.2.1 (hts J h.1 6 (by decide) (by decide))
    rw [wdS_n hw] at w
    show rn _ _ _ _ _ = rn _ _ _ _ _
    simp (maxSteps := 2000000) (disch := first | assumption | omega) only [aft_v, aft_n, aft_t, Nat.add_assoc, Nat.reduceAdd, if_true, if_false, not_true_eq_false, not_false_eq_true, Classical.not_not, Int.reduceAdd, Int.reduceSub, Int.reduceMul, Int.reduceNeg, Int.reduceLT, Int.reduceLE, Int.reduceEq, Int.add_zero, Int.zero_add, Int.sub_zero, w_180_17, w_180_18, w]
  · have w := s_misWordW (g := g) (p := 6) hm' h.2.2.1 h.ne
    show rn _ _ _ _ _ = rn _ _ _ _ _
    simp (maxSteps := 2000000) (disch := first | assumption | omega) only [aft_v, aft_n, aft_t, Nat.add_assoc, Nat.reduceAdd, if_true, if_false, not_true_eq_false, not_false_eq_true, Classical.not_not, Int.reduceAdd, Int.reduceSub, Int.reduceMul, Int.reduceNeg, Int.reduceLT, Int.reduceLE, Int.reduceEq, Int.add_zero, Int.zero_add, Int.sub_zero, w_180_17, w_180_18, w]
theorem l_mS (hm : isM g m) (hO : txB B n) (h7 : I (m + 7) = B) (h9 : I m 9 = n) (hs : ∀ p, 3 ≤ p → p ≤ 20 → isTs g I p) (hx : 64 ≤ m) (hQ : Wf P ∧ pE P = 0) (h : pstM B n m P b I J) :
    (∃ e K, gLo B n 7 (gSp B n) P b = .inl e ∧ rn 180 21 [some (.ref m)] [] (mk g J) = rn 180 25 [some (.ref m)] [] (mk g K) ∧ perM m e I K) ∨ ∃ P' c K, gLo B n 7 (gSp B n) P b = .inr (P', c) ∧ (Wf P' ∧ pE P' = 0) ∧ rn 180 21 [some (.ref m)] [] (mk g J) = rn 180 25 [some (.ref m)] [] (mk g K) ∧ pstM B n m P' c I K := by
  have hm' := hm
  have t_0 := hm.1
  have o1 : ¬ (1 : Int) = 0 := by decide
  have hts : ∀ K, (∀ p, ¬ p = m → ¬ p = m + 1 → K p = I p) → ∀ p, 3 ≤ p → p ≤ 20 → isTs g K p := fun K hK p p0 p1 => isTs_c (hK _ (by omega) (by omega)) (hs p p0 p1)
  have b0 := h.2.2.2.1.2.2.2.2.2.2.1
  have hn := hO.1.2
  refine l_loop (Q := fun P => Wf P ∧ pE P = 0) (H := fun J => rn 180 21 [some (.ref m)] [] (mk g J)) (X := fun J => rn 180 25 [some (.ref m)] [] (mk g J)) hO (fun P b J hQ h hw => ?_) (fun P b J h hw => ?_) (fun e J h => ?_) 601 P b J hQ h (by omega)
  · have w := s_misWord hm' hO h.2.2.2.1 h.2.2.1 (hts J h.1 7 (by decide) (by decide))
    rw [wdS_y hw] at w
    rcases s_readsSpan hm' hO h7 h9 h with ⟨e, K, g1, k1, k2⟩ | ⟨P', c, K, g1, k1, k2⟩
    · refine Or.inl ⟨e, K, g1, ?_, k2⟩
      show rn _ _ _ _ _ = rn _ _ _ _ _
      refine (w_180_21 (by first | assumption | omega)).trans ?_
      rw [w, aft_v]
      refine (w_180_22 (by first | assumption | omega) (by first | assumption | omega)).trans ?_
      refine (if_neg o1).trans ?_
      simp (maxSteps := 2000000) (disch := first | assumption | omega) only [aft_v, aft_n, aft_t, Nat.add_assoc, Nat.reduceAdd, if_true, if_false, not_true_eq_false, not_false_eq_true, Classical.not_not, Int.reduceAdd, Int.reduceSub, Int.reduceMul, Int.reduceNeg, Int.reduceLT, Int.reduceLE, Int.reduceEq, Int.add_zero, Int.zero_add, Int.sub_zero, w_180_23, w_180_24, k1]
    · refine Or.inr ⟨P', c, K, g1, gSp_lt hw h.2.2.2.1.2.2.2.2.2.2.2 g1, gSp_ok hQ g1, ?_, k2⟩
      show rn _ _ _ _ _ = rn _ _ _ _ _
      refine (w_180_21 (by first | assumption | omega)).trans ?_
      rw [w, aft_v]
      refine (w_180_22 (by first | assumption | omega) (by first | assumption | omega)).trans ?_
      refine (if_neg o1).trans ?_
      simp (maxSteps := 2000000) (disch := first | assumption | omega) only [aft_v, aft_n, aft_t, Nat.add_assoc, Nat.reduceAdd, if_true, if_false, not_true_eq_false, not_false_eq_true, Classical.not_not, Int.reduceAdd, Int.reduceSub, Int.reduceMul, Int.reduceNeg, Int.reduceLT, Int.reduceLE, Int.reduceEq, Int.add_zero, Int.zero_add, Int.sub_zero, w_180_23, w_180_24, k1]
  · have w := s_misWord hm' hO h.2.2.2.1 h.2.2.1 (hts J h.1 7 (by decide) (by decide))
    rw [wdS_n hw] at w
    show rn _ _ _ _ _ = rn _ _ _ _ _
    simp (maxSteps := 2000000) (disch := first | assumption | omega) only [aft_v, aft_n, aft_t, Nat.add_assoc, Nat.reduceAdd, if_true, if_false, not_true_eq_false, not_false_eq_true, Classical.not_not, Int.reduceAdd, Int.reduceSub, Int.reduceMul, Int.reduceNeg, Int.reduceLT, Int.reduceLE, Int.reduceEq, Int.add_zero, Int.zero_add, Int.sub_zero, w_180_21, w_180_22, w]
  · have w := s_misWordW (g := g) (p := 7) hm' h.2.2.1 h.ne
    show rn _ _ _ _ _ = rn _ _ _ _ _
    simp (maxSteps := 2000000) (disch := first | assumption | omega) only [aft_v, aft_n, aft_t, Nat.add_assoc, Nat.reduceAdd, if_true, if_false, not_true_eq_false, not_false_eq_true, Classical.not_not, Int.reduceAdd, Int.reduceSub, Int.reduceMul, Int.reduceNeg, Int.reduceLT, Int.reduceLE, Int.reduceEq, Int.add_zero, Int.zero_add, Int.sub_zero, w_180_21, w_180_22, w]
theorem l_mE (hm : isM g m) (hO : txB B n) (h7 : I (m + 7) = B) (h9 : I m 9 = n) (hs : ∀ p, 3 ≤ p → p ≤ 20 → isTs g I p) (hx : 64 ≤ m) (hQ : Wf P) (h : pstM B n m P b I J) :
    (∃ e K, gLo B n 8 (gEv B n) P b = .inl e ∧ rn 180 25 [some (.ref m)] [] (mk g J) = rn 180 29 [some (.ref m)] [] (mk g K) ∧ perM m e I K) ∨ ∃ P' c K, gLo B n 8 (gEv B n) P b = .inr (P', c) ∧ Wf P' ∧ rn 180 25 [some (.ref m)] [] (mk g J) = rn 180 29 [some (.ref m)] [] (mk g K) ∧ pstM B n m P' c I K := by
  have hm' := hm
  have t_0 := hm.1
  have o1 : ¬ (1 : Int) = 0 := by decide
  have hts : ∀ K, (∀ p, ¬ p = m → ¬ p = m + 1 → K p = I p) → ∀ p, 3 ≤ p → p ≤ 20 → isTs g K p := fun K hK p p0 p1 => isTs_c (hK _ (by omega) (by omega)) (hs p p0 p1)
  have b0 := h.2.2.2.1.2.2.2.2.2.2.1
  have hn := hO.1.2
  refine l_loop (Q := fun P => Wf P) (H := fun J => rn 180 25 [some (.ref m)] [] (mk g J)) (X := fun J => rn 180 29 [some (.ref m)] [] (mk g J)) hO (fun P b J hQ h hw => ?_) (fun P b J h hw => ?_) (fun e J h => ?_) 601 P b J hQ h (by omega)
  · have w := s_misWord hm' hO h.2.2.2.1 h.2.2.1 (hts J h.1 8 (by decide) (by decide))
    rw [wdS_y hw] at w
    rcases s_readsEvent hm' hO h7 h9 hs hx hQ h with ⟨e, K, g1, k1, k2⟩ | ⟨P', c, K, g1, k1, k2⟩
    · refine Or.inl ⟨e, K, g1, ?_, k2⟩
      show rn _ _ _ _ _ = rn _ _ _ _ _
      refine (w_180_25 (by first | assumption | omega)).trans ?_
      rw [w, aft_v]
      refine (w_180_26 (by first | assumption | omega) (by first | assumption | omega)).trans ?_
      refine (if_neg o1).trans ?_
      simp (maxSteps := 2000000) (disch := first | assumption | omega) only [aft_v, aft_n, aft_t, Nat.add_assoc, Nat.reduceAdd, if_true, if_false, not_true_eq_false, not_false_eq_true, Classical.not_not, Int.reduceAdd, Int.reduceSub, Int.reduceMul, Int.reduceNeg, Int.reduceLT, Int.reduceLE, Int.reduceEq, Int.add_zero, Int.zero_add, Int.sub_zero, w_180_27, w_180_28, k1]
    · refine Or.inr ⟨P', c, K, g1, gEv_lt hw h.2.2.2.1.2.2.2.2.2.2.2 g1, gEv_ok hQ g1, ?_, k2⟩
      show rn _ _ _ _ _ = rn _ _ _ _ _
      refine (w_180_25 (by first | assumption | omega)).trans ?_
      rw [w, aft_v]
      refine (w_180_26 (by first | assumption | omega) (by first | assumption | omega)).trans ?_
      refine (if_neg o1).trans ?_
      simp (maxSteps := 2000000) (disch := first | assumption | omega) only [aft_v, aft_n, aft_t, Nat.add_assoc, Nat.reduceAdd, if_true, if_false, not_true_eq_false, not_false_eq_true, Classical.not_not, Int.reduceAdd, Int.reduceSub, Int.reduceMul, Int.reduceNeg, Int.reduceLT, Int.reduceLE, Int.reduceEq, Int.add_zero, Int.zero_add, Int.sub_zero, w_180_27, w_180_28, k1]
  · have w := s_misWord hm' hO h.2.2.2.1 h.2.2.1 (hts J h.1 8 (by decide) (by decide))
    rw [wdS_n hw] at w
    show rn _ _ _ _ _ = rn _ _ _ _ _
    simp (maxSteps := 2000000) (disch := first | assumption | omega) only [aft_v, aft_n, aft_t, Nat.add_assoc, Nat.reduceAdd, if_true, if_false, not_true_eq_false, not_false_eq_true, Classical.not_not, Int.reduceAdd, Int.reduceSub, Int.reduceMul, Int.reduceNeg, Int.reduceLT, Int.reduceLE, Int.reduceEq, Int.add_zero, Int.zero_add, Int.sub_zero, w_180_25, w_180_26, w]
  · have w := s_misWordW (g := g) (p := 8) hm' h.2.2.1 h.ne
    show rn _ _ _ _ _ = rn _ _ _ _ _
    simp (maxSteps := 2000000) (disch := first | assumption | omega) only [aft_v, aft_n, aft_t, Nat.add_assoc, Nat.reduceAdd, if_true, if_false, not_true_eq_false, not_false_eq_true, Classical.not_not, Int.reduceAdd, Int.reduceSub, Int.reduceMul, Int.reduceNeg, Int.reduceLT, Int.reduceLE, Int.reduceEq, Int.add_zero, Int.zero_add, Int.sub_zero, w_180_25, w_180_26, w]
/-- in the wrong, the loops do nothing -/
theorem l_mW' {e : Int × Int} (hm : isM g m) (h : perM m e I J) : rn 180 17 [some (.ref m)] [] (mk g J) = rn 180 29 [some (.ref m)] [] (mk g J) ∧ rn 180 21 [some (.ref m)] [] (mk g J) = rn 180 29 [some (.ref m)] [] (mk g J) ∧ rn 180 25 [some (.ref m)] [] (mk g J) = rn 180 29 [some (.ref m)] [] (mk g J) ∧ rn 180 29 [some (.ref m)] [] (mk g J) = rn 180 32 [some (.ref m)] [] (mk g J) := by
  have w := fun p => s_misWordW (g := g) (p := p) hm h.2.2.1 h.ne
  have hw := h.2.2.1
  have hn' := h.ne
  have t_0 := hm.1
  refine ⟨?_, ?_, ?_, ?_⟩
  · simp (maxSteps := 2000000) (disch := first | assumption | omega) only [aft_v, aft_n, aft_t, Nat.add_assoc, Nat.reduceAdd, if_true, if_false, not_true_eq_false, not_false_eq_true, Classical.not_not, Int.reduceAdd, Int.reduceSub, Int.reduceMul, Int.reduceNeg, Int.reduceLT, Int.reduceLE, Int.reduceEq, Int.add_zero, Int.zero_add, Int.sub_zero, w_180_17, w_180_18, w_180_21, w_180_22, w_180_25, w_180_26, w]
  · simp (maxSteps := 2000000) (disch := first | assumption | omega) only [aft_v, aft_n, aft_t, Nat.add_assoc, Nat.reduceAdd, if_true, if_false, not_true_eq_false, not_false_eq_true, Classical.not_not, Int.reduceAdd, Int.reduceSub, Int.reduceMul, Int.reduceNeg, Int.reduceLT, Int.reduceLE, Int.reduceEq, Int.add_zero, Int.zero_add, Int.sub_zero, w_180_21, w_180_22, w_180_25, w_180_26, w]
  · simp (maxSteps := 2000000) (disch := first | assumption | omega) only [aft_v, aft_n, aft_t, Nat.add_assoc, Nat.reduceAdd, if_true, if_false, not_true_eq_false, not_false_eq_true, Classical.not_not, Int.reduceAdd, Int.reduceSub, Int.reduceMul, Int.reduceNeg, Int.reduceLT, Int.reduceLE, Int.reduceEq, Int.add_zero, Int.zero_add, Int.sub_zero, w_180_25, w_180_26, w]
  · simp (maxSteps := 2000000) (disch := first | assumption | omega) only [aft_v, aft_n, aft_t, Nat.add_assoc, Nat.reduceAdd, if_true, if_false, not_true_eq_false, not_false_eq_true, Classical.not_not, Int.reduceAdd, Int.reduceSub, Int.reduceMul, Int.reduceNeg, Int.reduceLT, Int.reduceLE, Int.reduceEq, Int.add_zero, Int.zero_add, Int.sub_zero, w_180_29, hw, hn'.1]
theorem l_mAll (hm : isM g m) (hO : txB B n) (h7 : I (m + 7) = B) (h9 : I m 9 = n) (hs : ∀ p, 3 ≤ p → p ≤ 20 → isTs g I p) (hx : 64 ≤ m) (h : pstM B n m bg0 0 I J) :
    (∃ e K, gPc B n bg0 = .inl e ∧ rn 180 3 [some (.ref m)] [] (mk g J) = rn 180 32 [some (.ref m)] [] (mk g K) ∧ perM m e I K) ∨ ∃ P' c K, gPc B n bg0 = .inr (P', c) ∧ rn 180 3 [some (.ref m)] [] (mk g J) = rn 180 32 [some (.ref m)] [] (mk g K) ∧ pstM B n m P' c I K := by
  have hm' := hm
  have t_0 := hm.1
  have w0 := bg0_ok
  have eg : gPc B n bg0 = bnd (gHd B n bg0 0) fun x1 => bnd (gLo B n 6 (gWt B n) x1.1 x1.2) fun x2 => bnd (gLo B n 7 (gSp B n) x2.1 x2.2) fun x3 => bnd (gLo B n 8 (gEv B n) x3.1 x3.2) fun x4 => bnd (gEn B n x4.2) fun b5 => .inr (x4.1, b5) := rfl
  rcases l_mHead hm' hO h7 h9 hs hx h with ⟨e, K, g1, k1, k2⟩ | ⟨P1, b1, K, g1, k1, k2⟩
  · obtain ⟨a1, a2, a3, a4⟩ := l_mW' hm' k2
    exact Or.inl ⟨e, K, by rw [eg, g1]; rfl, by rw [k1, a1, a4], k2⟩
  have w1 := gHd_ok w0 g1
  rw [g1] at eg
  rw [k1]
  rcases l_mW hm' hO h7 h9 hs hx w1 k2 with ⟨e, L, g2, l1, l2⟩ | ⟨P2, b2, L, g2, w2, l1, l2⟩
  · obtain ⟨a1, a2, a3, a4⟩ := l_mW' hm' l2
    exact Or.inl ⟨e, L, by rw [eg]; show bnd (gLo B n 6 (gWt B n) P1 b1) _ = _; rw [g2]; rfl, by rw [l1, a2, a4], l2⟩
  have eg : gPc B n bg0 = bnd (gLo B n 7 (gSp B n) P2 b2) fun x3 => bnd (gLo B n 8 (gEv B n) x3.1 x3.2) fun x4 => bnd (gEn B n x4.2) fun b5 => .inr (x4.1, b5) := by rw [eg]; show bnd (gLo B n 6 (gWt B n) P1 b1) _ = _; rw [g2]; rfl
  rw [l1]
  rcases l_mS hm' hO h7 h9 hs hx w2 l2 with ⟨e, M, g3, m1, m2⟩ | ⟨P3, b3, M, g3, w3, m1, m2⟩
  · obtain ⟨a1, a2, a3, a4⟩ := l_mW' hm' m2
    exact Or.inl ⟨e, M, by rw [eg, g3]; rfl, by rw [m1, a3, a4], m2⟩
  rw [m1]
  rw [g3] at eg
  rcases l_mE hm' hO h7 h9 hs hx w3.1 m2 with ⟨e, N, g4, n1, n2⟩ | ⟨P4, b4, N, g4, w4, n1, n2⟩
  · obtain ⟨a1, a2, a3, a4⟩ := l_mW' hm' n2
    exact Or.inl ⟨e, N, by rw [eg]; show bnd (gLo B n 8 (gEv B n) P3 b3) _ = _; rw [g4]; rfl, by rw [n1, a4], n2⟩
  have eg : gPc B n bg0 = bnd (gEn B n b4) fun b5 => .inr (P4, b5) := by rw [eg]; show bnd (gLo B n 8 (gEv B n) P3 b3) _ = _; rw [g4]; rfl
  rw [n1]
  have hw := n2.2.2.1
  have h12 := n2.2.2.2.1.2.2.1
  have hkb := mkd_b (k := tkK B n b4)
  by_cases hk : tkK B n b4 = 0
  · have k3 := mkd_3.mpr hk
    refine Or.inr ⟨P4, b4, N, by rw [eg]; unfold gEn; rw [if_pos hk]; rfl, ?_, n2⟩
    simp (maxSteps := 2000000) (disch := first | assumption | omega) only [aft_v, aft_n, aft_t, Nat.add_assoc, Nat.reduceAdd, if_true, if_false, not_true_eq_false, not_false_eq_true, Classical.not_not, Int.reduceAdd, Int.reduceSub, Int.reduceMul, Int.reduceNeg, Int.reduceLT, Int.reduceLE, Int.reduceEq, Int.add_zero, Int.zero_add, Int.sub_zero, w_180_29, w_180_30, hw, h12, k3]
  · have k3 : ¬ mkd (tkK B n b4) = 3 := fun z => hk (mkd_3.mp z)
    obtain ⟨R, r1, r2⟩ := s_fails (B := B) (n := n) (b := b4) (c := -2) hm' hO (by decide) hw n2.2.2.2.1
    refine Or.inl ⟨_, R, by rw [eg]; unfold gEn; rw [if_neg hk]; rfl, ?_, n2.er r2⟩
    simp (maxSteps := 2000000) (disch := first | assumption | omega) only [aft_v, aft_n, aft_t, Nat.add_assoc, Nat.reduceAdd, if_true, if_false, not_true_eq_false, not_false_eq_true, Classical.not_not, Int.reduceAdd, Int.reduceSub, Int.reduceMul, Int.reduceNeg, Int.reduceLT, Int.reduceLE, Int.reduceEq, Int.add_zero, Int.zero_add, Int.sub_zero, w_180_29, w_180_30, w_180_31, hw, h12, k3, r1]
theorem s_mload (hm : isM g m) (hO : txB B n) (h7 : I (m + 7) = B) (h9 : I m 9 = n) (hs : ∀ p, 3 ≤ p → p ≤ 20 → isTs g I p) (hx : 64 ≤ m) (h6 : 0 ≤ I m 6 ∧ I m 6 ≤ 8) :
    (∃ e J, gPc B n bg0 = .inl e ∧ cl 180 [.ref m] (mk g I) = some (.inl (some (.int (iI e.1))), mk g J) ∧ (∀ p, ¬ p = m → ¬ p = m + 1 → ¬ p = m + 2 → J p = I p) ∧ (∀ i, 0 ≤ i → i < 362 → J (m + 1) i = I (m + 1) i) ∧ J m 7 = 0 ∧ J m 9 = 0 ∧ J m 16 = e.2 ∧ (∀ i, ¬ i = 7 → ¬ i = 9 → ¬ i = 10 → ¬ i = 11 → ¬ i = 12 → ¬ i = 13 → ¬ i = 14 → ¬ i = 15 → ¬ i = 16 → J m i = I m i)) ∨
    ∃ P c J K, gPc B n bg0 = .inr (P, c) ∧ cl 180 [.ref m] (mk g I) = some (.inl (some (.int (iI (pE P)))), mk g K) ∧ (∀ p, ¬ p = m → ¬ p = m + 1 → ¬ p = m + 2 → J p = I p) ∧ (∀ i, 0 ≤ i → i < 362 → J (m + 2) i = I (m + 1) i) ∧ Agr (mv J m) P ∧ J m 7 = 0 ∧ J m 9 = 0 ∧ J m 16 = -1 ∧ (∀ i, ¬ i = 7 → ¬ i = 9 → ¬ i = 10 → ¬ i = 11 → ¬ i = 12 → ¬ i = 13 → ¬ i = 14 → ¬ i = 15 → ¬ i = 16 → J m i = I m i) ∧ kpM m (m + 2) J K := by
  have hm' := hm
  obtain ⟨t_0, ⟨t_1, d_1, n_1⟩, ⟨t_2, d_2, n_2⟩, ⟨t_3, d_3, n_3⟩, ⟨t_4, d_4, n_4⟩, ⟨t_5, d_5, n_5⟩, ⟨t_6, n_6⟩, ⟨t_7, d_7, n_7⟩, ⟨t_8, d_8, n_8⟩, ⟨t_9, d_9, n_9⟩, ⟨t_10, d_10, n_10⟩, ⟨t_11, d_11, n_11⟩, ⟨t_12, d_12, n_12⟩, ⟨t_13, d_13, n_13⟩, ⟨t_14, d_14, n_14⟩, ⟨t_15, n_15⟩, ⟨t_16, n_16⟩, ⟨t_17, d_17, n_17⟩, ⟨t_18, d_18, n_18⟩⟩ := hm
  have c1 := s_copies (g := g) (I := I) (to := m + 2) (fr := m + 1) (ta := 0) (fa := 0) t_2 t_1 (by omega) (by omega) (by omega) (by omega) (by omega)
  obtain ⟨I1, hI1⟩ : ∃ I1, I1 = cpM I (m + 2) 0 (m + 1) 0 362 := ⟨_, rfl⟩
  rw [← hI1] at c1
  have i1 : ∀ p, ¬ p = m + 2 → I1 p = I p := fun p hp => by rw [hI1]; funext i; exact if_neg (fun z => hp z.1)
  have i12 : ∀ i, 0 ≤ i → i < 362 → I1 (m + 2) i = I (m + 1) i := fun i i0 i1 => by
    rw [hI1]
    refine (if_pos ⟨rfl, i0, by omega⟩).trans ?_
    rw [show 0 + (i - 0) = i by omega]
  have c2 := s_begins (g := g) (I := I1) hm'
  obtain ⟨I2, hI2⟩ : ∃ I2, I2 = bgW I1 m := ⟨_, rfl⟩
  have i2 : ∀ p, ¬ p = m → ¬ p = m + 1 → I2 p = I1 p := fun p a c => by rw [hI2]; exact bgW_p a c
  have i2m : ∀ i, ¬ i = 10 → I2 m i = I m i := fun i hi => by rw [hI2, bgW_i hi, i1 m (by omega)]
  have a2 : Agr (mv I2 m) bg0 := by rw [hI2]; exact bg_A bgW_bg bg0_bg
  rw [← hI2] at c2
  have f7 : I2 (m + 7) = B := by rw [i2 _ (by omega) (by omega), i1 _ (by omega), h7]
  have f9 : I2 m 9 = n := by rw [i2m 9 (by decide)]; exact h9
  obtain ⟨I3, c3, d1, d2, d3, d4, d5⟩ := s_starts (g := g) (I := I2) hm' hO f7 f9
  have a3 : Agr (mv I3 m) bg0 := by
    have e : mv I3 m = mv I2 m := by unfold mv; rw [d1 (m + 1) (by omega)]
    rw [e]; exact a2
  have h3 : pstM B n m bg0 0 I3 I3 := ⟨fun _ _ _ => rfl, fun _ _ _ _ _ => rfl, d4, d5, a3⟩
  have fs : ∀ p, ¬ p = m → ¬ p = m + 1 → ¬ p = m + 2 → I3 p = I p := fun p a c d => by rw [d1 p a, i2 p a c, i1 p d]
  have f2 : ∀ i, 0 ≤ i → i < 362 → I3 (m + 2) i = I (m + 1) i := fun i i0 i1 => by rw [d1 _ (by omega), i2 _ (by omega) (by omega)]; exact i12 i i0 i1
  have fm : ∀ i, ¬ i = 7 → ¬ i = 10 → ¬ i = 11 → ¬ i = 12 → ¬ i = 13 → ¬ i = 14 → I3 m i = I m i := fun i a b c d e f => by rw [d2 i a b c d e f, i2m i b]
  have f7' : I3 (m + 7) = B := by rw [d1 _ (by omega), f7]
  have f9' : I3 m 9 = n := by rw [fm 9 (by decide) (by decide) (by decide) (by decide) (by decide) (by decide)]; exact h9
  have hs3 : ∀ p, 3 ≤ p → p ≤ 20 → isTs g I3 p := fun p p0 p1 => isTs_c (fs _ (by omega) (by omega) (by omega)) (hs p p0 p1)
  have start : cl 180 [.ref m] (mk g I) = rn 180 3 [some (.ref m)] [] (mk g I3) := by
    simp (maxSteps := 2000000) (disch := first | assumption | omega) only [aft_v, aft_n, aft_t, Nat.add_assoc, Nat.reduceAdd, if_true, if_false, not_true_eq_false, not_false_eq_true, Classical.not_not, Int.reduceAdd, Int.reduceSub, Int.reduceMul, Int.reduceNeg, Int.reduceLT, Int.reduceLE, Int.reduceEq, Int.add_zero, Int.zero_add, Int.sub_zero, c_180, w_180_0, w_180_1, w_180_2, c1, c2, c3]
  rcases l_mAll hm' hO f7' f9' hs3 hx h3 with ⟨e, K, g1, k1, k2⟩ | ⟨P, c, K, g1, k1, k2⟩
  · have hw := k2.2.2.1
    have hn' := k2.ne
    have en := s_endsW (g := g) (I := K) hm' hw hn'
    rw [k2.2.2.2.1] at en
    obtain ⟨L, hL⟩ : ∃ L, L = upd2 (upd2 K m 16 e.2) m 9 0 := ⟨_, rfl⟩
    rw [← hL] at en
    have l14 : L m 14 = e.1 := by rw [hL, upd2_i (by decide), upd2_i (by decide)]; exact hw
    have lp : ∀ p, ¬ p = m → L p = K p := fun p hp => by rw [hL]; funext i; rw [upd2_p hp, upd2_p hp]
    have c4 := s_copies (g := g) (I := L) (to := m + 1) (fr := m + 2) (ta := 0) (fa := 0) t_1 t_2 (by omega) (by omega) (by omega) (by omega) (by omega)
    obtain ⟨M, hM⟩ : ∃ M, M = cpM L (m + 1) 0 (m + 2) 0 362 := ⟨_, rfl⟩
    rw [← hM] at c4
    have mp : ∀ p, ¬ p = m + 1 → M p = L p := fun p hp => by rw [hM]; funext i; exact if_neg (fun z => hp z.1)
    have m14 : M m 14 = e.1 := by rw [mp m (by omega)]; exact l14
    refine Or.inl ⟨e, M, g1, ?_, fun p a c d => by rw [mp p c, lp p a, k2.1 p a c, fs p a c d], fun i i0 i1 => ?_, ?_, ?_, ?_, fun i j1 j2 j3 j4 j5 j6 j7 j8 j9 => ?_⟩
    · rw [start, k1]
      simp (maxSteps := 2000000) (disch := first | assumption | omega) only [aft_v, aft_n, aft_t, Nat.add_assoc, Nat.reduceAdd, if_true, if_false, not_true_eq_false, not_false_eq_true, Classical.not_not, Int.reduceAdd, Int.reduceSub, Int.reduceMul, Int.reduceNeg, Int.reduceLT, Int.reduceLE, Int.reduceEq, Int.add_zero, Int.zero_add, Int.sub_zero, w_180_32, w_180_33, w_180_34, w_180_35, w_180_36, en, l14, hn'.1, c4, m14]
    · rw [hM]
      refine (if_pos ⟨rfl, i0, by omega⟩).trans ?_
      rw [show 0 + (i - 0) = i by omega, lp _ (by omega), k2.1 _ (by omega) (by omega)]
      exact f2 i i0 i1
    · rw [mp m (by omega), hL, upd2_i (by decide), upd2_i (by decide), k2.2.1 7 (by decide) (by decide) (by decide) (by decide) (by decide) (by decide)]; exact d3
    · rw [mp m (by omega), hL, upd2_at]
    · rw [mp m (by omega), hL, upd2_i (by decide), upd2_at]
    · rw [mp m (by omega), hL, upd2_i j2, upd2_i j9, k2.2.1 i j3 j4 j5 j6 j7 j8]
      exact fm i j1 j3 j4 j5 j6 j7
  · have hw := k2.2.2.1
    have en := s_ends0 (g := g) (I := K) hm' hw
    obtain ⟨L, hL⟩ : ∃ L, L = upd2 (upd2 K m 16 (-1)) m 9 0 := ⟨_, rfl⟩
    rw [← hL] at en
    have l14 : L m 14 = 0 := by rw [hL, upd2_i (by decide), upd2_i (by decide)]; exact hw
    have lp : ∀ p, ¬ p = m → L p = K p := fun p hp => by rw [hL]; funext i; rw [upd2_p hp, upd2_p hp]
    have lm : ∀ i, ¬ i = 7 → ¬ i = 9 → ¬ i = 10 → ¬ i = 11 → ¬ i = 12 → ¬ i = 13 → ¬ i = 14 → ¬ i = 15 → ¬ i = 16 → L m i = I m i := fun i j1 j2 j3 j4 j5 j6 j7 j8 j9 => by
      rw [hL, upd2_i j2, upd2_i j9, k2.2.1 i j3 j4 j5 j6]
      exact fm i j1 j3 j4 j5 j6 j7
    have l6 : L m 6 = I m 6 := lm 6 (by decide) (by decide) (by decide) (by decide) (by decide) (by decide) (by decide) (by decide) (by decide)
    obtain ⟨M, m1, m2⟩ := s_keeps (g := g) (I := L) (m := m) (r := m + 2) hm' (Or.inr rfl) (by rw [l6]; exact h6)
    have qe := s_events (g := g) (I := M) hm'
    have me : M (m + 1) 0 = pE P := by
      rw [m2.1 (m + 1) (by omega) (by omega), lp _ (by omega)]
      exact k2.2.2.2.2.2.1
    rw [me] at qe
    refine Or.inr ⟨P, c, L, M, g1, ?_, fun p a c d => by rw [lp p a, k2.1 p a c, fs p a c d], fun i i0 i1 => ?_, ?_, ?_, by rw [hL, upd2_at], by rw [hL, upd2_i (by decide), upd2_at], lm, m2⟩
    · rw [start, k1]
      simp (maxSteps := 2000000) (disch := first | assumption | omega) only [aft_v, aft_n, aft_t, Nat.add_assoc, Nat.reduceAdd, if_true, if_false, not_true_eq_false, not_false_eq_true, Classical.not_not, Int.reduceAdd, Int.reduceSub, Int.reduceMul, Int.reduceNeg, Int.reduceLT, Int.reduceLE, Int.reduceEq, Int.add_zero, Int.zero_add, Int.sub_zero, w_180_32, w_180_33, w_180_35, w_180_37, w_180_38, w_180_39, en, l14, m1, qe]
    · rw [lp _ (by omega), k2.1 _ (by omega) (by omega)]
      exact f2 i i0 i1
    · have e : mv L m = mv K m := by unfold mv; rw [lp (m + 1) (by omega)]
      rw [e]; exact k2.2.2.2.2
    · rw [hL, upd2_i (by decide), upd2_i (by decide), k2.2.1 7 (by decide) (by decide) (by decide) (by decide)]; exact d3
end LW
