/-! Plan.solve. -/
theorem ls_b {P : PT} (h : bdP P) {b : Int} : -1 ≤ lsS P b ∧ lsS P b ≤ 1200000 := by
  unfold lsS
  split
  · omega
  · have := h.2.1
    exact mnI_b (h.2.2.1 _ (by omega) (by omega)).2.1 (by decide) (fun i _ _ => ahS_b h (by omega) (by omega))
def Sol (P : PT) (l : Nat) (I : Mm) : Prop := I l 0 = 1 ∧ I l 1 = pE P ∧ I l 2 = lsS P 0 ∧ (∀ e, 0 ≤ e → e < pE P → ChF P l I e) ∧ (∀ e, 0 ≤ e → e + 1 < pE P → StF P l I e) ∧ (∀ e, 0 ≤ e → e < pE P → AhF P 0 (l + 10) I e) ∧ (∀ e, 0 ≤ e → e < pE P → BhF P l I e) ∧ (¬ lsS P 0 = -1 → ∀ e, 0 ≤ e → e < pE P → I (l + 14) e = fsS P e) ∧ (∀ s, 0 ≤ s → s < 12 → I (l + 18) s = -1 ∨ I (l + 18) s = (if lsS P 0 = -1 then -1 else lsS P s))
theorem Sol.mono {P : PT} {l : Nat} {I I' : Mm} (h : Sol P l I) (h' : ∀ p, l ≤ p → p ≤ l + 14 → I' p = I p) (h18 : I' (l + 18) = I (l + 18)) : Sol P l I' := by
  unfold Sol ChF StF AhF BhF
  rw [h' l (by omega) (by omega), h' (l + 2) (by omega) (by omega), h' (l + 4) (by omega) (by omega), h' (l + 6) (by omega) (by omega), h' (l + 8) (by omega) (by omega), h' (l + 10) (by omega) (by omega), h' (l + 12) (by omega) (by omega), h' (l + 14) (by omega) (by omega), h18]
  exact h
section SV
variable {g : Gm} {I : Mm} {q l : Nat}
theorem s_solve1 (hl : isPl g l) (h : I l 0 = 1) : cl 30 [.ref l, .ref q] (mk g I) = some (.inl none, mk g I) := by
  obtain ⟨l_0, ⟨l_1, m_1, l_2⟩, ⟨l_3, m_3, l_4⟩, ⟨l_5, m_5, l_6⟩, ⟨l_7, m_7, l_8⟩, ⟨l_9, m_9, l_10⟩, ⟨l_11, m_11, l_12⟩, ⟨l_13, m_13, l_14⟩, ⟨l_15, m_15, l_16⟩, ⟨l_17, m_17, l_18⟩, l_19, l_20⟩ := hl
  simp (maxSteps := 2000000) (disch := first | assumption | omega) only [aft_v, aft_n, aft_t, Nat.add_assoc, Nat.reduceAdd, if_true, if_false, not_true_eq_false, not_false_eq_true, Classical.not_not, Int.reduceAdd, Int.reduceSub, Int.reduceMul, Int.reduceNeg, Int.reduceLT, Int.reduceLE, Int.reduceEq, Int.add_zero, Int.zero_add, Int.sub_zero, c_30, w_30_0, w_30_1, h]
theorem s_solve0 {P : PT} (hp : isPc g q) (hl : isPl g l) (hG : gd I q) (hP : P = pv I q) (hq : q + 17 ≤ l ∨ l + 20 ≤ q) (h : I l 0 = 0) :
    ∃ I', cl 30 [.ref l, .ref q] (mk g I) = some (.inl none, mk g I') ∧ frP l I I' ∧ Sol P l I' := by
  have hbd := gd_bd hG
  rw [← hP] at hbd
  have hl' := hl
  have hp' := hp
  obtain ⟨l_0, ⟨l_1, m_1, l_2⟩, ⟨l_3, m_3, l_4⟩, ⟨l_5, m_5, l_6⟩, ⟨l_7, m_7, l_8⟩, ⟨l_9, m_9, l_10⟩, ⟨l_11, m_11, l_12⟩, ⟨l_13, m_13, l_14⟩, ⟨l_15, m_15, l_16⟩, ⟨l_17, m_17, l_18⟩, l_19, l_20⟩ := hl
  obtain ⟨p_0, ⟨p_1, q_1, p_2⟩, ⟨p_3, q_3, p_4⟩, ⟨p_5, q_5, p_6⟩, ⟨p_7, q_7, p_8⟩, ⟨p_9, q_9, p_10⟩, ⟨p_11, q_11, p_12⟩, ⟨p_13, q_13, p_14⟩, ⟨p_15, q_15, p_16⟩⟩ := hp
  have hEP : pE P = I q 1 := by rw [hP]; rfl
  have b1 := hbd.2.1
  have lsb := ls_b hbd (b := 0)
  obtain ⟨I1, hI1⟩ : ∃ I1 : Mm, I1 = upd2 (upd2 I l 0 1) l 1 (I q 1) := ⟨_, rfl⟩
  have f1 : frP l I I1 := by rw [hI1]; exact (frP.refl.upd (by omega)).upd (by omega)
  have i10 : I1 l 0 = 1 := by rw [hI1, upd2_i (by decide), upd2_at]
  have i11 : I1 l 1 = pE P := by rw [hI1, upd2_at, hEP]
  have mvG : ∀ {J : Mm}, frP l I J → gd J q ∧ pv J q = P := by
    intro J hf
    refine ⟨⟨frPB hf hq hG.1, ?_⟩, by rw [frPv hf hq, hP]⟩
    rw [hf q (by omega), hf (q + 2) (by omega), hf (q + 6) (by omega)]
    exact hG.2
  -- the choices
  have A := loop_up (σ := Mm) (head := fun e s => rn 30 3 [some (.ref l), some (.ref q), some (.int (iI e))] [] (mk g s))
    (Inv := fun e s => 0 ≤ e ∧ frP l I s ∧ s l = I1 l ∧ ∀ e', 0 ≤ e' → e' < e → ChF P l s e') (n := pE P) (by
    rintro e J hlt ⟨e0, h1, h2, h3⟩
    obtain ⟨gJ, pJ⟩ := mvG h1
    have hJ1 : J q 1 = pE P := by rw [hEP, h1 q (by omega)]
    have hge := gJ.2 e e0 (by omega)
    obtain ⟨J', t1, t2⟩ := s_listChoices (g := g) (I := J) (e := e) hp' hl' gJ.1 hq (by omega) hge.1 hge.2
    rw [pJ] at t2
    have hz : J (q + 2) e = pSz P e := by rw [← pJ]; rfl
    rw [hz] at t2
    have hf := t2.2.2
    have hJe : J l 1 = pE P := by rw [h2, i11]
    refine ⟨J', ?_, by omega, h1.trans hf.fr, by rw [← h2]; exact funext fun i => hf l i (by omega) (by omega) (by omega), fun e' a b => ?_⟩
    · show rn _ _ _ _ (mk g J) = rn _ _ _ _ _
      refine (w_30_3 (by first | assumption | omega) (by first | assumption | omega) (by first | assumption | omega) (by first | assumption | omega) (by first | assumption | omega)).trans ?_
      simp (maxSteps := 2000000) (disch := first | assumption | omega) only [aft_v, aft_n, aft_t, Nat.add_assoc, Nat.reduceAdd, if_true, if_false, not_true_eq_false, not_false_eq_true, Classical.not_not, Int.reduceAdd, Int.reduceSub, Int.reduceMul, Int.reduceNeg, Int.reduceLT, Int.reduceLE, Int.reduceEq, Int.add_zero, Int.zero_add, Int.sub_zero, w_30_4, w_30_5, hJe, if_neg (show ¬ pE P ≤ e by omega), t1]
    · by_cases hee : e' = e
      · subst hee; exact LI_Ch t2
      · have hc := h3 e' a (by omega)
        have nb := hbd.2.2.1 e' a (by omega)
        refine ⟨by rw [hf _ _ (by omega) (by omega) (by omega)]; exact hc.1, fun c c0 c1 => ⟨fun k k0 k1 => ?_, ?_⟩⟩
        · rw [hf _ _ (by omega) (by omega) (by omega)]; exact (hc.2 c c0 c1).1 k k0 k1
        · rw [hf _ _ (by omega) (by omega) (by omega)]; exact (hc.2 c c0 c1).2) 0 I1 b1.1 ⟨Int.le_refl _, f1, rfl, fun e' a b => by omega⟩
  obtain ⟨J1, a1, -, a2, a3, a4⟩ := A
  have a1 : rn 30 3 [some (.ref l), some (.ref q), some (.int (iI 0))] [] (mk g I1) = rn 30 3 [some (.ref l), some (.ref q), some (.int (iI (pE P)))] [] (mk g J1) := a1
  have jA : J1 l 1 = pE P := by rw [a3, i11]
  -- the steps
  have B := loop_up (σ := Mm) (head := fun e s => rn 30 7 [some (.ref l), some (.ref q), some (.int (iI e))] [] (mk g s))
    (Inv := fun e s => 0 ≤ e ∧ onl (l + 8) J1 s ∧ ∀ e', 0 ≤ e' → e' < e → StF P l s e') (n := max 0 (pE P - 1)) (by
    rintro e J hlt ⟨e0, h1, h2⟩
    have hfJ := a2.trans (h1.frP (by omega))
    obtain ⟨gJ, pJ⟩ := mvG hfJ
    have hC : ∀ e, 0 ≤ e → e < pE P → ChF P l J e := fun e a b => (a4 e a b).mono (h1 _ (by omega)) (h1 _ (by omega)) (h1 _ (by omega))
    have hJ1 : J q 1 = pE P := by rw [hEP, hfJ q (by omega)]
    obtain ⟨J', t1, t2, t3, t4⟩ := s_fillSteps (g := g) (I := J) (P := P) (e := e) hp' hl' gJ pJ.symm hq (by omega) (hC e e0 (by omega)) (hC (e + 1) (by omega) (by omega))
    have hJe : J l 1 = pE P := by rw [h1 l (by omega), jA]
    refine ⟨J', ?_, by omega, fun p hp => (t2 p hp).trans (h1 p hp), fun e' a b => ?_⟩
    · show rn _ _ _ _ (mk g J) = rn _ _ _ _ _
      refine (w_30_7 (by first | assumption | omega) (by first | assumption | omega) (by first | assumption | omega) (by first | assumption | omega) (by first | assumption | omega)).trans ?_
      simp (maxSteps := 2000000) (disch := first | assumption | omega) only [aft_v, aft_n, aft_t, Nat.add_assoc, Nat.reduceAdd, if_true, if_false, not_true_eq_false, not_false_eq_true, Classical.not_not, Int.reduceAdd, Int.reduceSub, Int.reduceMul, Int.reduceNeg, Int.reduceLT, Int.reduceLE, Int.reduceEq, Int.add_zero, Int.zero_add, Int.sub_zero, w_30_8, w_30_9, hJe, if_neg (show ¬ pE P - 1 ≤ e by omega), t1]
    · by_cases hee : e' = e
      · subst hee; exact t4
      · intro c n c0 c1 n0 n1
        have nb := hbd.2.2.1 e' a (by omega)
        have nb' := hbd.2.2.1 (e' + 1) (by omega) (by omega)
        rw [t3 _ (by omega)]
        exact h2 e' a (by omega) c n c0 c1 n0 n1) 0 J1 (by omega) ⟨Int.le_refl _, onl.refl, fun e' a b => by omega⟩
  obtain ⟨J2, c1, -, c2, c3⟩ := B
  have c1 : rn 30 7 [some (.ref l), some (.ref q), some (.int (iI 0))] [] (mk g J1) = rn 30 7 [some (.ref l), some (.ref q), some (.int (iI (max 0 (pE P - 1))))] [] (mk g J2) := c1
  have f2 := a2.trans (c2.frP (l := l) (by omega))
  obtain ⟨g2, p2⟩ := mvG f2
  have jB : J2 l = I1 l := by rw [c2 l (by omega), a3]
  have jB1 : J2 l 1 = pE P := by rw [jB, i11]
  have C2 : ∀ e, 0 ≤ e → e < pE P → ChF P l J2 e := fun e a b => (a4 e a b).mono (c2 _ (by omega)) (c2 _ (by omega)) (c2 _ (by omega))
  have S2 : ∀ e, 0 ≤ e → e + 1 < pE P → StF P l J2 e := fun e a b => c3 e a (by omega)
  have hJ2q : J2 q 1 = pE P := by rw [hEP, f2 q (by omega)]
  -- ahead
  obtain ⟨J3, d1, d2, d3⟩ := s_fillAhead (g := g) (I := J2) (P := P) (b := 0) (R := l + 9) hp' hl' g2 p2.symm hq (by decide) (Or.inl rfl) (by rw [jB1, hJ2q]) C2 S2
  have d2 : onl (l + 10) J2 J3 := d2
  have C3 : ∀ e, 0 ≤ e → e < pE P → ChF P l J3 e := fun e a b => (C2 e a b).mono (d2 _ (by omega)) (d2 _ (by omega)) (d2 _ (by omega))
  have S3 : ∀ e, 0 ≤ e → e + 1 < pE P → StF P l J3 e := fun e a b => by unfold StF; rw [d2 (l + 8) (by omega)]; exact S2 e a b
  have jC : J3 l = I1 l := by rw [d2 l (by omega), jB]
  have jC1 : J3 l 1 = pE P := by rw [jC, i11]
  -- behind
  obtain ⟨J4, e1, e2, e3⟩ := s_fillBehind (g := g) (I := J3) (P := P) hl' hbd jC1 C3 S3
  have C4 : ∀ e, 0 ≤ e → e < pE P → ChF P l J4 e := fun e a b => (C3 e a b).mono (e2 _ (by omega)) (e2 _ (by omega)) (e2 _ (by omega))
  have S4 : ∀ e, 0 ≤ e → e + 1 < pE P → StF P l J4 e := fun e a b => by unfold StF; rw [e2 (l + 8) (by omega)]; exact S3 e a b
  have A4 : ∀ e, 0 ≤ e → e < pE P → AhF P 0 (l + 10) J4 e := fun e a b => by unfold AhF; rw [e2 (l + 10) (by omega)]; exact d3 e a b
  have jD : J4 l = I1 l := by rw [e2 l (by omega), jC]
  have jD1 : J4 l 1 = pE P := by rw [jD, i11]
  -- the least
  have hLE : cl 44 [.ref l, .ref (l + 9)] (mk g J4) = some (.inl (some (.int (iI (lsS P 0)))), mk g J4) := by
    by_cases hz : pE P = 0
    · have := s_leastAtEnd0 (g := g) (I := J4) (R := l + 9) hl' (by rw [jD1, hz])
      unfold lsS
      rw [if_pos hz]
      exact this
    · have nb := hbd.2.2.1 (pE P - 1) (by omega) (by omega)
      have hc9 : J4 (l + 2) (pE P - 1) = cntS P (pE P - 1) := (C4 _ (by omega) (by omega)).1
      have := s_leastAtEnd (g := g) (I := J4) (A := 1200000) (R := l + 9) hl' l_9 l_10 (by omega) (by rw [jD1, hc9]; exact nb.2) (by decide) (fun i i0 i1 => by
        rw [jD1] at i1 ⊢
        rw [hc9] at i1
        rw [show J4 (l + 9 + 1) ((pE P - 1) * 10 + i) = ahS P 0 (pE P - 1) i from A4 (pE P - 1) (by omega) (by omega) i i0 i1]
        exact ahS_b hbd (by omega) (by omega))
      rw [jD1, hc9] at this
      rw [this]
      refine ans_i ?_
      unfold lsS
      rw [if_neg hz]
      exact mnI_congr (fun i i0 i1 => A4 (pE P - 1) (by omega) (by omega) i i0 i1) nb.2.1
  obtain ⟨J5, hJ5⟩ : ∃ J5 : Mm, J5 = upd2 J4 l 2 (lsS P 0) := ⟨_, rfl⟩
  have k5 : ∀ p, ¬ p = l → J5 p = J4 p := fun p hp => by rw [hJ5]; exact funext fun i => upd2_p hp
  have k50 : J5 l 0 = 1 := by rw [hJ5, upd2_i (by decide), jD, i10]
  have k51 : J5 l 1 = pE P := by rw [hJ5, upd2_i (by decide), jD1]
  have k52 : J5 l 2 = lsS P 0 := by rw [hJ5, upd2_at]
  have C5 : ∀ e, 0 ≤ e → e < pE P → ChF P l J5 e := fun e a b => (C4 e a b).mono (k5 _ (by omega)) (k5 _ (by omega)) (k5 _ (by omega))
  have S5 : ∀ e, 0 ≤ e → e + 1 < pE P → StF P l J5 e := fun e a b => by unfold StF; rw [k5 (l + 8) (by omega)]; exact S4 e a b
  have A5 : ∀ e, 0 ≤ e → e < pE P → AhF P 0 (l + 10) J5 e := fun e a b => by unfold AhF; rw [k5 (l + 10) (by omega)]; exact A4 e a b
  have B5 : ∀ e, 0 ≤ e → e < pE P → BhF P l J5 e := fun e a b => by unfold BhF; rw [k5 (l + 12) (by omega)]; exact e3 e a b
  -- the first
  have hFF : ∃ J6, cl 45 [.ref l] (mk g J5) = some (.inl none, mk g J6) ∧ onl (l + 14) J5 J6 ∧ (¬ lsS P 0 = -1 → ∀ e, 0 ≤ e → e < pE P → J6 (l + 14) e = fsS P e) := by
    by_cases hz : lsS P 0 = -1
    · exact ⟨J5, s_findFirst0 hl' (by rw [k52, hz]), onl.refl, fun h => absurd hz h⟩
    · obtain ⟨J6, x1, x2, x3⟩ := s_findFirst (g := g) (I := J5) hl' hbd k51 k52 hz (by omega) C5 S5 B5
      exact ⟨J6, x1, x2, fun _ => x3⟩
  obtain ⟨J6, x1, x2, x3⟩ := hFF
  have j62 : J6 l 2 = lsS P 0 := by rw [x2 l (by omega), k52]
  -- the shifted ones
  have D := loop_up (σ := Mm) (head := fun s J => rn 30 15 [some (.ref l), some (.ref q), some (.int (iI s))] [] (mk g J))
    (Inv := fun s J => 1 ≤ s ∧ onl (l + 18) J6 J ∧ ∀ s', 1 ≤ s' → s' < s → J (l + 18) s' = -1) (n := 12) (by
    rintro s J hlt ⟨s0, h1, h2⟩
    refine ⟨upd2 J (l + 18) s (-1), ?_, by omega, h1.upd, fun s' a b => ?_⟩
    · show rn _ _ _ _ (mk g J) = rn _ _ _ _ _
      refine (w_30_15 (by first | assumption | omega) (by first | assumption | omega)).trans ?_
      refine (if_neg (by omega)).trans ?_
      simp (maxSteps := 2000000) (disch := first | assumption | omega) only [aft_v, aft_n, aft_t, Nat.add_assoc, Nat.reduceAdd, if_true, if_false, not_true_eq_false, not_false_eq_true, Classical.not_not, Int.reduceAdd, Int.reduceSub, Int.reduceMul, Int.reduceNeg, Int.reduceLT, Int.reduceLE, Int.reduceEq, Int.add_zero, Int.zero_add, Int.sub_zero, w_30_16, w_30_17, s_row_put]
    · by_cases hs : s' = s
      · subst hs; exact upd2_at
      · rw [upd2_i hs]; exact h2 s' a (by omega)) 1 J6 (by decide) ⟨Int.le_refl _, onl.refl, fun s' a b => by omega⟩
  obtain ⟨J7, y1, -, y2, y3⟩ := D
  have y1 : rn 30 15 [some (.ref l), some (.ref q), some (.int (iI 1))] [] (mk g J6) = rn 30 15 [some (.ref l), some (.ref q), some (.int (iI 12))] [] (mk g J7) := y1
  have j7 : J7 l 2 = lsS P 0 := by rw [y2 l (by omega), j62]
  have z : ∀ p, ¬ p = l + 18 → upd2 J7 (l + 18) 0 (lsS P 0) p = J6 p := fun p hp => by rw [← y2 p hp]; exact funext fun i => upd2_p hp
  refine ⟨upd2 J7 (l + 18) 0 (lsS P 0), ?_, ?_, ?_⟩
  · simp (maxSteps := 2000000) (disch := first | assumption | omega) only [aft_v, aft_n, aft_t, Nat.add_assoc, Nat.reduceAdd, if_true, if_false, not_true_eq_false, not_false_eq_true, Classical.not_not, Int.reduceAdd, Int.reduceSub, Int.reduceMul, Int.reduceNeg, Int.reduceLT, Int.reduceLE, Int.reduceEq, Int.add_zero, Int.zero_add, Int.sub_zero, c_30, w_30_0, w_30_2, h, upd2_p]
    rw [← hI1, a1]
    refine (w_30_3 (by first | assumption | omega) (by first | assumption | omega) (by first | assumption | omega) (by first | assumption | omega) (by first | assumption | omega)).trans ?_
    simp (maxSteps := 2000000) (disch := first | assumption | omega) only [aft_v, aft_n, aft_t, Nat.add_assoc, Nat.reduceAdd, if_true, if_false, not_true_eq_false, not_false_eq_true, Classical.not_not, Int.reduceAdd, Int.reduceSub, Int.reduceMul, Int.reduceNeg, Int.reduceLT, Int.reduceLE, Int.reduceEq, Int.add_zero, Int.zero_add, Int.sub_zero, w_30_6, jA, if_pos (Int.le_refl (pE P))]
    rw [c1]
    refine (w_30_7 (by first | assumption | omega) (by first | assumption | omega) (by first | assumption | omega) (by first | assumption | omega) (by first | assumption | omega)).trans ?_
    simp (maxSteps := 2000000) (disch := first | assumption | omega) only [aft_v, aft_n, aft_t, Nat.add_assoc, Nat.reduceAdd, if_true, if_false, not_true_eq_false, not_false_eq_true, Classical.not_not, Int.reduceAdd, Int.reduceSub, Int.reduceMul, Int.reduceNeg, Int.reduceLT, Int.reduceLE, Int.reduceEq, Int.add_zero, Int.zero_add, Int.sub_zero, w_30_10, w_30_11, w_30_12, w_30_13, w_30_14, jB1, if_pos (show pE P - 1 ≤ max 0 (pE P - 1) by omega), d1, e1, hLE]
    rw [← hJ5]
    simp (maxSteps := 2000000) (disch := first | assumption | omega) only [aft_v, aft_n, aft_t, Nat.add_assoc, Nat.reduceAdd, if_true, if_false, not_true_eq_false, not_false_eq_true, Classical.not_not, Int.reduceAdd, Int.reduceSub, Int.reduceMul, Int.reduceNeg, Int.reduceLT, Int.reduceLE, Int.reduceEq, Int.add_zero, Int.zero_add, Int.sub_zero, w_30_14, x1]
    rw [y1]
    refine (w_30_15 (by first | assumption | omega) (by first | assumption | omega)).trans ?_
    refine (if_pos (by omega)).trans ?_
    simp (maxSteps := 2000000) (disch := first | assumption | omega) only [aft_v, aft_n, aft_t, Nat.add_assoc, Nat.reduceAdd, if_true, if_false, not_true_eq_false, not_false_eq_true, Classical.not_not, Int.reduceAdd, Int.reduceSub, Int.reduceMul, Int.reduceNeg, Int.reduceLT, Int.reduceLE, Int.reduceEq, Int.add_zero, Int.zero_add, Int.sub_zero, w_30_18, w_30_19, s_row_put, j7]
  · intro p hp
    rw [z p (by omega), x2 p (by omega), k5 p (by omega), e2 p (by omega), d2 p (by omega), f2 p hp]
  · have w : ∀ p, ¬ p = l + 18 → ¬ p = l + 14 → upd2 J7 (l + 18) 0 (lsS P 0) p = J5 p := fun p h1 h2 => (z p h1).trans (x2 p h2)
    refine ⟨by rw [w l (by omega) (by omega), k50], by rw [w l (by omega) (by omega), k51], by rw [w l (by omega) (by omega), k52], fun e a b => (C5 e a b).mono (w _ (by omega) (by omega)) (w _ (by omega) (by omega)) (w _ (by omega) (by omega)), fun e a b => ?_, fun e a b => ?_, fun e a b => ?_, fun hn e a b => ?_, fun s a b => ?_⟩
    · unfold StF; rw [w (l + 8) (by omega) (by omega)]; exact S5 e a b
    · unfold AhF; rw [w (l + 10) (by omega) (by omega)]; exact A5 e a b
    · unfold BhF; rw [w (l + 12) (by omega) (by omega)]; exact B5 e a b
    · rw [z _ (by omega)]; exact x3 hn e a b
    · by_cases hs : s = 0
      · subst hs
        rw [upd2_at]
        right
        split <;> omega
      · rw [upd2_i hs]
        exact Or.inl (y3 s (by omega) b)
end SV
