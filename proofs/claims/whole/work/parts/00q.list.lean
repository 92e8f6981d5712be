/-! Plan: all choices of an event. -/
section LST
variable {g : Gm} {I : Mm} {q l : Nat}
theorem s_listChoices {e : Int} (hp : isPc g q) (hl : isPl g l) (hB : pB I q) (hq : q + 17 ≤ l ∨ l + 20 ≤ q) (he : 0 ≤ e ∧ e < 40) (hs : 1 ≤ I (q + 2) e)
    (hd : ∀ k, 0 ≤ k → k + 1 < I (q + 2) e → I (q + 6) (e * 3 + k) < I (q + 6) (e * 3 + (k + 1))) :
    ∃ I', cl 34 [.ref l, .ref q, .int (iI e)] (mk g I) = some (.inl none, mk g I') ∧ LI (pv I q) l e (mN (I (q + 2) e)) I I' := by
  have hl' := hl
  have hp' := hp
  obtain ⟨l_0, ⟨l_1, m_1, l_2⟩, ⟨l_3, m_3, l_4⟩, ⟨l_5, m_5, l_6⟩, ⟨l_7, m_7, l_8⟩, ⟨l_9, m_9, l_10⟩, ⟨l_11, m_11, l_12⟩, ⟨l_13, m_13, l_14⟩, ⟨l_15, m_15, l_16⟩, ⟨l_17, m_17, l_18⟩, l_19, l_20⟩ := hl
  obtain ⟨p_0, ⟨p_1, q_1, p_2⟩, ⟨p_3, q_3, p_4⟩, ⟨p_5, q_5, p_6⟩, ⟨p_7, q_7, p_8⟩, ⟨p_9, q_9, p_10⟩, ⟨p_11, q_11, p_12⟩, ⟨p_13, q_13, p_14⟩, ⟨p_15, q_15, p_16⟩⟩ := hp
  have s3 : I (q + 2) e ≤ 3 := (hB.2.2.1 e).2
  have b0 := hB.1
  have hr : pR (pv I q) = 0 ∨ pR (pv I q) = 1 := hB.1
  have hz : pSz (pv I q) e = I (q + 2) e := rfl
  have start : LI (pv I q) l e 0 I (upd2 I (l + 2) e 0) := by
    refine ⟨by rw [upd2_at]; rfl, fun c hc => absurd hc (Nat.not_lt_zero _), fun p i n1 _ _ => ?_⟩
    unfold upd2
    rw [if_neg (by omega)]
  have hI0 : ∀ {m : Nat} {J : Mm}, LI (pv I q) l e m I J → J q 0 = I q 0 := fun h => by rw [h.2.2.fr q (by omega)]
  have u1 : ∀ {i v : Int}, upd2 I (l + 2) i v (q + 2) = I (q + 2) := fun {i v} => funext fun j => upd2_p (by omega)
  have hs1 : I (q + 2) e = 1 ∨ I (q + 2) e = 2 ∨ I (q + 2) e = 3 := by omega
  rcases hs1 with hs1 | hs1 | hs1
  · have key := loop_up (σ := Mm × Option Value × Option Value) (head := fun i s => rn 34 3 [some (.ref l), some (.ref q), some (.int (iI e)), some (.int (iI 1)), some (.int (iI i)), s.2.1, s.2.2] [] (mk g s.1)) (Inv := fun i s => 1 ≤ i ∧ LI (pv I q) l e (i - 1).toNat I s.1) (n := 6) (by
      rintro i ⟨J, o5, o6⟩ hi ⟨h1, h2⟩
      have h2 : LI (pv I q) l e (i - 1).toNat I J := h2
      obtain ⟨J', t1, t2⟩ := LI_step (a := i) (b := 0) (c := 0) hp' hl' hB hq he hs hd (by rw [hs1]; show _ < 5; omega) (by
        intro k k0 k1
        have : k = 0 := by omega
        subst this
        rw [hs1]
        show i = ((i - 1).toNat : Int) * 25 / 25 + 1
        omega) h2
      refine ⟨(J', some (.int (iI 1)), o6), ?_, by omega, by rw [show (i + 1 - 1).toNat = (i - 1).toNat + 1 by omega]; exact t2⟩
      show rn _ _ _ _ _ = rn _ _ _ _ _
      refine (w_34_3 (by first | assumption | omega) (by first | assumption | omega)).trans ?_
      refine (if_neg (by omega)).trans ?_
      simp (maxSteps := 2000000) (disch := first | assumption | omega) only [aft_v, aft_n, aft_t, Nat.add_assoc, Nat.reduceAdd, if_true, if_false, not_true_eq_false, not_false_eq_true, Classical.not_not, Int.reduceAdd, Int.reduceSub, Int.reduceMul, Int.reduceNeg, Int.reduceLT, Int.reduceLE, Int.reduceEq, Int.add_zero, Int.zero_add, Int.sub_zero, w_34_4, w_34_5, w_34_6, w_34_7, w_34_22, t1]) 1 (upd2 I (l + 2) e 0, none, none) (by omega) ⟨by omega, start⟩
    obtain ⟨⟨J, o5, o6⟩, e1, -, hJ⟩ := key
    refine ⟨J, ?_, by rw [hs1]; exact hJ⟩
    have e1 : rn 34 3 [some (.ref l), some (.ref q), some (.int (iI e)), some (.int (iI 1)), some (.int (iI 1)), none, none] [] (mk g (upd2 I (l + 2) e 0)) = rn 34 3 [some (.ref l), some (.ref q), some (.int (iI e)), some (.int (iI 1)), some (.int (iI 6)), o5, o6] [] (mk g J) := e1
    simp (maxSteps := 2000000) (disch := first | assumption | omega) only [aft_v, aft_n, aft_t, Nat.add_assoc, Nat.reduceAdd, if_true, if_false, not_true_eq_false, not_false_eq_true, Classical.not_not, Int.reduceAdd, Int.reduceSub, Int.reduceMul, Int.reduceNeg, Int.reduceLT, Int.reduceLE, Int.reduceEq, Int.add_zero, Int.zero_add, Int.sub_zero, c_34, w_34_0, w_34_1, w_34_2, s_row_put, s_row_get, u1, hs1]
    rw [e1]
    refine (w_34_3 (by first | assumption | omega) (by first | assumption | omega)).trans ?_
    refine (if_pos (by omega)).trans ?_
    simp (maxSteps := 2000000) (disch := first | assumption | omega) only [aft_v, aft_n, aft_t, Nat.add_assoc, Nat.reduceAdd, if_true, if_false, not_true_eq_false, not_false_eq_true, Classical.not_not, Int.reduceAdd, Int.reduceSub, Int.reduceMul, Int.reduceNeg, Int.reduceLT, Int.reduceLE, Int.reduceEq, Int.add_zero, Int.zero_add, Int.sub_zero, w_34_23]
  · have key := loop_up (σ := Mm × Option Value × Option Value) (head := fun i s => rn 34 3 [some (.ref l), some (.ref q), some (.int (iI e)), some (.int (iI 2)), some (.int (iI i)), s.2.1, s.2.2] [] (mk g s.1)) (Inv := fun i s => 1 ≤ i ∧ LI (pv I q) l e (5 * (i - 1).toNat) I s.1) (n := 6) (by
      rintro i ⟨J, o5, o6⟩ hi ⟨h1, h2⟩
      have h2 : LI (pv I q) l e (5 * (i - 1).toNat) I J := h2
      have key2 := loop_up (σ := Mm × Option Value) (head := fun j s => rn 34 7 [some (.ref l), some (.ref q), some (.int (iI e)), some (.int (iI 2)), some (.int (iI i)), some (.int (iI j)), s.2] [] (mk g s.1)) (Inv := fun j s => 1 ≤ j ∧ LI (pv I q) l e (5 * (i - 1).toNat + (j - 1).toNat) I s.1) (n := 6) (by
        rintro j ⟨J, o6⟩ hj ⟨h1, h2⟩
        have h2 : LI (pv I q) l e (5 * (i - 1).toNat + (j - 1).toNat) I J := h2
        have hq0 := hI0 h2
        have hio := s_inOrder (g := g) (I := J) (a := i) (b := j) hp' (by omega) (by omega) (by rw [hq0]; exact b0)
        rw [hq0] at hio
        by_cases ho : (if I q 0 = 0 then j < i else i < j)
        · obtain ⟨J', t1, t2⟩ := LI_step (a := i) (b := j) (c := 0) hp' hl' hB hq he hs hd (by rw [hs1]; show _ < 25; omega) (by
            intro k k0 k1
            rw [hs1]
            have : k = 0 ∨ k = 1 := by omega
            rcases this with rfl | rfl
            · show i = ((5 * (i - 1).toNat + (j - 1).toNat : Nat) : Int) * 5 / 25 + 1
              omega
            · show j = ((5 * (i - 1).toNat + (j - 1).toNat : Nat) : Int) * 5 / 5 % 5 + 1
              omega) h2
          refine ⟨(J', some (.int (iI 1))), ?_, by omega, by rw [show 5 * (i - 1).toNat + (j + 1 - 1).toNat = 5 * (i - 1).toNat + (j - 1).toNat + 1 by omega]; exact t2⟩
          show rn _ _ _ _ _ = rn _ _ _ _ _
          refine (w_34_7 (by first | assumption | omega) (by first | assumption | omega)).trans ?_
          refine (if_neg (by omega)).trans ?_
          simp (maxSteps := 2000000) (disch := first | assumption | omega) only [aft_v, aft_n, aft_t, Nat.add_assoc, Nat.reduceAdd, if_true, if_false, not_true_eq_false, not_false_eq_true, Classical.not_not, Int.reduceAdd, Int.reduceSub, Int.reduceMul, Int.reduceNeg, Int.reduceLT, Int.reduceLE, Int.reduceEq, Int.add_zero, Int.zero_add, Int.sub_zero, w_34_8, w_34_9, w_34_10, w_34_11, w_34_12, w_34_13, w_34_14, w_34_15, w_34_21, t1, hio, if_pos ho, show ¬ (5 : Int) < j by omega, show ¬ (1 : Int) = 0 by decide]
        · refine ⟨(J, o6), ?_, by omega, by
            rw [show 5 * (i - 1).toNat + (j + 1 - 1).toNat = 5 * (i - 1).toNat + (j - 1).toNat + 1 by omega]
            refine LI_skip h2 hr ⟨hs, s3⟩ ?_
            rw [hz, hs1]
            show (if I q 0 = 0 then decide (((5 * (i - 1).toNat + (j - 1).toNat : Nat) : Int) * 5 / 5 % 5 + 1 < ((5 * (i - 1).toNat + (j - 1).toNat : Nat) : Int) * 5 / 25 + 1) else decide (((5 * (i - 1).toNat + (j - 1).toNat : Nat) : Int) * 5 / 25 + 1 < ((5 * (i - 1).toNat + (j - 1).toNat : Nat) : Int) * 5 / 5 % 5 + 1)) = false
            split
            · rename_i hh; rw [if_pos hh] at ho; exact decide_eq_false (by omega)
            · rename_i hh; rw [if_neg hh] at ho; exact decide_eq_false (by omega)⟩
          show rn _ _ _ _ _ = rn _ _ _ _ _
          refine (w_34_7 (by first | assumption | omega) (by first | assumption | omega)).trans ?_
          refine (if_neg (by omega)).trans ?_
          simp (maxSteps := 2000000) (disch := first | assumption | omega) only [aft_v, aft_n, aft_t, Nat.add_assoc, Nat.reduceAdd, if_true, if_false, not_true_eq_false, not_false_eq_true, Classical.not_not, Int.reduceAdd, Int.reduceSub, Int.reduceMul, Int.reduceNeg, Int.reduceLT, Int.reduceLE, Int.reduceEq, Int.add_zero, Int.zero_add, Int.sub_zero, w_34_8, w_34_9, w_34_10, w_34_11, w_34_21, hio, if_neg ho, show ¬ (5 : Int) < j by omega]) 1 (J, o6) (by omega) ⟨by omega, by rw [show 5 * (i - 1).toNat + ((1 : Int) - 1).toNat = 5 * (i - 1).toNat by omega]; exact h2⟩
      obtain ⟨⟨J2, p6⟩, e2, -, hJ2⟩ := key2
      have e2 : rn 34 7 [some (.ref l), some (.ref q), some (.int (iI e)), some (.int (iI 2)), some (.int (iI i)), some (.int (iI 1)), o6] [] (mk g J) = rn 34 7 [some (.ref l), some (.ref q), some (.int (iI e)), some (.int (iI 2)), some (.int (iI i)), some (.int (iI 6)), p6] [] (mk g J2) := e2
      refine ⟨(J2, some (.int (iI 6)), p6), ?_, by omega, by rw [show 5 * (i + 1 - 1).toNat = 5 * (i - 1).toNat + ((6 : Int) - 1).toNat by omega]; exact hJ2⟩
      show rn _ _ _ _ _ = rn _ _ _ _ _
      refine (w_34_3 (by first | assumption | omega) (by first | assumption | omega)).trans ?_
      refine (if_neg (by omega)).trans ?_
      simp (maxSteps := 2000000) (disch := first | assumption | omega) only [aft_v, aft_n, aft_t, Nat.add_assoc, Nat.reduceAdd, if_true, if_false, not_true_eq_false, not_false_eq_true, Classical.not_not, Int.reduceAdd, Int.reduceSub, Int.reduceMul, Int.reduceNeg, Int.reduceLT, Int.reduceLE, Int.reduceEq, Int.add_zero, Int.zero_add, Int.sub_zero, w_34_4, w_34_5, w_34_6]
      rw [e2]
      refine (w_34_7 (by first | assumption | omega) (by first | assumption | omega)).trans ?_
      refine (if_neg (by omega)).trans ?_
      simp (maxSteps := 2000000) (disch := first | assumption | omega) only [aft_v, aft_n, aft_t, Nat.add_assoc, Nat.reduceAdd, if_true, if_false, not_true_eq_false, not_false_eq_true, Classical.not_not, Int.reduceAdd, Int.reduceSub, Int.reduceMul, Int.reduceNeg, Int.reduceLT, Int.reduceLE, Int.reduceEq, Int.add_zero, Int.zero_add, Int.sub_zero, w_34_8, w_34_22]) 1 (upd2 I (l + 2) e 0, none, none) (by omega) ⟨by omega, start⟩
    obtain ⟨⟨J, o5, o6⟩, e1, -, hJ⟩ := key
    refine ⟨J, ?_, by rw [hs1]; exact hJ⟩
    have e1 : rn 34 3 [some (.ref l), some (.ref q), some (.int (iI e)), some (.int (iI 2)), some (.int (iI 1)), none, none] [] (mk g (upd2 I (l + 2) e 0)) = rn 34 3 [some (.ref l), some (.ref q), some (.int (iI e)), some (.int (iI 2)), some (.int (iI 6)), o5, o6] [] (mk g J) := e1
    simp (maxSteps := 2000000) (disch := first | assumption | omega) only [aft_v, aft_n, aft_t, Nat.add_assoc, Nat.reduceAdd, if_true, if_false, not_true_eq_false, not_false_eq_true, Classical.not_not, Int.reduceAdd, Int.reduceSub, Int.reduceMul, Int.reduceNeg, Int.reduceLT, Int.reduceLE, Int.reduceEq, Int.add_zero, Int.zero_add, Int.sub_zero, c_34, w_34_0, w_34_1, w_34_2, s_row_put, s_row_get, u1, hs1]
    rw [e1]
    refine (w_34_3 (by first | assumption | omega) (by first | assumption | omega)).trans ?_
    refine (if_pos (by omega)).trans ?_
    simp (maxSteps := 2000000) (disch := first | assumption | omega) only [aft_v, aft_n, aft_t, Nat.add_assoc, Nat.reduceAdd, if_true, if_false, not_true_eq_false, not_false_eq_true, Classical.not_not, Int.reduceAdd, Int.reduceSub, Int.reduceMul, Int.reduceNeg, Int.reduceLT, Int.reduceLE, Int.reduceEq, Int.add_zero, Int.zero_add, Int.sub_zero, w_34_23]
  · have key := loop_up (σ := Mm × Option Value × Option Value) (head := fun i s => rn 34 3 [some (.ref l), some (.ref q), some (.int (iI e)), some (.int (iI 3)), some (.int (iI i)), s.2.1, s.2.2] [] (mk g s.1)) (Inv := fun i s => 1 ≤ i ∧ LI (pv I q) l e (25 * (i - 1).toNat) I s.1) (n := 6) (by
      rintro i ⟨J, o5, o6⟩ hi ⟨h1, h2⟩
      have h2 : LI (pv I q) l e (25 * (i - 1).toNat) I J := h2
      have key2 := loop_up (σ := Mm × Option Value) (head := fun j s => rn 34 7 [some (.ref l), some (.ref q), some (.int (iI e)), some (.int (iI 3)), some (.int (iI i)), some (.int (iI j)), s.2] [] (mk g s.1)) (Inv := fun j s => 1 ≤ j ∧ LI (pv I q) l e (25 * (i - 1).toNat + 5 * (j - 1).toNat) I s.1) (n := 6) (by
        rintro j ⟨J, o6⟩ hj ⟨h1, h2⟩
        have h2 : LI (pv I q) l e (25 * (i - 1).toNat + 5 * (j - 1).toNat) I J := h2
        have hq0 := hI0 h2
        have hio := s_inOrder (g := g) (I := J) (a := i) (b := j) hp' (by omega) (by omega) (by rw [hq0]; exact b0)
        rw [hq0] at hio
        by_cases ho : (if I q 0 = 0 then j < i else i < j)
        · have key3 := loop_up (σ := Mm) (head := fun k s => rn 34 15 [some (.ref l), some (.ref q), some (.int (iI e)), some (.int (iI 3)), some (.int (iI i)), some (.int (iI j)), some (.int (iI k))] [] (mk g s)) (Inv := fun k s => 1 ≤ k ∧ LI (pv I q) l e (25 * (i - 1).toNat + 5 * (j - 1).toNat + (k - 1).toNat) I s) (n := 6) (by
            rintro k J hk ⟨h1, h2⟩
            have hq0 := hI0 h2
            have hio := s_inOrder (g := g) (I := J) (a := j) (b := k) hp' (by omega) (by omega) (by rw [hq0]; exact b0)
            rw [hq0] at hio
            by_cases ho3 : (if I q 0 = 0 then k < j else j < k)
            · obtain ⟨J', t1, t2⟩ := LI_step (a := i) (b := j) (c := k) hp' hl' hB hq he hs hd (by rw [hs1]; show _ < 125; omega) (by
                intro t k0 k1
                rw [hs1]
                have : t = 0 ∨ t = 1 ∨ t = 2 := by omega
                rcases this with rfl | rfl | rfl
                · show i = ((25 * (i - 1).toNat + 5 * (j - 1).toNat + (k - 1).toNat : Nat) : Int) * 1 / 25 + 1
                  omega
                · show j = ((25 * (i - 1).toNat + 5 * (j - 1).toNat + (k - 1).toNat : Nat) : Int) * 1 / 5 % 5 + 1
                  omega
                · show k = ((25 * (i - 1).toNat + 5 * (j - 1).toNat + (k - 1).toNat : Nat) : Int) * 1 % 5 + 1
                  omega) h2
              refine ⟨J', ?_, by omega, by rw [show 25 * (i - 1).toNat + 5 * (j - 1).toNat + (k + 1 - 1).toNat = 25 * (i - 1).toNat + 5 * (j - 1).toNat + (k - 1).toNat + 1 by omega]; exact t2⟩
              show rn _ _ _ _ _ = rn _ _ _ _ _
              refine (w_34_15 (by first | assumption | omega) (by first | assumption | omega)).trans ?_
              refine (if_neg (by omega)).trans ?_
              simp (maxSteps := 2000000) (disch := first | assumption | omega) only [aft_v, aft_n, aft_t, Nat.add_assoc, Nat.reduceAdd, if_true, if_false, not_true_eq_false, not_false_eq_true, Classical.not_not, Int.reduceAdd, Int.reduceSub, Int.reduceMul, Int.reduceNeg, Int.reduceLT, Int.reduceLE, Int.reduceEq, Int.add_zero, Int.zero_add, Int.sub_zero, w_34_16, w_34_17, w_34_18, w_34_19, w_34_20, t1, hio, if_pos ho3, show ¬ (5 : Int) < k by omega, show ¬ (1 : Int) = 0 by decide]
            · refine ⟨J, ?_, by omega, by
                rw [show 25 * (i - 1).toNat + 5 * (j - 1).toNat + (k + 1 - 1).toNat = 25 * (i - 1).toNat + 5 * (j - 1).toNat + (k - 1).toNat + 1 by omega]
                refine LI_skip h2 hr ⟨hs, s3⟩ ?_
                rw [hz, hs1]
                have x1 : (((25 * (i - 1).toNat + 5 * (j - 1).toNat + (k - 1).toNat : Nat) : Int)) / 5 % 5 + 1 = j := by omega
                have x2 : (((25 * (i - 1).toNat + 5 * (j - 1).toNat + (k - 1).toNat : Nat) : Int)) % 5 + 1 = k := by omega
                show (if I q 0 = 0 then decide (_ ∧ ((25 * (i - 1).toNat + 5 * (j - 1).toNat + (k - 1).toNat : Nat) : Int) % 5 + 1 < ((25 * (i - 1).toNat + 5 * (j - 1).toNat + (k - 1).toNat : Nat) : Int) / 5 % 5 + 1) else decide (_ ∧ ((25 * (i - 1).toNat + 5 * (j - 1).toNat + (k - 1).toNat : Nat) : Int) / 5 % 5 + 1 < ((25 * (i - 1).toNat + 5 * (j - 1).toNat + (k - 1).toNat : Nat) : Int) % 5 + 1)) = false
                split
                · rename_i hh; rw [if_pos hh] at ho3; exact decide_eq_false (fun z => ho3 (by have z2 := z.2; rw [x1, x2] at z2; exact z2))
                · rename_i hh; rw [if_neg hh] at ho3; exact decide_eq_false (fun z => ho3 (by have z2 := z.2; rw [x1, x2] at z2; exact z2))⟩
              show rn _ _ _ _ _ = rn _ _ _ _ _
              refine (w_34_15 (by first | assumption | omega) (by first | assumption | omega)).trans ?_
              refine (if_neg (by omega)).trans ?_
              simp (maxSteps := 2000000) (disch := first | assumption | omega) only [aft_v, aft_n, aft_t, Nat.add_assoc, Nat.reduceAdd, if_true, if_false, not_true_eq_false, not_false_eq_true, Classical.not_not, Int.reduceAdd, Int.reduceSub, Int.reduceMul, Int.reduceNeg, Int.reduceLT, Int.reduceLE, Int.reduceEq, Int.add_zero, Int.zero_add, Int.sub_zero, w_34_16, w_34_17, w_34_18, w_34_20, hio, if_neg ho3, show ¬ (5 : Int) < k by omega]) 1 J (by omega) ⟨by omega, by rw [show 25 * (i - 1).toNat + 5 * (j - 1).toNat + ((1 : Int) - 1).toNat = 25 * (i - 1).toNat + 5 * (j - 1).toNat by omega]; exact h2⟩
          obtain ⟨J3, e3, -, hJ3⟩ := key3
          have e3 : rn 34 15 [some (.ref l), some (.ref q), some (.int (iI e)), some (.int (iI 3)), some (.int (iI i)), some (.int (iI j)), some (.int (iI 1))] [] (mk g J) = rn 34 15 [some (.ref l), some (.ref q), some (.int (iI e)), some (.int (iI 3)), some (.int (iI i)), some (.int (iI j)), some (.int (iI 6))] [] (mk g J3) := e3
          refine ⟨(J3, some (.int (iI 6))), ?_, by omega, by rw [show 25 * (i - 1).toNat + 5 * (j + 1 - 1).toNat = 25 * (i - 1).toNat + 5 * (j - 1).toNat + ((6 : Int) - 1).toNat by omega]; exact hJ3⟩
          show rn _ _ _ _ _ = rn _ _ _ _ _
          refine (w_34_7 (by first | assumption | omega) (by first | assumption | omega)).trans ?_
          refine (if_neg (by omega)).trans ?_
          simp (maxSteps := 2000000) (disch := first | assumption | omega) only [aft_v, aft_n, aft_t, Nat.add_assoc, Nat.reduceAdd, if_true, if_false, not_true_eq_false, not_false_eq_true, Classical.not_not, Int.reduceAdd, Int.reduceSub, Int.reduceMul, Int.reduceNeg, Int.reduceLT, Int.reduceLE, Int.reduceEq, Int.add_zero, Int.zero_add, Int.sub_zero, w_34_8, w_34_9, w_34_10, w_34_11, w_34_12, w_34_14, hio, if_pos ho, show ¬ (5 : Int) < j by omega, show ¬ (1 : Int) = 0 by decide]
          rw [e3]
          refine (w_34_15 (by first | assumption | omega) (by first | assumption | omega)).trans ?_
          refine (if_neg (by omega)).trans ?_
          simp (maxSteps := 2000000) (disch := first | assumption | omega) only [aft_v, aft_n, aft_t, Nat.add_assoc, Nat.reduceAdd, if_true, if_false, not_true_eq_false, not_false_eq_true, Classical.not_not, Int.reduceAdd, Int.reduceSub, Int.reduceMul, Int.reduceNeg, Int.reduceLT, Int.reduceLE, Int.reduceEq, Int.add_zero, Int.zero_add, Int.sub_zero, w_34_16, w_34_21]
        · refine ⟨(J, o6), ?_, by omega, by
            have : ∀ k : Nat, k ≤ 5 → LI (pv I q) l e (25 * (i - 1).toNat + 5 * (j - 1).toNat + k) I J := by
              intro k
              induction k with
              | zero => intro _; exact h2
              | succ k ih =>
                intro hk
                refine LI_skip (ih (by omega)) hr ⟨hs, s3⟩ ?_
                rw [hz, hs1]
                have x1 : (((25 * (i - 1).toNat + 5 * (j - 1).toNat + k : Nat) : Int)) / 5 % 5 + 1 = j := by omega
                have x2 : (((25 * (i - 1).toNat + 5 * (j - 1).toNat + k : Nat) : Int)) / 25 + 1 = i := by omega
                show (if I q 0 = 0 then decide (((25 * (i - 1).toNat + 5 * (j - 1).toNat + k : Nat) : Int) / 5 % 5 + 1 < ((25 * (i - 1).toNat + 5 * (j - 1).toNat + k : Nat) : Int) / 25 + 1 ∧ _) else decide (((25 * (i - 1).toNat + 5 * (j - 1).toNat + k : Nat) : Int) / 25 + 1 < ((25 * (i - 1).toNat + 5 * (j - 1).toNat + k : Nat) : Int) / 5 % 5 + 1 ∧ _)) = false
                split
                · rename_i hh; rw [if_pos hh] at ho; exact decide_eq_false (fun z => ho (by have z2 := z.1; rw [x1, x2] at z2; exact z2))
                · rename_i hh; rw [if_neg hh] at ho; exact decide_eq_false (fun z => ho (by have z2 := z.1; rw [x1, x2] at z2; exact z2))
            rw [show 25 * (i - 1).toNat + 5 * (j + 1 - 1).toNat = 25 * (i - 1).toNat + 5 * (j - 1).toNat + 5 by omega]
            exact this 5 (by omega)⟩
          show rn _ _ _ _ _ = rn _ _ _ _ _
          refine (w_34_7 (by first | assumption | omega) (by first | assumption | omega)).trans ?_
          refine (if_neg (by omega)).trans ?_
          simp (maxSteps := 2000000) (disch := first | assumption | omega) only [aft_v, aft_n, aft_t, Nat.add_assoc, Nat.reduceAdd, if_true, if_false, not_true_eq_false, not_false_eq_true, Classical.not_not, Int.reduceAdd, Int.reduceSub, Int.reduceMul, Int.reduceNeg, Int.reduceLT, Int.reduceLE, Int.reduceEq, Int.add_zero, Int.zero_add, Int.sub_zero, w_34_8, w_34_9, w_34_10, w_34_11, w_34_21, hio, if_neg ho, show ¬ (5 : Int) < j by omega]) 1 (J, o6) (by omega) ⟨by omega, by rw [show 25 * (i - 1).toNat + 5 * ((1 : Int) - 1).toNat = 25 * (i - 1).toNat by omega]; exact h2⟩
      obtain ⟨⟨J2, p6⟩, e2, -, hJ2⟩ := key2
      have e2 : rn 34 7 [some (.ref l), some (.ref q), some (.int (iI e)), some (.int (iI 3)), some (.int (iI i)), some (.int (iI 1)), o6] [] (mk g J) = rn 34 7 [some (.ref l), some (.ref q), some (.int (iI e)), some (.int (iI 3)), some (.int (iI i)), some (.int (iI 6)), p6] [] (mk g J2) := e2
      refine ⟨(J2, some (.int (iI 6)), p6), ?_, by omega, by rw [show 25 * (i + 1 - 1).toNat = 25 * (i - 1).toNat + 5 * ((6 : Int) - 1).toNat by omega]; exact hJ2⟩
      show rn _ _ _ _ _ = rn _ _ _ _ _
      refine (w_34_3 (by first | assumption | omega) (by first | assumption | omega)).trans ?_
      refine (if_neg (by omega)).trans ?_
      simp (maxSteps := 2000000) (disch := first | assumption | omega) only [aft_v, aft_n, aft_t, Nat.add_assoc, Nat.reduceAdd, if_true, if_false, not_true_eq_false, not_false_eq_true, Classical.not_not, Int.reduceAdd, Int.reduceSub, Int.reduceMul, Int.reduceNeg, Int.reduceLT, Int.reduceLE, Int.reduceEq, Int.add_zero, Int.zero_add, Int.sub_zero, w_34_4, w_34_5, w_34_6]
      rw [e2]
      refine (w_34_7 (by first | assumption | omega) (by first | assumption | omega)).trans ?_
      refine (if_neg (by omega)).trans ?_
      simp (maxSteps := 2000000) (disch := first | assumption | omega) only [aft_v, aft_n, aft_t, Nat.add_assoc, Nat.reduceAdd, if_true, if_false, not_true_eq_false, not_false_eq_true, Classical.not_not, Int.reduceAdd, Int.reduceSub, Int.reduceMul, Int.reduceNeg, Int.reduceLT, Int.reduceLE, Int.reduceEq, Int.add_zero, Int.zero_add, Int.sub_zero, w_34_8, w_34_22]) 1 (upd2 I (l + 2) e 0, none, none) (by omega) ⟨by omega, start⟩
    obtain ⟨⟨J, o5, o6⟩, e1, -, hJ⟩ := key
    refine ⟨J, ?_, by rw [hs1]; exact hJ⟩
    have e1 : rn 34 3 [some (.ref l), some (.ref q), some (.int (iI e)), some (.int (iI 3)), some (.int (iI 1)), none, none] [] (mk g (upd2 I (l + 2) e 0)) = rn 34 3 [some (.ref l), some (.ref q), some (.int (iI e)), some (.int (iI 3)), some (.int (iI 6)), o5, o6] [] (mk g J) := e1
    simp (maxSteps := 2000000) (disch := first | assumption | omega) only [aft_v, aft_n, aft_t, Nat.add_assoc, Nat.reduceAdd, if_true, if_false, not_true_eq_false, not_false_eq_true, Classical.not_not, Int.reduceAdd, Int.reduceSub, Int.reduceMul, Int.reduceNeg, Int.reduceLT, Int.reduceLE, Int.reduceEq, Int.add_zero, Int.zero_add, Int.sub_zero, c_34, w_34_0, w_34_1, w_34_2, s_row_put, s_row_get, u1, hs1]
    rw [e1]
    refine (w_34_3 (by first | assumption | omega) (by first | assumption | omega)).trans ?_
    refine (if_pos (by omega)).trans ?_
    simp (maxSteps := 2000000) (disch := first | assumption | omega) only [aft_v, aft_n, aft_t, Nat.add_assoc, Nat.reduceAdd, if_true, if_false, not_true_eq_false, not_false_eq_true, Classical.not_not, Int.reduceAdd, Int.reduceSub, Int.reduceMul, Int.reduceNeg, Int.reduceLT, Int.reduceLE, Int.reduceEq, Int.add_zero, Int.zero_add, Int.sub_zero, w_34_23]
end LST
