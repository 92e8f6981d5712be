/-! The reference: free passages, least and greatest key, moves. -/
section MA
variable {g : Gm} {I : Mm} {m : Nat}
theorem s_freePassagesM (hm : isM g m) (hW : Wf (mv I m)) : cl 218 [.ref m] (mk g I) = some (.inl (some (.int (iI (fpP (mv I m))))), mk g I) := by
  have hm' := hm
  obtain ⟨t_0, ⟨t_1, d_1, n_1⟩, ⟨t_2, d_2, n_2⟩, ⟨t_3, d_3, n_3⟩, ⟨t_4, d_4, n_4⟩, ⟨t_5, d_5, n_5⟩, ⟨t_6, n_6⟩, ⟨t_7, d_7, n_7⟩, ⟨t_8, d_8, n_8⟩, ⟨t_9, d_9, n_9⟩, ⟨t_10, d_10, n_10⟩, ⟨t_11, d_11, n_11⟩, ⟨t_12, d_12, n_12⟩, ⟨t_13, d_13, n_13⟩, ⟨t_14, d_14, n_14⟩, ⟨t_15, n_15⟩, ⟨t_16, n_16⟩, ⟨t_17, d_17, n_17⟩, ⟨t_18, d_18, n_18⟩⟩ := hm
  have hn : 0 ≤ I (m + 1) 0 ∧ I (m + 1) 0 ≤ 40 := hW.2.1
  have h8 : 0 ≤ I (m + 1) (2 + 8) ∧ I (m + 1) (2 + 8) ≤ 99 := hW.2.2.2.1 8 (by decide) (by decide)
  by_cases hz : I (m + 1) 0 = 0
  · have : fpP (mv I m) = 0 := by
      unfold fpP
      rw [show pE (mv I m) = I (m + 1) 0 from rfl, hz]; rfl
    rw [this]
    refine c_218.trans ?_
    refine (w_218_0).trans ?_
    refine (w_218_1 (by first | assumption | omega)).trans ?_
    simp (maxSteps := 2000000) (disch := first | assumption | omega) only [aft_v, aft_n, aft_t, Nat.add_assoc, Nat.reduceAdd, if_true, if_false, not_true_eq_false, not_false_eq_true, Classical.not_not, Int.reduceAdd, Int.reduceSub, Int.reduceMul, Int.reduceNeg, Int.reduceLT, Int.reduceLE, Int.reduceEq, Int.add_zero, Int.zero_add, Int.sub_zero, w_218_2, w_218_8, s_events hm', hz]
  have key := loop_up (σ := Unit) (head := fun i _ => rn 218 1 [some (.ref m), some (.int (iI (sumI (fpE (mv I m)) i))), some (.int (iI i))] [] (mk g I)) (Inv := fun i _ => 0 ≤ i) (n := I (m + 1) 0 - 1) (by
    intro i s hi h
    have hb := sumI_b (f := fpE (mv I m)) (A := 0) (B := 1) (n := i) h (fun i _ _ => by unfold fpE; split <;> omega)
    have hf : fpE (mv I m) i = if I (m + 1) (2 + 8) ≤ I (m + 1) (42 + 8 * i + 1) then 1 else 0 := rfl
    have hr : 0 ≤ I (m + 1) (42 + 8 * i + 1) ∧ I (m + 1) (42 + 8 * i + 1) ≤ 9 := (hW.2.2.1 i h (by show i < I (m + 1) 0; omega)).2.1
    have hq := s_isFreeM (I := I) (e := i) hm' (by omega) (by omega) (by omega)
    rw [← hf] at hq
    have hc : fpE (mv I m) i = 0 ∨ fpE (mv I m) i = 1 := by unfold fpE; split <;> omega
    refine ⟨(), ?_, by omega⟩
    show rn _ _ _ _ _ = rn _ _ _ _ _
    rw [sumI_s h]
    refine (w_218_1 (by first | assumption | omega)).trans ?_
    rcases hc with hc | hc
    · rw [hc] at hq ⊢
      simp (maxSteps := 2000000) (disch := first | assumption | omega) only [aft_v, aft_n, aft_t, Nat.add_assoc, Nat.reduceAdd, if_true, if_false, not_true_eq_false, not_false_eq_true, Classical.not_not, Int.reduceAdd, Int.reduceSub, Int.reduceMul, Int.reduceNeg, Int.reduceLT, Int.reduceLE, Int.reduceEq, Int.add_zero, Int.zero_add, Int.sub_zero, w_218_2, w_218_3, w_218_4, w_218_5, w_218_6, w_218_7, s_events hm', hq, if_neg (show ¬ I (m + 1) 0 ≤ i + 1 by omega)]
    · rw [hc] at hq ⊢
      simp (maxSteps := 2000000) (disch := first | assumption | omega) only [aft_v, aft_n, aft_t, Nat.add_assoc, Nat.reduceAdd, if_true, if_false, not_true_eq_false, not_false_eq_true, Classical.not_not, Int.reduceAdd, Int.reduceSub, Int.reduceMul, Int.reduceNeg, Int.reduceLT, Int.reduceLE, Int.reduceEq, Int.add_zero, Int.zero_add, Int.sub_zero, w_218_2, w_218_3, w_218_4, w_218_5, w_218_6, w_218_7, s_events hm', hq, if_neg (show ¬ I (m + 1) 0 ≤ i + 1 by omega)]) 0 () (by omega) (by omega)
  obtain ⟨-, e, -⟩ := key
  have e : rn 218 1 [some (.ref m), some (.int (iI 0)), some (.int (iI 0))] [] (mk g I) = rn 218 1 [some (.ref m), some (.int (iI (fpP (mv I m)))), some (.int (iI (I (m + 1) 0 - 1)))] [] (mk g I) := e
  refine c_218.trans ?_
  refine (w_218_0).trans ?_
  refine e.trans ?_
  refine (w_218_1 (by first | assumption | omega)).trans ?_
  simp (maxSteps := 2000000) (disch := first | assumption | omega) only [aft_v, aft_n, aft_t, Nat.add_assoc, Nat.reduceAdd, if_true, if_false, not_true_eq_false, not_false_eq_true, Classical.not_not, Int.reduceAdd, Int.reduceSub, Int.reduceMul, Int.reduceNeg, Int.reduceLT, Int.reduceLE, Int.reduceEq, Int.add_zero, Int.zero_add, Int.sub_zero, w_218_2, w_218_8, s_events hm', if_pos (show I (m + 1) 0 ≤ I (m + 1) 0 - 1 + 1 by omega)]
/-- the reference's fold over all keys: h = 0 the least, h = 1 the greatest -/
theorem s_keysAt {h : Int} {W : Int → Int} {V : Int → Int → Int} (hm : isM g m) (hW : Wf (mv I m)) (hh : h = 0 ∨ h = 1) (hV : ∀ i k, 0 ≤ i → i < I (m + 1) 0 → 0 ≤ k → k ≤ I (m + 1) (42 + 8 * i) → -1 ≤ V i k ∧ V i k ≤ 108)
    (hW0 : W 0 = -1) (hV0 : ∀ i, 0 ≤ i → i < I (m + 1) 0 → V i 0 = W i) (hVn : ∀ i, 0 ≤ i → i < I (m + 1) 0 → V i (I (m + 1) (42 + 8 * i)) = W (i + 1))
    (hs : ∀ i k, 0 ≤ i → i < I (m + 1) 0 → 0 ≤ k → k < I (m + 1) (42 + 8 * i) → ∀ x, x = (if V i k = -1 then I (m + 1) (42 + 8 * i + 2 + k) else V i k) → V i (k + 1) = if h = 0 then min x (I (m + 1) (42 + 8 * i + 2 + k)) else max x (I (m + 1) (42 + 8 * i + 2 + k))) :
    cl 216 [.ref m, .int (iI h)] (mk g I) = some (.inl (some (.int (iI (W (I (m + 1) 0))))), mk g I) := by
  have hm' := hm
  obtain ⟨t_0, ⟨t_1, d_1, n_1⟩, ⟨t_2, d_2, n_2⟩, ⟨t_3, d_3, n_3⟩, ⟨t_4, d_4, n_4⟩, ⟨t_5, d_5, n_5⟩, ⟨t_6, n_6⟩, ⟨t_7, d_7, n_7⟩, ⟨t_8, d_8, n_8⟩, ⟨t_9, d_9, n_9⟩, ⟨t_10, d_10, n_10⟩, ⟨t_11, d_11, n_11⟩, ⟨t_12, d_12, n_12⟩, ⟨t_13, d_13, n_13⟩, ⟨t_14, d_14, n_14⟩, ⟨t_15, n_15⟩, ⟨t_16, n_16⟩, ⟨t_17, d_17, n_17⟩, ⟨t_18, d_18, n_18⟩⟩ := hm
  have hn : 0 ≤ I (m + 1) 0 ∧ I (m + 1) 0 ≤ 40 := hW.2.1
  have key := loop_up (σ := Option Value) (head := fun i o => rn 216 1 [some (.ref m), some (.int (iI h)), some (.int (iI (W i))), some (.int (iI i)), o] [] (mk g I)) (Inv := fun i _ => 0 ≤ i) (n := I (m + 1) 0) (by
    intro i o hi hi0
    have hw := hW.2.2.1 i hi0 hi
    have hz : 1 ≤ I (m + 1) (42 + 8 * i) ∧ I (m + 1) (42 + 8 * i) ≤ 3 := hw.1
    have inner := loop_up (σ := Unit) (head := fun k _ => rn 216 4 [some (.ref m), some (.int (iI h)), some (.int (iI (V i k))), some (.int (iI i)), some (.int (iI k))] [] (mk g I)) (Inv := fun k _ => 0 ≤ k) (n := I (m + 1) (42 + 8 * i)) (by
      intro k _ hk k0
      have hb := hV i k hi0 hi k0 (by omega)
      have hb1 := hV i (k + 1) hi0 hi (by omega) (by omega)
      have hkb : 21 ≤ I (m + 1) (42 + 8 * i + 2 + k) ∧ I (m + 1) (42 + 8 * i + 2 + k) ≤ 108 := (hw.2.2.1 k k0 hk).1
      refine ⟨(), ?_, by omega⟩
      show rn _ _ _ _ _ = rn _ _ _ _ _
      rw [hs i k hi0 hi k0 hk _ rfl]
      refine (w_216_4 (by first | assumption | omega)).trans ?_
      rcases hh with rfl | rfl
      · by_cases hq : V i k = -1
        · rw [if_pos hq, if_pos rfl]
          simp (maxSteps := 2000000) (disch := first | assumption | omega) only [aft_v, aft_n, aft_t, Nat.add_assoc, Nat.reduceAdd, if_true, if_false, not_true_eq_false, not_false_eq_true, Classical.not_not, Int.reduceAdd, Int.reduceSub, Int.reduceMul, Int.reduceNeg, Int.reduceLT, Int.reduceLE, Int.reduceEq, Int.add_zero, Int.zero_add, Int.sub_zero, w_216_5, w_216_6, w_216_7, w_216_8, w_216_9, w_216_12, w_216_13, w_216_14, s_notesOf hm', s_keyOfM hm', hq, if_neg (show ¬ I (m + 1) (42 + 8 * i) ≤ k by omega)]
        · rw [if_neg hq, if_pos rfl]
          simp (maxSteps := 2000000) (disch := first | assumption | omega) only [aft_v, aft_n, aft_t, Nat.add_assoc, Nat.reduceAdd, if_true, if_false, not_true_eq_false, not_false_eq_true, Classical.not_not, Int.reduceAdd, Int.reduceSub, Int.reduceMul, Int.reduceNeg, Int.reduceLT, Int.reduceLE, Int.reduceEq, Int.add_zero, Int.zero_add, Int.sub_zero, w_216_5, w_216_6, w_216_7, w_216_8, w_216_9, w_216_12, w_216_13, w_216_14, s_notesOf hm', s_keyOfM hm', hq, if_neg (show ¬ I (m + 1) (42 + 8 * i) ≤ k by omega)]
      · by_cases hq : V i k = -1
        · rw [if_pos hq, if_neg (by decide)]
          simp (maxSteps := 2000000) (disch := first | assumption | omega) only [aft_v, aft_n, aft_t, Nat.add_assoc, Nat.reduceAdd, if_true, if_false, not_true_eq_false, not_false_eq_true, Classical.not_not, Int.reduceAdd, Int.reduceSub, Int.reduceMul, Int.reduceNeg, Int.reduceLT, Int.reduceLE, Int.reduceEq, Int.add_zero, Int.zero_add, Int.sub_zero, w_216_5, w_216_6, w_216_7, w_216_8, w_216_9, w_216_10, w_216_11, w_216_14, s_notesOf hm', s_keyOfM hm', hq, if_neg (show ¬ I (m + 1) (42 + 8 * i) ≤ k by omega), show ¬ (1 : Int) = 0 by decide]
        · rw [if_neg hq, if_neg (by decide)]
          simp (maxSteps := 2000000) (disch := first | assumption | omega) only [aft_v, aft_n, aft_t, Nat.add_assoc, Nat.reduceAdd, if_true, if_false, not_true_eq_false, not_false_eq_true, Classical.not_not, Int.reduceAdd, Int.reduceSub, Int.reduceMul, Int.reduceNeg, Int.reduceLT, Int.reduceLE, Int.reduceEq, Int.add_zero, Int.zero_add, Int.sub_zero, w_216_5, w_216_6, w_216_7, w_216_8, w_216_9, w_216_10, w_216_11, w_216_14, s_notesOf hm', s_keyOfM hm', hq, if_neg (show ¬ I (m + 1) (42 + 8 * i) ≤ k by omega), show ¬ (1 : Int) = 0 by decide]) 0 () (by omega) (by omega)
    obtain ⟨-, e1, -⟩ := inner
    have e1 : rn 216 4 [some (.ref m), some (.int (iI h)), some (.int (iI (V i 0))), some (.int (iI i)), some (.int (iI 0))] [] (mk g I) = rn 216 4 [some (.ref m), some (.int (iI h)), some (.int (iI (V i (I (m + 1) (42 + 8 * i))))), some (.int (iI i)), some (.int (iI (I (m + 1) (42 + 8 * i))))] [] (mk g I) := e1
    rw [hV0 i hi0 hi, hVn i hi0 hi] at e1
    refine ⟨some (.int (iI (I (m + 1) (42 + 8 * i)))), ?_, by omega⟩
    show rn _ _ _ _ _ = rn _ _ _ _ _
    refine (w_216_1 (by first | assumption | omega)).trans ?_
    simp (maxSteps := 2000000) (disch := first | assumption | omega) only [aft_v, aft_n, aft_t, Nat.add_assoc, Nat.reduceAdd, if_true, if_false, not_true_eq_false, not_false_eq_true, Classical.not_not, Int.reduceAdd, Int.reduceSub, Int.reduceMul, Int.reduceNeg, Int.reduceLT, Int.reduceLE, Int.reduceEq, Int.add_zero, Int.zero_add, Int.sub_zero, w_216_2, w_216_3, s_events hm', if_neg (show ¬ I (m + 1) 0 ≤ i by omega)]
    rw [e1]
    refine (w_216_4 (by first | assumption | omega)).trans ?_
    simp (maxSteps := 2000000) (disch := first | assumption | omega) only [aft_v, aft_n, aft_t, Nat.add_assoc, Nat.reduceAdd, if_true, if_false, not_true_eq_false, not_false_eq_true, Classical.not_not, Int.reduceAdd, Int.reduceSub, Int.reduceMul, Int.reduceNeg, Int.reduceLT, Int.reduceLE, Int.reduceEq, Int.add_zero, Int.zero_add, Int.sub_zero, w_216_5, w_216_15, s_notesOf hm', if_pos (Int.le_refl (I (m + 1) (42 + 8 * i)))]) 0 none (by omega) (by omega)
  obtain ⟨o, e, -⟩ := key
  have e : rn 216 1 [some (.ref m), some (.int (iI h)), some (.int (iI (W 0))), some (.int (iI 0)), none] [] (mk g I) = rn 216 1 [some (.ref m), some (.int (iI h)), some (.int (iI (W (I (m + 1) 0)))), some (.int (iI (I (m + 1) 0))), o] [] (mk g I) := e
  rw [hW0] at e
  refine c_216.trans ?_
  refine (w_216_0).trans ?_
  refine e.trans ?_
  refine (w_216_1 (by first | assumption | omega)).trans ?_
  simp (maxSteps := 2000000) (disch := first | assumption | omega) only [aft_v, aft_n, aft_t, Nat.add_assoc, Nat.reduceAdd, if_true, if_false, not_true_eq_false, not_false_eq_true, Classical.not_not, Int.reduceAdd, Int.reduceSub, Int.reduceMul, Int.reduceNeg, Int.reduceLT, Int.reduceLE, Int.reduceEq, Int.add_zero, Int.zero_add, Int.sub_zero, w_216_2, w_216_16, s_events hm', if_pos (Int.le_refl (I (m + 1) 0))]
end MA
