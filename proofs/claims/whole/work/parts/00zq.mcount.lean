/-! The reference: moves allowed, black notes, counts. -/
theorem mv_u {I : Mm} {m : Nat} {i v : Int} : mv (upd2 I m i v) m = mv I m := by
  have h : upd2 I m i v (m + 1) = I (m + 1) := funext fun j => upd2_p (by omega)
  unfold mv
  rw [h]
/-- the counts -/
noncomputable def ctS (P : PT) (c : Int) : Int := if c = 0 then pE P else if c = 1 then sumI (pSz P) (pE P) else if c = 2 then pR P else if c = 3 then lkS P (pE P) else if c = 4 then gkS P (pE P) else if c = 5 then blP P else fpP P
section MA
variable {g : Gm} {I : Mm} {m : Nat}
theorem s_canMove {d : Int} (hm : isM g m) (hW : Wf (mv I m)) (hd : (-2147483648 ≤ d ∧ d < 2147483648)) : cl 243 [.ref m, .int (iI d)] (mk g I) = some (.inl (some (.int (iI (if (-87 ≤ d ∧ d ≤ 87) ∧ (I (m + 1) 0 = 0 ∨ 21 ≤ lkS (mv I m) (I (m + 1) 0) + d ∧ gkS (mv I m) (I (m + 1) 0) + d ≤ 108) then 1 else 0)))), mk g I) := by
  have hm' := hm
  obtain ⟨t_0, ⟨t_1, d_1, n_1⟩, ⟨t_2, d_2, n_2⟩, ⟨t_3, d_3, n_3⟩, ⟨t_4, d_4, n_4⟩, ⟨t_5, d_5, n_5⟩, ⟨t_6, n_6⟩, ⟨t_7, d_7, n_7⟩, ⟨t_8, d_8, n_8⟩, ⟨t_9, d_9, n_9⟩, ⟨t_10, d_10, n_10⟩, ⟨t_11, d_11, n_11⟩, ⟨t_12, d_12, n_12⟩, ⟨t_13, d_13, n_13⟩, ⟨t_14, d_14, n_14⟩, ⟨t_15, n_15⟩, ⟨t_16, n_16⟩, ⟨t_17, d_17, n_17⟩, ⟨t_18, d_18, n_18⟩⟩ := hm
  have hn : 0 ≤ I (m + 1) 0 ∧ I (m + 1) 0 ≤ 40 := hW.2.1
  have lr := lk_rng hW hn.1 (Int.le_refl _)
  have gr := gk_rng hW hn.1 (Int.le_refl _)
  have lr : (I (m + 1) 0 = 0 → lkS (mv I m) (I (m + 1) 0) = -1) ∧ (1 ≤ I (m + 1) 0 → 21 ≤ lkS (mv I m) (I (m + 1) 0) ∧ lkS (mv I m) (I (m + 1) 0) ≤ 108) := lr
  have gr : (I (m + 1) 0 = 0 → gkS (mv I m) (I (m + 1) 0) = -1) ∧ (1 ≤ I (m + 1) 0 → 21 ≤ gkS (mv I m) (I (m + 1) 0) ∧ gkS (mv I m) (I (m + 1) 0) ≤ 108 ∧ lkS (mv I m) (I (m + 1) 0) ≤ gkS (mv I m) (I (m + 1) 0)) := gr
  have k0 := s_keysAt0 hm' hW
  have k1 := s_keysAt1 hm' hW
  generalize lkS (mv I m) (I (m + 1) 0) = l at *
  generalize gkS (mv I m) (I (m + 1) 0) = h at *
  by_cases hi : -87 ≤ d ∧ d ≤ 87
  · by_cases hz : I (m + 1) 0 = 0
    · rw [if_pos ⟨hi, Or.inl hz⟩]
      simp (maxSteps := 2000000) (disch := first | assumption | omega) only [aft_v, aft_n, aft_t, Nat.add_assoc, Nat.reduceAdd, if_true, if_false, not_true_eq_false, not_false_eq_true, Classical.not_not, Int.reduceAdd, Int.reduceSub, Int.reduceMul, Int.reduceNeg, Int.reduceLT, Int.reduceLE, Int.reduceEq, Int.add_zero, Int.zero_add, Int.sub_zero, c_243, w_243_0, w_243_1, w_243_2, w_243_3, w_243_4, w_243_5, w_243_6, w_243_7, w_243_8, w_243_9, w_243_10, w_243_11, w_243_12, s_isIn, s_events hm', if_pos hi, hz]
    · by_cases hl : 21 ≤ l + d
      · have hl2 : 21 ≤ l + d ∧ l + d ≤ 108 ∨ ¬ (l + d ≤ 108) := by omega
        by_cases hl3 : l + d ≤ 108
        · by_cases hg : h + d ≤ 108
          · rw [if_pos ⟨hi, Or.inr ⟨hl, hg⟩⟩]
            simp (maxSteps := 2000000) (disch := first | assumption | omega) only [aft_v, aft_n, aft_t, Nat.add_assoc, Nat.reduceAdd, if_true, if_false, not_true_eq_false, not_false_eq_true, Classical.not_not, Int.reduceAdd, Int.reduceSub, Int.reduceMul, Int.reduceNeg, Int.reduceLT, Int.reduceLE, Int.reduceEq, Int.add_zero, Int.zero_add, Int.sub_zero, c_243, w_243_0, w_243_1, w_243_2, w_243_3, w_243_4, w_243_5, w_243_6, w_243_7, w_243_8, w_243_9, w_243_10, w_243_11, w_243_12, s_isIn, s_events hm', if_pos hi, hz, k0, k1, s_isOnBoard, if_pos (show 21 ≤ l + d ∧ l + d ≤ 108 by omega), if_pos (show 21 ≤ h + d ∧ h + d ≤ 108 by omega)]
          · rw [if_neg (by omega)]
            simp (maxSteps := 2000000) (disch := first | assumption | omega) only [aft_v, aft_n, aft_t, Nat.add_assoc, Nat.reduceAdd, if_true, if_false, not_true_eq_false, not_false_eq_true, Classical.not_not, Int.reduceAdd, Int.reduceSub, Int.reduceMul, Int.reduceNeg, Int.reduceLT, Int.reduceLE, Int.reduceEq, Int.add_zero, Int.zero_add, Int.sub_zero, c_243, w_243_0, w_243_1, w_243_2, w_243_3, w_243_4, w_243_5, w_243_6, w_243_7, w_243_8, w_243_9, w_243_10, w_243_11, w_243_12, s_isIn, s_events hm', if_pos hi, hz, k0, k1, s_isOnBoard, if_pos (show 21 ≤ l + d ∧ l + d ≤ 108 by omega), if_neg (show ¬ (21 ≤ h + d ∧ h + d ≤ 108) by omega)]
        · rw [if_neg (by omega)]
          simp (maxSteps := 2000000) (disch := first | assumption | omega) only [aft_v, aft_n, aft_t, Nat.add_assoc, Nat.reduceAdd, if_true, if_false, not_true_eq_false, not_false_eq_true, Classical.not_not, Int.reduceAdd, Int.reduceSub, Int.reduceMul, Int.reduceNeg, Int.reduceLT, Int.reduceLE, Int.reduceEq, Int.add_zero, Int.zero_add, Int.sub_zero, c_243, w_243_0, w_243_1, w_243_2, w_243_3, w_243_4, w_243_5, w_243_6, w_243_7, w_243_8, w_243_9, w_243_10, w_243_11, w_243_12, s_isIn, s_events hm', if_pos hi, hz, k0, k1, s_isOnBoard, if_neg (show ¬ (21 ≤ l + d ∧ l + d ≤ 108) by omega)]
      · rw [if_neg (by omega)]
        simp (maxSteps := 2000000) (disch := first | assumption | omega) only [aft_v, aft_n, aft_t, Nat.add_assoc, Nat.reduceAdd, if_true, if_false, not_true_eq_false, not_false_eq_true, Classical.not_not, Int.reduceAdd, Int.reduceSub, Int.reduceMul, Int.reduceNeg, Int.reduceLT, Int.reduceLE, Int.reduceEq, Int.add_zero, Int.zero_add, Int.sub_zero, c_243, w_243_0, w_243_1, w_243_2, w_243_3, w_243_4, w_243_5, w_243_6, w_243_7, w_243_8, w_243_9, w_243_10, w_243_11, w_243_12, s_isIn, s_events hm', if_pos hi, hz, k0, k1, s_isOnBoard, if_neg (show ¬ (21 ≤ l + d ∧ l + d ≤ 108) by omega)]
  · rw [if_neg (fun z => hi z.1)]
    simp (maxSteps := 2000000) (disch := first | assumption | omega) only [aft_v, aft_n, aft_t, Nat.add_assoc, Nat.reduceAdd, if_true, if_false, not_true_eq_false, not_false_eq_true, Classical.not_not, Int.reduceAdd, Int.reduceSub, Int.reduceMul, Int.reduceNeg, Int.reduceLT, Int.reduceLE, Int.reduceEq, Int.add_zero, Int.zero_add, Int.sub_zero, c_243, w_243_0, w_243_1, w_243_2, w_243_3, w_243_4, w_243_5, w_243_6, w_243_7, w_243_8, w_243_9, w_243_10, w_243_11, w_243_12, s_isIn, if_neg hi]
theorem s_blacks (hm : isM g m) (hW : Wf (mv I m)) : cl 217 [.ref m] (mk g I) = some (.inl (some (.int (iI (blP (mv I m))))), mk g I) := by
  have hm' := hm
  obtain ⟨t_0, ⟨t_1, d_1, n_1⟩, ⟨t_2, d_2, n_2⟩, ⟨t_3, d_3, n_3⟩, ⟨t_4, d_4, n_4⟩, ⟨t_5, d_5, n_5⟩, ⟨t_6, n_6⟩, ⟨t_7, d_7, n_7⟩, ⟨t_8, d_8, n_8⟩, ⟨t_9, d_9, n_9⟩, ⟨t_10, d_10, n_10⟩, ⟨t_11, d_11, n_11⟩, ⟨t_12, d_12, n_12⟩, ⟨t_13, d_13, n_13⟩, ⟨t_14, d_14, n_14⟩, ⟨t_15, n_15⟩, ⟨t_16, n_16⟩, ⟨t_17, d_17, n_17⟩, ⟨t_18, d_18, n_18⟩⟩ := hm
  have hn : 0 ≤ I (m + 1) 0 ∧ I (m + 1) 0 ≤ 40 := hW.2.1
  have hsz : ∀ i, 0 ≤ i → i < I (m + 1) 0 → 1 ≤ I (m + 1) (42 + 8 * i) ∧ I (m + 1) (42 + 8 * i) ≤ 3 := fun i a b => (hW.2.2.1 i a b).1
  have blb : ∀ i, 0 ≤ i → i < I (m + 1) 0 → 0 ≤ blE (mv I m) i ∧ blE (mv I m) i ≤ 3 := fun i a b => by
    have h2 := hsz i a b
    have := sumI_b (f := fun k => bkI (pKy (mv I m) i k)) (A := 0) (B := 1) (n := I (m + 1) (42 + 8 * i)) (by omega) (fun k _ _ => bkI_b)
    show 0 ≤ sumI (fun k => bkI (pKy (mv I m) i k)) (I (m + 1) (42 + 8 * i)) ∧ sumI (fun k => bkI (pKy (mv I m) i k)) (I (m + 1) (42 + 8 * i)) ≤ 3
    omega
  have key := loop_up (σ := Option Value) (head := fun i o => rn 217 1 [some (.ref m), some (.int (iI (sumI (blE (mv I m)) i))), some (.int (iI i)), o] [] (mk g I)) (Inv := fun i _ => 0 ≤ i) (n := I (m + 1) 0) (by
    intro i o hi h
    have hb := sumI_b (f := blE (mv I m)) (A := 0) (B := 3) (n := i) h (fun j a b => blb j a (by omega))
    have h2 := hsz i h hi
    have inner := loop_up (σ := Unit) (head := fun k _ => rn 217 4 [some (.ref m), some (.int (iI (sumI (blE (mv I m)) i + sumI (fun k => bkI (I (m + 1) (42 + 8 * i + 2 + k))) k))), some (.int (iI i)), some (.int (iI k))] [] (mk g I)) (Inv := fun k _ => 0 ≤ k) (n := I (m + 1) (42 + 8 * i)) (by
      intro k _ hk k0
      have hkb : 21 ≤ I (m + 1) (42 + 8 * i + 2 + k) ∧ I (m + 1) (42 + 8 * i + 2 + k) ≤ 108 := ((hW.2.2.1 i h hi).2.2.1 k k0 hk).1
      refine ⟨(), ?_, by omega⟩
      show rn _ _ _ _ _ = rn _ _ _ _ _
      rw [sumI_s k0, ← Int.add_assoc]
      have hbl := s_isBlackM (g := g) (I := I) (a := I (m + 1) (42 + 8 * i + 2 + k)) (by omega)
      refine (w_217_4 (by first | assumption | omega)).trans ?_
      by_cases hc : I (m + 1) (42 + 8 * i + 2 + k) % 12 = 1 ∨ I (m + 1) (42 + 8 * i + 2 + k) % 12 = 3 ∨ I (m + 1) (42 + 8 * i + 2 + k) % 12 = 6 ∨ I (m + 1) (42 + 8 * i + 2 + k) % 12 = 8 ∨ I (m + 1) (42 + 8 * i + 2 + k) % 12 = 10
      · have hz : bkI (I (m + 1) (42 + 8 * i + 2 + k)) = 1 := if_pos hc
        rw [hz] at hbl ⊢
        simp (maxSteps := 2000000) (disch := first | assumption | omega) only [aft_v, aft_n, aft_t, Nat.add_assoc, Nat.reduceAdd, if_true, if_false, not_true_eq_false, not_false_eq_true, Classical.not_not, Int.reduceAdd, Int.reduceSub, Int.reduceMul, Int.reduceNeg, Int.reduceLT, Int.reduceLE, Int.reduceEq, Int.add_zero, Int.zero_add, Int.sub_zero, w_217_5, w_217_6, w_217_7, w_217_8, w_217_9, w_217_10, w_217_11, s_notesOf hm', if_neg (show ¬ I (m + 1) (42 + 8 * i) ≤ k by omega), s_keyOfM hm', hbl]
      · have hz : bkI (I (m + 1) (42 + 8 * i + 2 + k)) = 0 := if_neg hc
        rw [hz] at hbl ⊢
        simp (maxSteps := 2000000) (disch := first | assumption | omega) only [aft_v, aft_n, aft_t, Nat.add_assoc, Nat.reduceAdd, if_true, if_false, not_true_eq_false, not_false_eq_true, Classical.not_not, Int.reduceAdd, Int.reduceSub, Int.reduceMul, Int.reduceNeg, Int.reduceLT, Int.reduceLE, Int.reduceEq, Int.add_zero, Int.zero_add, Int.sub_zero, w_217_5, w_217_6, w_217_7, w_217_8, w_217_9, w_217_10, w_217_11, s_notesOf hm', if_neg (show ¬ I (m + 1) (42 + 8 * i) ≤ k by omega), s_keyOfM hm', hbl]) 0 () (by omega) (by omega)
    obtain ⟨-, e1, -⟩ := inner
    have e1 : rn 217 4 [some (.ref m), some (.int (iI (sumI (blE (mv I m)) i + 0))), some (.int (iI i)), some (.int (iI 0))] [] (mk g I) = rn 217 4 [some (.ref m), some (.int (iI (sumI (blE (mv I m)) i + blE (mv I m) i))), some (.int (iI i)), some (.int (iI (I (m + 1) (42 + 8 * i))))] [] (mk g I) := e1
    rw [Int.add_zero] at e1
    refine ⟨some (.int (iI (I (m + 1) (42 + 8 * i)))), ?_, by omega⟩
    show rn _ _ _ _ _ = rn _ _ _ _ _
    rw [sumI_s h]
    refine (w_217_1 (by first | assumption | omega)).trans ?_
    simp (maxSteps := 2000000) (disch := first | assumption | omega) only [aft_v, aft_n, aft_t, Nat.add_assoc, Nat.reduceAdd, if_true, if_false, not_true_eq_false, not_false_eq_true, Classical.not_not, Int.reduceAdd, Int.reduceSub, Int.reduceMul, Int.reduceNeg, Int.reduceLT, Int.reduceLE, Int.reduceEq, Int.add_zero, Int.zero_add, Int.sub_zero, w_217_2, w_217_3, s_events hm', if_neg (show ¬ I (m + 1) 0 ≤ i by omega)]
    rw [e1]
    refine (w_217_4 (by first | assumption | omega)).trans ?_
    simp (maxSteps := 2000000) (disch := first | assumption | omega) only [aft_v, aft_n, aft_t, Nat.add_assoc, Nat.reduceAdd, if_true, if_false, not_true_eq_false, not_false_eq_true, Classical.not_not, Int.reduceAdd, Int.reduceSub, Int.reduceMul, Int.reduceNeg, Int.reduceLT, Int.reduceLE, Int.reduceEq, Int.add_zero, Int.zero_add, Int.sub_zero, w_217_5, w_217_12, s_notesOf hm', if_pos (Int.le_refl (I (m + 1) (42 + 8 * i)))]) 0 none (by omega) (by omega)
  obtain ⟨o, e, -⟩ := key
  have e : rn 217 1 [some (.ref m), some (.int (iI 0)), some (.int (iI 0)), none] [] (mk g I) = rn 217 1 [some (.ref m), some (.int (iI (blP (mv I m)))), some (.int (iI (I (m + 1) 0))), o] [] (mk g I) := e
  refine c_217.trans ?_
  refine (w_217_0).trans ?_
  refine e.trans ?_
  refine (w_217_1 (by first | assumption | omega)).trans ?_
  simp (maxSteps := 2000000) (disch := first | assumption | omega) only [aft_v, aft_n, aft_t, Nat.add_assoc, Nat.reduceAdd, if_true, if_false, not_true_eq_false, not_false_eq_true, Classical.not_not, Int.reduceAdd, Int.reduceSub, Int.reduceMul, Int.reduceNeg, Int.reduceLT, Int.reduceLE, Int.reduceEq, Int.add_zero, Int.zero_add, Int.sub_zero, w_217_2, w_217_13, s_events hm', if_pos (Int.le_refl (I (m + 1) 0))]
end MA
