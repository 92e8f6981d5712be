/-! The reference: events and passages. -/
theorem may_eq {s f : Int} (hs : 0 ≤ s ∧ s ≤ 31) (hf : 1 ≤ f ∧ f ≤ 5) : andI (shrI s (f - 1)) 1 = 0 ↔ andI s (bitF f) = 0 := by
  have key : ∀ (n : Fin 32) (m : Fin 5), decide (andI (shrI (n.val : Int) (m.val : Int)) 1 = 0) = decide (andI (n.val : Int) (bitF ((m.val : Int) + 1)) = 0) := by decide +kernel
  have := key ⟨s.toNat, by omega⟩ ⟨(f - 1).toNat, by omega⟩
  rw [show ((s.toNat : Nat) : Int) = s by omega, show (((f - 1).toNat : Nat) : Int) = f - 1 by omega, show f - 1 + 1 = f by omega] at this
  exact decide_eq_decide.mp this
section ME
variable {g : Gm} {I : Mm} {m : Nat}
theorem s_isInOrder {n : Int} (hm : isM g m) (hr : I (m + 1) 1 = 0 ∨ I (m + 1) 1 = 1) (hn : 1 ≤ n ∧ n ≤ 3) (hf : ∀ k, 0 ≤ k → k < n → 1 ≤ I (m + 8) k ∧ I (m + 8) k ≤ 5) :
    cl 196 [.ref m, .int (iI n)] (mk g I) = some (.inl (some (.int (iI (if (2 ≤ n → (if I (m + 1) 1 = 0 then I (m + 8) 1 < I (m + 8) 0 else I (m + 8) 0 < I (m + 8) 1)) ∧ (3 ≤ n → (if I (m + 1) 1 = 0 then I (m + 8) 2 < I (m + 8) 1 else I (m + 8) 1 < I (m + 8) 2)) then 1 else 0)))), mk g I) := by
  obtain ⟨t_0, ⟨t_1, d_1, n_1⟩, ⟨t_2, d_2, n_2⟩, ⟨t_3, d_3, n_3⟩, ⟨t_4, d_4, n_4⟩, ⟨t_5, d_5, n_5⟩, ⟨t_6, n_6⟩, ⟨t_7, d_7, n_7⟩, ⟨t_8, d_8, n_8⟩, ⟨t_9, d_9, n_9⟩, ⟨t_10, d_10, n_10⟩, ⟨t_11, d_11, n_11⟩, ⟨t_12, d_12, n_12⟩, ⟨t_13, d_13, n_13⟩, ⟨t_14, d_14, n_14⟩, ⟨t_15, n_15⟩, ⟨t_16, n_16⟩, ⟨t_17, d_17, n_17⟩, ⟨t_18, d_18, n_18⟩⟩ := hm
  have step : ∀ k, 1 ≤ k → k < n → rn 196 1 [some (.ref m), some (.int (iI n)), some (.int (iI k))] [] (mk g I) = if (if I (m + 1) 1 = 0 then I (m + 8) k < I (m + 8) (k - 1) else I (m + 8) (k - 1) < I (m + 8) k) then rn 196 1 [some (.ref m), some (.int (iI n)), some (.int (iI (k + 1)))] [] (mk g I) else some (.inl (some (.int (iI 0))), mk g I) := by
    intro k k0 k1
    have h1 := hf k (by omega) k1
    have h0 := hf (k - 1) (by omega) (by omega)
    refine (w_196_1 (by first | assumption | omega) (by first | assumption | omega) (by first | assumption | omega) (by first | assumption | omega)).trans ?_
    rw [if_neg (by omega)]
    refine (w_196_2 (by first | assumption | omega) (by first | assumption | omega) (by first | assumption | omega) (by first | assumption | omega) (by first | assumption | omega)).trans ?_
    rcases hr with hr | hr
    · refine (if_pos (by omega)).trans ?_
      refine (w_196_5 (by first | assumption | omega) (by first | assumption | omega) (by first | assumption | omega) (by first | assumption | omega) (by first | assumption | omega) (by first | assumption | omega) (by first | assumption | omega) (by first | assumption | omega) (by first | assumption | omega) (by first | assumption | omega) (by first | assumption | omega) (by first | assumption | omega)).trans ?_
      by_cases c1 : I (m + 8) k < I (m + 8) (k - 1)
      · rw [if_pos c1, if_pos (by rw [if_pos hr]; exact c1)]; exact w_196_7
      · rw [if_neg c1, if_neg (by rw [if_pos hr]; exact c1)]; exact w_196_6
    · refine (if_neg (by omega)).trans ?_
      refine (w_196_3 (by first | assumption | omega) (by first | assumption | omega) (by first | assumption | omega) (by first | assumption | omega) (by first | assumption | omega) (by first | assumption | omega) (by first | assumption | omega) (by first | assumption | omega) (by first | assumption | omega) (by first | assumption | omega) (by first | assumption | omega) (by first | assumption | omega)).trans ?_
      by_cases c1 : I (m + 8) (k - 1) < I (m + 8) k
      · rw [if_pos c1, if_pos (by rw [if_neg (by omega)]; exact c1)]; exact w_196_7
      · rw [if_neg c1, if_neg (by rw [if_neg (by omega)]; exact c1)]
        refine (w_196_4).trans ?_
        exact w_196_6
  have last : rn 196 1 [some (.ref m), some (.int (iI n)), some (.int (iI n))] [] (mk g I) = some (.inl (some (.int (iI 1))), mk g I) := by
    refine (w_196_1 (by first | assumption | omega) (by first | assumption | omega) (by first | assumption | omega) (by first | assumption | omega)).trans ?_
    rw [if_pos (Int.le_refl n)]
    exact w_196_8
  refine c_196.trans ?_
  refine (w_196_0).trans ?_
  by_cases n2 : 2 ≤ n
  · rw [step 1 (by decide) (by omega)]
    by_cases c1 : (if I (m + 1) 1 = 0 then I (m + 8) 1 < I (m + 8) 0 else I (m + 8) 0 < I (m + 8) 1)
    · rw [if_pos (show (if I (m + 1) 1 = 0 then I (m + 8) 1 < I (m + 8) (1 - 1) else I (m + 8) (1 - 1) < I (m + 8) 1) from c1)]
      by_cases n3 : 3 ≤ n
      · rw [show (1 : Int) + 1 = 2 from rfl, step 2 (by decide) (by omega)]
        by_cases c2 : (if I (m + 1) 1 = 0 then I (m + 8) 2 < I (m + 8) 1 else I (m + 8) 1 < I (m + 8) 2)
        · rw [if_pos (show (if I (m + 1) 1 = 0 then I (m + 8) 2 < I (m + 8) (2 - 1) else I (m + 8) (2 - 1) < I (m + 8) 2) from c2), if_pos ⟨fun _ => c1, fun _ => c2⟩, show (2 : Int) + 1 = n by omega]
          exact last
        · rw [if_neg (show ¬ (if I (m + 1) 1 = 0 then I (m + 8) 2 < I (m + 8) (2 - 1) else I (m + 8) (2 - 1) < I (m + 8) 2) from c2), if_neg (fun z => c2 (z.2 n3))]
      · rw [if_pos ⟨fun _ => c1, fun h => absurd h n3⟩, show (1 : Int) + 1 = n by omega]
        exact last
    · rw [if_neg (show ¬ (if I (m + 1) 1 = 0 then I (m + 8) 1 < I (m + 8) (1 - 1) else I (m + 8) (1 - 1) < I (m + 8) 1) from c1), if_neg (fun z => c1 (z.1 n2))]
  · rw [if_pos ⟨fun h => absurd h n2, fun h => by omega⟩]
    have : (1 : Int) = n := by omega
    rw [this]
    rw [this] at last
    exact last
theorem s_mayPlayM {e n : Int} (hm : isM g m) (he : 0 ≤ e ∧ e < 40) (hn : I (m + 1) (42 + 8 * e) = n) (hn3 : 1 ≤ n ∧ n ≤ 3) (hf : ∀ k, 0 ≤ k → k < n → 1 ≤ I (m + 8) k ∧ I (m + 8) k ≤ 5) (hs : ∀ k, 0 ≤ k → k < n → 0 ≤ I (m + 1) (42 + 8 * e + 5 + k) ∧ I (m + 1) (42 + 8 * e + 5 + k) ≤ 31) :
    cl 197 [.ref m, .int (iI e)] (mk g I) = some (.inl (some (.int (iI (@ite _ (∀ k, 0 ≤ k → k < n → ¬ andI (I (m + 1) (42 + 8 * e + 5 + k)) (bitF (I (m + 8) k)) = 0) (Classical.propDecidable _) 1 0)))), mk g I) := by
  have hm' := hm
  obtain ⟨t_0, ⟨t_1, d_1, n_1⟩, ⟨t_2, d_2, n_2⟩, ⟨t_3, d_3, n_3⟩, ⟨t_4, d_4, n_4⟩, ⟨t_5, d_5, n_5⟩, ⟨t_6, n_6⟩, ⟨t_7, d_7, n_7⟩, ⟨t_8, d_8, n_8⟩, ⟨t_9, d_9, n_9⟩, ⟨t_10, d_10, n_10⟩, ⟨t_11, d_11, n_11⟩, ⟨t_12, d_12, n_12⟩, ⟨t_13, d_13, n_13⟩, ⟨t_14, d_14, n_14⟩, ⟨t_15, n_15⟩, ⟨t_16, n_16⟩, ⟨t_17, d_17, n_17⟩, ⟨t_18, d_18, n_18⟩⟩ := hm
  have key := loop_find (σ := Unit) (head := fun i s => rn 197 1 [some (.ref m), some (.int (iI e)), some (.int (iI i))] [] (mk g I)) (p := fun k => andI (I (m + 1) (42 + 8 * e + 5 + k)) (bitF (I (m + 8) k)) = 0) (n := n) (res := fun i => some (.inl (some (.int (iI 0))), mk g I)) (re := some (.inl (some (.int (iI 1))), mk g I)) (by
    intro k s k0 k1 hp
    have h1 := (may_eq (hs k k0 k1) (hf k k0 k1)).mpr hp
    have hr := andI_r (a := shrI (I (m + 1) (42 + 8 * e + 5 + k)) (I (m + 8) k - 1)) (b := 1)
    show rn _ _ _ _ _ = _
    refine (w_197_1 (by first | assumption | omega)).trans ?_
    simp (maxSteps := 2000000) (disch := first | assumption | omega) only [aft_v, aft_n, aft_t, Nat.add_assoc, Nat.reduceAdd, if_true, if_false, not_true_eq_false, not_false_eq_true, Classical.not_not, Int.reduceAdd, Int.reduceSub, Int.reduceMul, Int.reduceNeg, Int.reduceLT, Int.reduceLE, Int.reduceEq, Int.add_zero, Int.zero_add, Int.sub_zero, w_197_2, w_197_3, w_197_4, w_197_5, s_notesOf, hn, if_neg (show ¬ n ≤ k by omega), s_setOf, h1]) (by
    intro k s k0 k1 hp
    have h1 : ¬ _ := fun z => hp ((may_eq (hs k k0 k1) (hf k k0 k1)).mp z)
    have hr := andI_r (a := shrI (I (m + 1) (42 + 8 * e + 5 + k)) (I (m + 8) k - 1)) (b := 1)
    refine ⟨(), ?_⟩
    show rn _ _ _ _ _ = rn _ _ _ _ _
    refine (w_197_1 (by first | assumption | omega)).trans ?_
    simp (maxSteps := 2000000) (disch := first | assumption | omega) only [aft_v, aft_n, aft_t, Nat.add_assoc, Nat.reduceAdd, if_true, if_false, not_true_eq_false, not_false_eq_true, Classical.not_not, Int.reduceAdd, Int.reduceSub, Int.reduceMul, Int.reduceNeg, Int.reduceLT, Int.reduceLE, Int.reduceEq, Int.add_zero, Int.zero_add, Int.sub_zero, w_197_2, w_197_3, w_197_4, w_197_6, s_notesOf, hn, if_neg (show ¬ n ≤ k by omega), s_setOf, h1]) (by
    intro s
    show rn _ _ _ _ _ = _
    refine (w_197_1 (by first | assumption | omega)).trans ?_
    simp (maxSteps := 2000000) (disch := first | assumption | omega) only [aft_v, aft_n, aft_t, Nat.add_assoc, Nat.reduceAdd, if_true, if_false, not_true_eq_false, not_false_eq_true, Classical.not_not, Int.reduceAdd, Int.reduceSub, Int.reduceMul, Int.reduceNeg, Int.reduceLT, Int.reduceLE, Int.reduceEq, Int.add_zero, Int.zero_add, Int.sub_zero, w_197_2, w_197_7, s_notesOf, hn, if_pos (Int.le_refl n)]) (by omega) ()
  have key : rn 197 1 [some (.ref m), some (.int (iI e)), some (.int (iI 0))] [] (mk g I) = _ := key
  refine c_197.trans ?_
  refine (w_197_0).trans ?_
  refine key.trans ?_
  rcases fnd_spec (p := fun k => andI (I (m + 1) (42 + 8 * e + 5 + k)) (bitF (I (m + 8) k)) = 0) (by omega : 0 ≤ n) with ⟨h1, h2⟩ | ⟨h1, h2, h3, _⟩
  · rw [h1, if_pos (by decide), if_pos h2]
  · rw [if_neg (by omega), if_neg (fun z => z _ h1 h2 h3)]
end ME
