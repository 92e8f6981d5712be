/-! The reference: what it is asked of all its events. -/
theorem sum_cg {f f' : Int → Int} {n : Int} (h : ∀ i, 0 ≤ i → i < n → f i = f' i) : sumI f n = sumI f' n := by
  have key : ∀ k : Nat, (k : Int) ≤ n → sumN f k = sumN f' k := by
    intro k
    induction k with
    | zero => intro _; rfl
    | succ k ih => intro hk; show sumN f k + f k = sumN f' k + f' k; rw [ih (by omega), h k (by omega) (by omega)]
  unfold sumI
  by_cases hn : 0 ≤ n
  · exact key n.toNat (by omega)
  · rw [show n.toNat = 0 by omega]; rfl
theorem it_cg {f f' : Int → Int → Int} {z n : Int} (h : ∀ i a, 0 ≤ i → i < n → f i a = f' i a) : itI f z n = itI f' z n := by
  have key : ∀ k : Nat, (k : Int) ≤ n → itI f z k = itI f' z k := by
    intro k
    induction k with
    | zero => intro _; rfl
    | succ k ih =>
      intro hk
      have h1 : itI f z ((k + 1 : Nat) : Int) = f k (itI f z k) := itI_s (i := (k : Int)) (by omega)
      have h2 : itI f' z ((k + 1 : Nat) : Int) = f' k (itI f' z k) := itI_s (i := (k : Int)) (by omega)
      rw [h1, h2, ih (by omega), h k _ (by omega) (by omega)]
  by_cases hn : 0 ≤ n
  · have := key n.toNat (by omega)
    rw [show ((n.toNat : Nat) : Int) = n by omega] at this
    exact this
  · unfold itI; rw [show n.toNat = 0 by omega]; rfl
theorem lk_A {P P' : PT} (h : Agr P P') (hz : ∀ e, 0 ≤ e → e < pE P → 1 ≤ pSz P e) : lkS P (pE P) = lkS P' (pE P') := by
  rw [← h.2.1]
  exact it_cg fun i a h0 h1 => by
    have := ((h.2.2.1 i h0 h1).2.2 0 (by omega) (by have := hz i h0 h1; omega)).1
    show lesS a (pKy P i 0) = lesS a (pKy P' i 0)
    rw [this]
theorem gk_A {P P' : PT} (h : Agr P P') (hz : ∀ e, 0 ≤ e → e < pE P → 1 ≤ pSz P e) : gkS P (pE P) = gkS P' (pE P') := by
  rw [← h.2.1]
  exact it_cg fun i a h0 h1 => by
    have h2 := (h.2.2.1 i h0 h1).1
    have := ((h.2.2.1 i h0 h1).2.2 (pSz P i - 1) (by have := hz i h0 h1; omega) (by omega)).1
    show max a (pKy P i (pSz P i - 1)) = max a (pKy P' i (pSz P' i - 1))
    rw [this, h2]
theorem bl_A {P P' : PT} (h : Agr P P') : blP P = blP P' := by
  unfold blP
  rw [← h.2.1]
  exact sum_cg fun i h0 h1 => by
    unfold blE
    rw [← (h.2.2.1 i h0 h1).1]
    exact sum_cg fun k k0 k1 => by rw [((h.2.2.1 i h0 h1).2.2 k k0 k1).1]
theorem fp_A {P P' : PT} (h : Agr P P') : fpP P = fpP P' := by
  unfold fpP
  rw [← h.2.1]
  exact sum_cg fun i h0 h1 => by
    unfold fpE
    rw [← (h.2.2.1 i h0 (by omega)).2.1, ← h.2.2.2.1 8 (by decide) (by decide)]
theorem sz_A {P P' : PT} (h : Agr P P') : sumI (pSz P) (pE P) = sumI (pSz P') (pE P') := by
  rw [← h.2.1]
  exact sum_cg fun i h0 h1 => (h.2.2.1 i h0 h1).1
theorem lk_ge {P : PT} (hW : Wf P) : ∀ n : Nat, (n : Int) ≤ pE P → (n = 0 → lkS P n = -1) ∧ (1 ≤ n → 21 ≤ lkS P n ∧ lkS P n ≤ 108) := by
  intro n
  induction n with
  | zero => intro _; exact ⟨fun _ => rfl, fun h => absurd h (by decide)⟩
  | succ n ih =>
    intro hn
    have h1 : lkS P ((n + 1 : Nat) : Int) = lesS (lkS P n) (pKy P n 0) := mnI_s (f := fun e => pKy P e 0) (i := (n : Int)) (by omega)
    have hw := hW.2.2.1 n (by omega) (by omega)
    have hk := (hw.2.2.1 0 (by omega) (by omega)).1
    obtain ⟨i1, i2⟩ := ih (by omega)
    refine ⟨fun h => absurd h (by omega), fun _ => ?_⟩
    rw [h1]; unfold lesS
    by_cases hn0 : n = 0
    · rw [if_pos (i1 hn0)]; exact hk
    · have := i2 (by omega)
      rw [if_neg (by omega), if_neg (by omega)]; omega
theorem gk_ge {P : PT} (hW : Wf P) : ∀ n : Nat, (n : Int) ≤ pE P → (n = 0 → gkS P n = -1) ∧ (1 ≤ n → 21 ≤ gkS P n ∧ gkS P n ≤ 108 ∧ lkS P n ≤ gkS P n) := by
  intro n
  induction n with
  | zero => intro _; exact ⟨fun _ => rfl, fun h => absurd h (by decide)⟩
  | succ n ih =>
    intro hn
    have h1 : gkS P ((n + 1 : Nat) : Int) = max (gkS P n) (pKy P n (pSz P n - 1)) := gkS_s (i := (n : Int)) (by omega)
    have h2 : lkS P ((n + 1 : Nat) : Int) = lesS (lkS P n) (pKy P n 0) := mnI_s (f := fun e => pKy P e 0) (i := (n : Int)) (by omega)
    have hw := hW.2.2.1 n (by omega) (by omega)
    have hk0 := (hw.2.2.1 0 (by omega) (by omega)).1
    have hk := (hw.2.2.1 (pSz P n - 1) (by omega) (by omega)).1
    have hle : pKy P n 0 ≤ pKy P n (pSz P n - 1) := by
      rcases (show pSz P n = 1 ∨ pSz P n = 2 ∨ pSz P n = 3 by omega) with z | z | z
      · rw [z]; exact Int.le_refl _
      · have := hw.2.2.2 0 (by omega) (by omega)
        rw [z]; exact Int.le_of_lt this
      · have a := hw.2.2.2 0 (by omega) (by omega)
        have b := hw.2.2.2 1 (by omega) (by omega)
        have a : pKy P n 0 < pKy P n 1 := a
        have b : pKy P n 1 < pKy P n 2 := b
        rw [z]; show pKy P n 0 ≤ pKy P n 2; omega
    obtain ⟨i1, i2⟩ := ih (by omega)
    obtain ⟨l1, l2⟩ := lk_ge hW n (by omega)
    refine ⟨fun h => absurd h (by omega), fun _ => ?_⟩
    rw [h1, h2]; unfold lesS
    by_cases hn0 : n = 0
    · rw [if_pos (l1 hn0), i1 hn0]; omega
    · have := i2 (by omega)
      have := l2 (by omega)
      rw [if_neg (by omega), if_neg (by omega)]; omega
section MA
variable {g : Gm} {I : Mm} {m : Nat}
theorem s_allNotesM (hm : isM g m) (hW : Wf (mv I m)) : cl 192 [.ref m] (mk g I) = some (.inl (some (.int (iI (sumI (pSz (mv I m)) (I (m + 1) 0))))), mk g I) := by
  have hm' := hm
  obtain ⟨t_0, ⟨t_1, d_1, n_1⟩, ⟨t_2, d_2, n_2⟩, ⟨t_3, d_3, n_3⟩, ⟨t_4, d_4, n_4⟩, ⟨t_5, d_5, n_5⟩, ⟨t_6, n_6⟩, ⟨t_7, d_7, n_7⟩, ⟨t_8, d_8, n_8⟩, ⟨t_9, d_9, n_9⟩, ⟨t_10, d_10, n_10⟩, ⟨t_11, d_11, n_11⟩, ⟨t_12, d_12, n_12⟩, ⟨t_13, d_13, n_13⟩, ⟨t_14, d_14, n_14⟩, ⟨t_15, n_15⟩, ⟨t_16, n_16⟩, ⟨t_17, d_17, n_17⟩, ⟨t_18, d_18, n_18⟩⟩ := hm
  have hn : 0 ≤ I (m + 1) 0 ∧ I (m + 1) 0 ≤ 40 := hW.2.1
  have key := loop_up (σ := Unit) (head := fun i _ => rn 192 1 [some (.ref m), some (.int (iI (sumI (pSz (mv I m)) i))), some (.int (iI i))] [] (mk g I)) (Inv := fun i _ => 0 ≤ i) (n := I (m + 1) 0) (by
    intro i s hi h
    have hz : ∀ i, 0 ≤ i → i < I (m + 1) 0 → 1 ≤ pSz (mv I m) i ∧ pSz (mv I m) i ≤ 3 := fun i a b => (hW.2.2.1 i a b).1
    have hb := sumI_b (f := pSz (mv I m)) (A := 0) (B := 3) (n := i) h (fun j a b => by have := hz j a (by omega); omega)
    have hs : pSz (mv I m) i = I (m + 1) (42 + 8 * i) := rfl
    have hzi := hz i h hi
    rw [hs] at hzi
    refine ⟨(), ?_, by omega⟩
    show rn _ _ _ _ _ = rn _ _ _ _ _
    rw [sumI_s h, hs]
    refine (w_192_1 (by first | assumption | omega)).trans ?_
    simp (maxSteps := 2000000) (disch := first | assumption | omega) only [aft_v, aft_n, aft_t, Nat.add_assoc, Nat.reduceAdd, if_true, if_false, not_true_eq_false, not_false_eq_true, Classical.not_not, Int.reduceAdd, Int.reduceSub, Int.reduceMul, Int.reduceNeg, Int.reduceLT, Int.reduceLE, Int.reduceEq, Int.add_zero, Int.zero_add, Int.sub_zero, w_192_2, w_192_3, w_192_4, s_events hm', s_notesOf hm', if_neg (show ¬ I (m + 1) 0 ≤ i by omega)]) 0 () (by omega) (by omega)
  obtain ⟨-, e, -⟩ := key
  have e : rn 192 1 [some (.ref m), some (.int (iI 0)), some (.int (iI 0))] [] (mk g I) = rn 192 1 [some (.ref m), some (.int (iI (sumI (pSz (mv I m)) (I (m + 1) 0)))), some (.int (iI (I (m + 1) 0)))] [] (mk g I) := e
  refine c_192.trans ?_
  refine (w_192_0).trans ?_
  refine e.trans ?_
  refine (w_192_1 (by first | assumption | omega)).trans ?_
  simp (maxSteps := 2000000) (disch := first | assumption | omega) only [aft_v, aft_n, aft_t, Nat.add_assoc, Nat.reduceAdd, if_true, if_false, not_true_eq_false, not_false_eq_true, Classical.not_not, Int.reduceAdd, Int.reduceSub, Int.reduceMul, Int.reduceNeg, Int.reduceLT, Int.reduceLE, Int.reduceEq, Int.add_zero, Int.zero_add, Int.sub_zero, w_192_2, w_192_5, s_events hm', if_pos (Int.le_refl (I (m + 1) 0))]
end MA
