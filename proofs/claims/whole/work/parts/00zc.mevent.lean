/-! The reference: events and passages. -/
theorem may_eq {s f : Int} (hs : 0 ≤ s ∧ s ≤ 31) (hf : 1 ≤ f ∧ f ≤ 5) : andI (shrI s (f - 1)) 1 = 0 ↔ andI s (bitF f) = 0 := by
  have key : ∀ (n : Fin 32) (m : Fin 5), decide (andI (shrI (n.val : Int) (m.val : Int)) 1 = 0) = decide (andI (n.val : Int) (bitF ((m.val : Int) + 1)) = 0) := by decide +kernel
  have := key ⟨s.toNat, by omega⟩ ⟨(f - 1).toNat, by omega⟩
  rw [show ((s.toNat : Nat) : Int) = s by omega, show (((f - 1).toNat : Nat) : Int) = f - 1 by omega, show f - 1 + 1 = f by omega] at this
  exact decide_eq_decide.mp this
section ME
variable {g : Gm} {I : Mm} {m : Nat}
theorem s_isInOrder {n : Int} (hm : isM g m) (hr : I (m + 1) 1 = 0 ∨ I (m + 1) 1 = 1) (hn : 1 ≤ n ∧ n ≤ 3) (hf : ∀ k, 0 ≤ k → k < n → 1 ≤ I (m + 8) k ∧ I (m + 8) k ≤ 5) :
    cl 196 [.ref m, .int (iI n)] (mk g I) = some (.inl (some (.int (iI (if (2 ≤ n → (if I (m + 1) 1 = 0 then I (m + 8) 1 < I (m + 8) 0 else I (m + 8) 0 < I (m + 8) 1)) ∧ (3 ≤ n → (if I (m + 1) 1 = 0 then I (m + 8) 2 < I (m + 8) 1 else I (m + 8) 1 < I (m + 8) 2)) then 1 else 0)))), mk g I) := by
  obtain ⟨t_0, ⟨t_1, d_1, n_1⟩, ⟨t_2, d_2, n_2⟩, ⟨t_3, d_3, n_3⟩, ⟨t_4, d_4, n_4⟩, ⟨t_5, d_5, n_5⟩, ⟨t_6, n_6⟩, ⟨t_7, d_7, n_7⟩, ⟨t_8, d_8, n_8⟩, ⟨t_9, d_9, n_9⟩, ⟨t_10, d_10, n_10⟩, ⟨t_11, d_11, n_11⟩, ⟨t_12, d_12, n_12⟩, ⟨t_13, d_13, n_13⟩, ⟨t_14, d_14, n_14⟩, ⟨t_15, n_15⟩, ⟨t_16, n_16⟩, ⟨t_17, d_17, n_17⟩, ⟨t_18, d_18, n_18⟩⟩ := hm
  have step : ∀ k, 1 ≤ k → k < n → rn 196 1 [some (.ref m), some (.int (iI n)), some (.int (iI k))] [] (mk g I) = if (if I (m + 1) 1 = 0 then I (m + 8) k < I (m + 8) (k - 1) else I (m + 8) (k - 1) < I (m + 8) k) then rn 196 1 [some (.ref m), some (.int (iI n)), some (.int (iI (k + 1)))] [] (mk g I) else some (.inl (some (.int (iI 0))), mk g I) := by
    intro k k0 k1
    have h1 := hf k (by omega) k1
    have h0 := hf (k - 1) (by omega) (by omega)
    refine (w_196_1 (by first | assumption | omega) (by first | assumption | omega) (by first | assumption | omega) (by first | assumption | omega)).trans ?_
    rw [if_neg (by omega)]
    refine (w_196_2 (by first | assumption | omega) (by first | assumption | omega) (by first | assumption | omega) (by first | assumption | omega) (by first | assumption | omega)).trans ?_
    rcases hr with hr | hr
    · refine (if_pos (by omega)).trans ?_
      refine (w_196_5 (by first | assumption | omega) (by first | assumption | omega) (by first | assumption | omega) (by first | assumption | omega) (by first | assumption | omega) (by first | assumption | omega) (by first | assumption | omega) (by first | assumption | omega) (by first | assumption | omega) (by first | assumption | omega) (by first | assumption | omega) (by first | assumption | omega)).trans ?_
      by_cases c1 : I (m + 8) k < I (m + 8) (k - 1)
      · rw [if_pos c1, if_pos (by rw [if_pos hr]; exact c1)]; exact w_196_7
      · rw [if_neg c1, if_neg (by rw [if_pos hr]; exact c1)]; exact w_196_6
    · refine (if_neg (by omega)).trans ?_
      refine (w_196_3 (by first | assumption | omega) (by first | assumption | omega) (by first | assumption | omega) (by first | assumption | omega) (by first | assumption | omega) (by first | assumption | omega) (by first | assumption | omega) (by first | assumption | omega) (by first | assumption | omega) (by first | assumption | omega) (by first | assumption | omega) (by first | assumption | omega)).trans ?_
      by_cases c1 : I (m + 8) (k - 1) < I (m + 8) k
      · rw [if_pos c1, if_pos (by rw [if_neg (by omega)]; exact c1)]; exact w_196_7
      · rw [if_neg c1, if_neg (by rw [if_neg (by omega)]; exact c1)]
        refine (w_196_4).trans ?_
        exact w_196_6
  have last : rn 196 1 [some (.ref m), some (.int (iI n)), some (.int (iI n))] [] (mk g I) = some (.inl (some (.int (iI 1))), mk g I) := by
    refine (w_196_1 (by first | assumption | omega) (by first | assumption | omega) (by first | assumption | omega) (by first | assumption | omega)).trans ?_
    rw [if_pos (Int.le_refl n)]
    exact w_196_8
  refine c_196.trans ?_
  refine (w_196_0).trans ?_
  by_cases n2 : 2 ≤ n
  · rw [step 1 (by decide) (by omega)]
    by_cases c1 : (if I (m + 1) 1 = 0 then I (m + 8) 1 < I (m + 8) 0 else I (m + 8) 0 < I (m + 8) 1)
    · rw [if_pos (show (if I (m + 1) 1 = 0 then I (m + 8) 1 < I (m + 8) (1 - 1) else I (m + 8) (1 - 1) < I (m + 8) 1) from c1)]
      by_cases n3 : 3 ≤ n
      · rw [show (1 : Int) + 1 = 2 from rfl, step 2 (by decide) (by omega)]
        by_cases c2 : (if I (m + 1) 1 = 0 then I (m + 8) 2 < I (m + 8) 1 else I (m + 8) 1 < I (m + 8) 2)
        · rw [if_pos (show (if I (m + 1) 1 = 0 then I (m + 8) 2 < I (m + 8) (2 - 1) else I (m + 8) (2 - 1) < I (m + 8) 2) from c2), if_pos ⟨fun _ => c1, fun _ => c2⟩, show (2 : Int) + 1 = n by omega]
          exact last
        · rw [if_neg (show ¬ (if I (m + 1) 1 = 0 then I (m + 8) 2 < I (m + 8) (2 - 1) else I (m + 8) (2 - 1) < I (m + 8) 2) from c2), if_neg (fun z => c2 (z.2 n3))]
      · rw [if_pos ⟨fun _ => c1, fun h => absurd h n3⟩, show (1 : Int) + 1 = n by omega]
        exact last
    · rw [if_neg (show ¬ (if I (m + 1) 1 = 0 then I (m + 8) 1 < I (m + 8) (1 - 1) else I (m + 8) (1 - 1) < I (m + 8) 1) from c1), if_neg (fun z => c1 (z.1 n2))]
  · rw [if_pos ⟨fun h => absurd h n2, fun h => by omega⟩]
    have : (1 : Int) = n := by omega
    rw [this]
    rw [this] at last
    exact last
theorem s_mayPlayM {e n : Int} (hm : isM g m) (he : 0 ≤ e ∧ e < 40) (hn : I (m + 1) (42 + 8 * e) = n) (hn3 : 1 ≤ n ∧ n ≤ 3) (hf : ∀ k, 0 ≤ k → k < n → 1 ≤ I (m + 8) k ∧ I (m + 8) k ≤ 5) (hs : ∀ k, 0 ≤ k → k < n → 0 ≤ I (m + 1) (42 + 8 * e + 5 + k) ∧ I (m + 1) (42 + 8 * e + 5 + k) ≤ 31) :
    cl 197 [.ref m, .int (iI e)] (mk g I) = some (.inl (some (.int (iI (@ite _ (∀ k, 0 ≤ k → k < n → ¬ andI (I (m + 1) (42 + 8 * e + 5 + k)) (bitF (I (m + 8) k)) = 0) (Classical.propDecidable _) 1 0)))), mk g I) := by
  have hm' := hm
  obtain ⟨t_0, ⟨t_1, d_1, n_1⟩, ⟨t_2, d_2, n_2⟩, ⟨t_3, d_3, n_3⟩, ⟨t_4, d_4, n_4⟩, ⟨t_5, d_5, n_5⟩, ⟨t_6, n_6⟩, ⟨t_7, d_7, n_7⟩, ⟨t_8, d_8, n_8⟩, ⟨t_9, d_9, n_9⟩, ⟨t_10, d_10, n_10⟩, ⟨t_11, d_11, n_11⟩, ⟨t_12, d_12, n_12⟩, ⟨t_13, d_13, n_13⟩, ⟨t_14, d_14, n_14⟩, ⟨t_15, n_15⟩, ⟨t_16, n_16⟩, ⟨t_17, d_17, n_17⟩, ⟨t_18, d_18, n_18⟩⟩ := hm
  have key := loop_find (σ := Unit) (head := fun i s => rn 197 1 [some (.ref m), some (.int (iI e)), some (.int (iI i))] [] (mk g I)) (p := fun k => andI (I (m + 1) (42 + 8 * e + 5 + k)) (bitF (I (m + 8) k)) = 0) (n := n) (res := fun i => some (.inl (some (.int (iI 0))), mk g I)) (re := some (.inl (some (.int (iI 1))), mk g I)) (by
    intro k s k0 k1 hp
    have h1 := (may_eq (hs k k0 k1) (hf k k0 k1)).mpr hp
    have hr := andI_r (a := shrI (I (m + 1) (42 + 8 * e + 5 + k)) (I (m + 8) k - 1)) (b := 1)
    show rn _ _ _ _ _ = _
    refine (w_197_1 (by first | assumption | omega)).trans ?_
    simp (maxSteps := 2000000) (disch := first | assumption | omega) only [aft_v, aft_n, aft_t, Nat.add_assoc, Nat.reduceAdd, if_true, if_false, not_true_eq_false, not_false_eq_true, Classical.not_not, Int.reduceAdd, Int.reduceSub, Int.reduceMul, Int.reduceNeg, Int.reduceLT, Int.reduceLE, Int.reduceEq, Int.add_zero, Int.zero_add, Int.sub_zero, w_197_2, w_197_3, w_197_4, w_197_5, s_notesOf, hn, if_neg (show ¬ n ≤ k by omega), s_setOf, h1]) (by
    intro k s k0 k1 hp
    have h1 : ¬ _ := fun z => hp ((may_eq (hs k k0 k1) (hf k k0 k1)).mp z)
    have hr := andI_r (a := shrI (I (m + 1) (42 + 8 * e + 5 + k)) (I (m + 8) k - 1)) (b := 1)
    refine ⟨(), ?_⟩
    show rn _ _ _ _ _ = rn _ _ _ _ _
    refine (w_197_1 (by first | assumption | omega)).trans ?_
    simp (maxSteps := 2000000) (disch := first | assumption | omega) only [aft_v, aft_n, aft_t, Nat.add_assoc, Nat.reduceAdd, if_true, if_false, not_true_eq_false, not_false_eq_true, Classical.not_not, Int.reduceAdd, Int.reduceSub, Int.reduceMul, Int.reduceNeg, Int.reduceLT, Int.reduceLE, Int.reduceEq, Int.add_zero, Int.zero_add, Int.sub_zero, w_197_2, w_197_3, w_197_4, w_197_6, s_notesOf, hn, if_neg (show ¬ n ≤ k by omega), s_setOf, h1]) (by
    intro s
    show rn _ _ _ _ _ = _
    refine (w_197_1 (by first | assumption | omega)).trans ?_
    simp (maxSteps := 2000000) (disch := first | assumption | omega) only [aft_v, aft_n, aft_t, Nat.add_assoc, Nat.reduceAdd, if_true, if_false, not_true_eq_false, not_false_eq_true, Classical.not_not, Int.reduceAdd, Int.reduceSub, Int.reduceMul, Int.reduceNeg, Int.reduceLT, Int.reduceLE, Int.reduceEq, Int.add_zero, Int.zero_add, Int.sub_zero, w_197_2, w_197_7, s_notesOf, hn, if_pos (Int.le_refl n)]) (by omega) ()
  have key : rn 197 1 [some (.ref m), some (.int (iI e)), some (.int (iI 0))] [] (mk g I) = _ := key
  refine c_197.trans ?_
  refine (w_197_0).trans ?_
  refine key.trans ?_
  rcases fnd_spec (p := fun k => andI (I (m + 1) (42 + 8 * e + 5 + k)) (bitF (I (m + 8) k)) = 0) (by omega : 0 ≤ n) with ⟨h1, h2⟩ | ⟨h1, h2, h3, _⟩
  · rw [h1, if_pos (by decide), if_pos h2]
  · rw [if_neg (by omega), if_neg (fun z => z _ h1 h2 h3)]
theorem s_costHere {e : Int} (hm : isM g m) (hW : Wf (mv I m)) (he : 0 ≤ e ∧ e < pE (mv I m)) (hf : ∀ k, 0 ≤ k → k < pSz (mv I m) e → 1 ≤ I (m + 8) k ∧ I (m + 8) k ≤ 5) :
    cl 198 [.ref m, .int (iI e)] (mk g I) = some (.inl (some (.int (iI (ecostS (mv I m) e 0 (I (m + 8)))))), mk g I) := by
  have hm' := hm
  have hW' := hW
  obtain ⟨t_0, ⟨t_1, d_1, n_1⟩, ⟨t_2, d_2, n_2⟩, ⟨t_3, d_3, n_3⟩, ⟨t_4, d_4, n_4⟩, ⟨t_5, d_5, n_5⟩, ⟨t_6, n_6⟩, ⟨t_7, d_7, n_7⟩, ⟨t_8, d_8, n_8⟩, ⟨t_9, d_9, n_9⟩, ⟨t_10, d_10, n_10⟩, ⟨t_11, d_11, n_11⟩, ⟨t_12, d_12, n_12⟩, ⟨t_13, d_13, n_13⟩, ⟨t_14, d_14, n_14⟩, ⟨t_15, n_15⟩, ⟨t_16, n_16⟩, ⟨t_17, d_17, n_17⟩, ⟨t_18, d_18, n_18⟩⟩ := hm
  obtain ⟨w0, w1, w2, w3, w4⟩ := hW
  obtain ⟨z1, z2, z3, z4⟩ := w2 e he.1 he.2
  have hr : I (m + 1) 1 = 0 ∨ I (m + 1) 1 = 1 := w0
  have he' : 0 ≤ e ∧ e < 40 := by omega
  obtain ⟨n, hn⟩ : ∃ n : Int, n = pSz (mv I m) e := ⟨_, rfl⟩
  have hn' : I (m + 1) (42 + 8 * e) = n := by rw [hn]; rfl
  rw [← hn] at z1 z3 z4 hf
  have wt : ∀ w, 0 ≤ w → w < 10 → 0 ≤ I (m + 1) (2 + w) ∧ I (m + 1) (2 + w) ≤ 99 := w3
  have x5 := wt 5 (by decide) (by decide)
  have x6 := wt 6 (by decide) (by decide)
  have x0 := wt 0 (by decide) (by decide)
  simp only [Int.reduceAdd] at x5 x6 x0
  have hio := s_isInOrder (g := g) (I := I) (n := n) hm' hr z1 hf
  have hmp := s_mayPlayM (g := g) (I := I) (e := e) (n := n) hm' he' hn' z1 hf (fun k k0 k1 => (z3 k k0 k1).2)
  have ky : ∀ k, 0 ≤ k → k < n → 21 ≤ I (m + 1) (42 + 8 * e + 2 + k) ∧ I (m + 1) (42 + 8 * e + 2 + k) ≤ 108 := fun k k0 k1 => (z3 k k0 k1).1
  have bk : ∀ k, bkI k = 0 ∨ bkI k = 1 := fun k => bz01.symm.elim Or.inr Or.inl
  obtain ⟨N, hN⟩ : ∃ N : Int → Int, N = fun k => ncS (mv I m) (I (m + 1) (42 + 8 * e + 2 + k)) (I (m + 8) k) := ⟨_, rfl⟩
  have hNv : ∀ k, N k = (if I (m + 8) k = 4 then I (m + 1) 8 else 0) + (if (I (m + 8) k = 1 ∨ I (m + 8) k = 5) ∧ bkI (I (m + 1) (42 + 8 * e + 2 + k)) = 1 then I (m + 1) 7 else 0) := fun k => by rw [hN]; rfl
  have hNb : ∀ k, 0 ≤ N k ∧ N k ≤ 198 := fun k => by rw [hNv]; (repeat' split) <;> omega
  have LS : ∀ (S k : Int) (o5 : Option Value), (0 ≤ S ∧ S ≤ 100000) → 0 ≤ k → k < n → rn 198 7 [some (.ref m), some (.int (iI e)), some (.int (iI n)), some (.int (iI S)), some (.int (iI k)), o5] [] (mk g I) = rn 198 20 [some (.ref m), some (.int (iI e)), some (.int (iI n)), some (.int (iI (S + (if (I (m + 8) k = 1 ∨ I (m + 8) k = 5) ∧ bkI (I (m + 1) (42 + 8 * e + 2 + k)) = 1 then I (m + 1) 7 else 0)))), some (.int (iI k)), o5] [.int (iI (if I (m + 8) k = 4 then I (m + 1) 8 else 0)), .int (iI (S + (if (I (m + 8) k = 1 ∨ I (m + 8) k = 5) ∧ bkI (I (m + 1) (42 + 8 * e + 2 + k)) = 1 then I (m + 1) 7 else 0)))] (mk g I) := by
    intro S k o5 hS k0 k1
    have hk := ky k k0 k1
    have hfk := hf k k0 k1
    have hb := bk (I (m + 1) (42 + 8 * e + 2 + k))
    have hkO := s_keyOfM (g := g) (I := I) (e := e) (k := k) hm' he' (by omega)
    have hbl := s_isBlackM (g := g) (I := I) (a := I (m + 1) (42 + 8 * e + 2 + k)) (by omega)
    have hw5 := s_weightOf (g := g) (I := I) (w := 5) hm' (by decide)
    have hw6 := s_weightOf (g := g) (I := I) (w := 6) hm' (by decide)
    have lo : ∀ (B : Int), rn 198 16 [some (.ref m), some (.int (iI e)), some (.int (iI n)), some (.int (iI S)), some (.int (iI k)), o5] [.int (iI B), .int (iI S)] (mk g I) = rn 198 20 [some (.ref m), some (.int (iI e)), some (.int (iI n)), some (.int (iI (S + B))), some (.int (iI k)), o5] [.int (iI (if I (m + 8) k = 4 then I (m + 1) 8 else 0)), .int (iI (S + B))] (mk g I) := by
      intro B
      refine (w_198_16 (by first | assumption | omega) (by first | assumption | omega) (by first | assumption | omega) (by first | assumption | omega) (by first | assumption | omega) (by first | assumption | omega) (by first | assumption | omega)).trans ?_
      by_cases c : I (m + 8) k = 4
      · rw [if_neg (by omega), if_pos c]
        refine (w_198_17 (by first | assumption | omega)).trans ?_
        rw [hw6, aft_v]
        exact w_198_18
      · rw [if_pos c, if_neg c]
        exact w_198_19
    refine (w_198_7 (by first | assumption | omega) (by first | assumption | omega) (by first | assumption | omega) (by first | assumption | omega)).trans ?_
    rw [if_neg (by omega)]
    refine (w_198_8 (by first | assumption | omega) (by first | assumption | omega) (by first | assumption | omega) (by first | assumption | omega) (by first | assumption | omega) (by first | assumption | omega) (by first | assumption | omega)).trans ?_
    have ten : rn 198 10 [some (.ref m), some (.int (iI e)), some (.int (iI n)), some (.int (iI S)), some (.int (iI k)), o5] [.int (iI S)] (mk g I) = rn 198 16 [some (.ref m), some (.int (iI e)), some (.int (iI n)), some (.int (iI S)), some (.int (iI k)), o5] [.int (iI (if bkI (I (m + 1) (42 + 8 * e + 2 + k)) = 1 then I (m + 1) 7 else 0)), .int (iI S)] (mk g I) := by
      refine (w_198_10 (by first | assumption | omega)).trans ?_
      rw [hkO, aft_v]
      refine (w_198_11).trans ?_
      rw [hbl, aft_v]
      refine (w_198_12 (by first | assumption | omega) (by first | assumption | omega)).trans ?_
      by_cases c : bkI (I (m + 1) (42 + 8 * e + 2 + k)) = 1
      · rw [if_neg (by omega), if_pos c]
        refine (w_198_13 (by first | assumption | omega)).trans ?_
        rw [hw5, aft_v]
        exact w_198_14
      · rw [if_pos (by omega), if_neg c]
        exact w_198_15
    by_cases f1 : I (m + 8) k = 1
    · rw [if_pos f1, ten]
      refine (lo _).trans ?_
      simp only [f1, true_or, true_and]
    · rw [if_neg f1]
      refine (w_198_9 (by first | assumption | omega) (by first | assumption | omega) (by first | assumption | omega) (by first | assumption | omega) (by first | assumption | omega) (by first | assumption | omega) (by first | assumption | omega)).trans ?_
      by_cases f5 : I (m + 8) k = 5
      · rw [if_neg (by omega), ten]
        refine (lo _).trans ?_
        simp only [f5, or_true, true_and]
      · rw [if_pos f5]
        refine (w_198_15).trans ?_
        refine (lo 0).trans ?_
        rw [if_neg (show ¬ ((I (m + 8) k = 1 ∨ I (m + 8) k = 5) ∧ _) from fun z => by omega)]
  obtain ⟨O, hO⟩ : ∃ O : Int → Int, O = fun k => offS (mv I m) (I (m + 1) (42 + 8 * e + 2 + k) - I (m + 1) (42 + 8 * e + 2 + (k - 1))) (I (m + 8) (k - 1)) (I (m + 8) k) := ⟨_, rfl⟩
  have hOb : ∀ k, 1 ≤ k → k < n → ¬ I (m + 8) (k - 1) = I (m + 8) k → -1 ≤ O k ∧ O k ≤ 24 := fun k k0 k1 hne => by
    have ha := hf (k - 1) (by omega) (by omega)
    have hb := hf k (by omega) k1
    have sp := w4 (I (m + 8) (k - 1)) (I (m + 8) k) ha.1 ha.2 hb.1 hb.2 hne
    have hord := z4 (k - 1) (by omega) (by omega)
    have hord : I (m + 1) (42 + 8 * e + 2 + (k - 1)) < I (m + 1) (42 + 8 * e + 2 + (k - 1 + 1)) := hord
    rw [show k - 1 + 1 = k by omega] at hord
    rw [hO]
    show -1 ≤ offS _ _ _ _ ∧ offS _ _ _ _ ≤ 24
    unfold offS
    (repeat' split) <;> omega
  have STEP : ∀ (S k : Int) (o5 : Option Value), (0 ≤ S ∧ S ≤ 100000) → 1 ≤ k → k < n → ¬ I (m + 8) (k - 1) = I (m + 8) k → rn 198 7 [some (.ref m), some (.int (iI e)), some (.int (iI n)), some (.int (iI S)), some (.int (iI k)), o5] [] (mk g I) = if O k = -1 then some (.inl (some (.int (iI (-1)))), mk g I) else rn 198 7 [some (.ref m), some (.int (iI e)), some (.int (iI n)), some (.int (iI (S + N k + I (m + 1) 2 * O k))), some (.int (iI (k + 1))), some (.int (iI (O k)))] [] (mk g I) := by
    intro S k o5 hS k0 k1 hne
    have ha := hf (k - 1) (by omega) (by omega)
    have hb := hf k (by omega) k1
    have sp := w4 (I (m + 8) (k - 1)) (I (m + 8) k) ha.1 ha.2 hb.1 hb.2 hne
    have sp' : 1 ≤ I (m + 1) (prS (I (m + 8) (k - 1)) (I (m + 8) k)) ∧ I (m + 1) (prS (I (m + 8) (k - 1)) (I (m + 8) k)) ≤ I (m + 1) (prS (I (m + 8) (k - 1)) (I (m + 8) k) + 1) ∧ I (m + 1) (prS (I (m + 8) (k - 1)) (I (m + 8) k) + 1) ≤ I (m + 1) (prS (I (m + 8) (k - 1)) (I (m + 8) k) + 2) ∧ I (m + 1) (prS (I (m + 8) (k - 1)) (I (m + 8) k) + 2) ≤ 24 := sp
    have y0 := ky (k - 1) (by omega) (by omega)
    have y1 := ky k (by omega) k1
    have hob := hOb k k0 k1 hne
    have hk1 := s_keyOfM (g := g) (I := I) (e := e) (k := k) hm' he' (by omega)
    have hk0 := s_keyOfM (g := g) (I := I) (e := e) (k := k - 1) hm' he' (by omega)
    have hoff := s_offBy (g := g) (I := I) (d := I (m + 1) (42 + 8 * e + 2 + k) - I (m + 1) (42 + 8 * e + 2 + (k - 1))) hm' ha hb hne (by omega) (by omega) (by omega) (by omega)
    have hoff : cl 194 [.ref m, .int (iI (I (m + 8) (k - 1))), .int (iI (I (m + 8) k)), .int (iI (I (m + 1) (42 + 8 * e + 2 + k) - I (m + 1) (42 + 8 * e + 2 + (k - 1))))] (mk g I) = some (.inl (some (.int (iI (O k)))), mk g I) := by rw [hO]; exact hoff
    have hw0 : cl 187 [.ref m, .int (iI 0)] (mk g I) = some (.inl (some (.int (iI (I (m + 1) 2)))), mk g I) := s_weightOf (g := g) (I := I) (w := 0) hm' (by decide)
    refine (LS S k o5 hS (by omega) k1).trans ?_
    refine (w_198_20 (by first | assumption | omega) (by first | assumption | omega)).trans ?_
    rw [if_pos (by omega)]
    refine (w_198_22 (by first | assumption | omega) (by first | assumption | omega) (by first | assumption | omega) (by first | assumption | omega) (by first | assumption | omega) (by first | assumption | omega) (by first | assumption | omega) (by first | assumption | omega)).trans ?_
    rw [hk1, aft_v]
    refine (w_198_23 (by first | assumption | omega)).trans ?_
    rw [hk0, aft_v]
    refine (w_198_24 (by first | assumption | omega)).trans ?_
    rw [hoff, aft_v]
    refine (w_198_25 (by first | assumption | omega) (by first | assumption | omega)).trans ?_
    by_cases c : O k = -1
    · rw [if_neg (by omega), if_pos c]
      exact w_198_26
    · rw [if_pos c, if_neg c]
      refine (w_198_27 (by first | assumption | omega)).trans ?_
      rw [hw0, aft_v]
      refine (w_198_28).trans ?_
      refine (w_198_29).trans ?_
      rw [hNv]
      congr 5
      · congr 3; omega
  have FST : ∀ o5 : Option Value, rn 198 7 [some (.ref m), some (.int (iI e)), some (.int (iI n)), some (.int (iI 0)), some (.int (iI 0)), o5] [] (mk g I) = rn 198 7 [some (.ref m), some (.int (iI e)), some (.int (iI n)), some (.int (iI (N 0))), some (.int (iI 1)), o5] [] (mk g I) := by
    intro o5
    refine (LS 0 0 o5 (by decide) (by decide) (by omega)).trans ?_
    refine (w_198_20 (by first | assumption | omega) (by first | assumption | omega)).trans ?_
    rw [if_neg (by decide)]
    refine (w_198_21).trans ?_
    refine (w_198_29).trans ?_
    rw [hNv]
    congr 5
    · congr 3; omega
  have END : ∀ (S : Int) (o5 : Option Value), rn 198 7 [some (.ref m), some (.int (iI e)), some (.int (iI n)), some (.int (iI S)), some (.int (iI n)), o5] [] (mk g I) = some (.inl (some (.int (iI S))), mk g I) := by
    intro S o5
    refine (w_198_7 (by first | assumption | omega) (by first | assumption | omega) (by first | assumption | omega) (by first | assumption | omega)).trans ?_
    rw [if_pos (Int.le_refl n)]
    exact w_198_30
  have hsO : ∀ k, 1 ≤ k → k < n → ¬ I (m + 8) (k - 1) = I (m + 8) k → stretchS (mv I m) (pKy (mv I m) e k - pKy (mv I m) e (k - 1)) (I (m + 8) (k - 1)) (I (m + 8) k) = if O k = -1 then -1 else I (m + 1) 2 * O k := fun k k0 k1 hne => by
    have ha := hf (k - 1) (by omega) (by omega)
    have hb := hf k (by omega) k1
    have sp := w4 (I (m + 8) (k - 1)) (I (m + 8) k) ha.1 ha.2 hb.1 hb.2 hne
    have := stretch_off (P := mv I m) (d := pKy (mv I m) e k - pKy (mv I m) e (k - 1)) (a := I (m + 8) (k - 1)) (b := I (m + 8) k) x0.1 sp.2.1
    rw [this, hO]
    rfl
  have hprod : ∀ k, -1 ≤ O k ∧ O k ≤ 24 → ¬ O k = -1 → 0 ≤ I (m + 1) 2 * O k ∧ I (m + 1) 2 * O k ≤ 2376 := fun k h1 h2 => by
    have := mul_b (a := I (m + 1) 2) (b := O k) (A := 99) (B := 24) x0.1 x0.2 (by omega) h1.2
    omega
  have hNk : ∀ k, ncS (mv I m) (pKy (mv I m) e k + 0) (I (m + 8) k) = N k := fun k => by rw [Int.add_zero, hN]; rfl
  have hzn : pSz (mv I m) e = n := hn.symm
  have hset : ∀ k, pSe (mv I m) e k = I (m + 1) (42 + 8 * e + 5 + k) := fun k => rfl
  have hR1 : pR (mv I m) = I (m + 1) 1 := rfl
  refine c_198.trans ?_
  refine (w_198_0 (by first | assumption | omega)).trans ?_
  rw [s_notesOf hm' he', aft_v, hn']
  refine (w_198_1 (by first | assumption | omega)).trans ?_
  rw [hio, aft_v]
  by_cases hord : (2 ≤ n → (if I (m + 1) 1 = 0 then I (m + 8) 1 < I (m + 8) 0 else I (m + 8) 0 < I (m + 8) 1)) ∧ (3 ≤ n → (if I (m + 1) 1 = 0 then I (m + 8) 2 < I (m + 8) 1 else I (m + 8) 1 < I (m + 8) 2))
  · rw [if_pos hord]
    refine (w_198_2 (by first | assumption | omega) (by first | assumption | omega)).trans ?_
    rw [if_neg (by decide)]
    refine (w_198_3 (by first | assumption | omega)).trans ?_
    rw [hmp, aft_v]
    by_cases hmay : ∀ k, 0 ≤ k → k < n → ¬ andI (I (m + 1) (42 + 8 * e + 5 + k)) (bitF (I (m + 8) k)) = 0
    · rw [if_pos hmay]
      refine (w_198_4 (by first | assumption | omega) (by first | assumption | omega)).trans ?_
      rw [if_pos (by decide)]
      refine (w_198_6).trans ?_
      rw [FST]
      have N0b := hNb 0
      have N1b := hNb 1
      have N2b := hNb 2
      unfold ecostS
      rw [hset, if_neg (hmay 0 (by decide) (by omega)), hzn, hNk]
      by_cases n1 : n ≤ 1
      · rw [if_pos n1]
        have : (1 : Int) = n := by omega
        have e1 := END (N 0) none
        rw [← this] at e1 ⊢
        exact e1
      · rw [if_neg n1, hset, if_neg (hmay 1 (by decide) (by omega)), hR1, if_neg (fun z => z (hord.1 (by omega)))]
        have hne1 : ¬ I (m + 8) (1 - 1) = I (m + 8) 1 := by
          have := hord.1 (by omega)
          split at this
          · show ¬ I (m + 8) 0 = _; omega
          · show ¬ I (m + 8) 0 = _; omega
        have hO1 := hOb 1 (by decide) (by omega) hne1
        have hs1 := hsO 1 (by decide) (by omega) hne1
        have hs1 : stretchS (mv I m) (pKy (mv I m) e 1 - pKy (mv I m) e 0) (I (m + 8) 0) (I (m + 8) 1) = if O 1 = -1 then -1 else I (m + 1) 2 * O 1 := hs1
        rw [STEP (N 0) 1 none (by omega) (by decide) (by omega) hne1, hs1, hNk]
        by_cases c1 : O 1 = -1
        · rw [if_pos c1, if_pos c1, if_pos rfl]
        · have p1 := hprod 1 hO1 c1
          rw [if_neg c1, if_neg c1, if_neg (by omega)]
          by_cases n2 : n ≤ 2
          · rw [if_pos n2]
            have : (1 : Int) + 1 = n := by omega
            rw [this]
            exact END _ _
          · rw [if_neg n2, hset, if_neg (hmay 2 (by decide) (by omega)), if_neg (fun z => z (hord.2 (by omega)))]
            have hne2 : ¬ I (m + 8) (2 - 1) = I (m + 8) 2 := by
              have := hord.2 (by omega)
              split at this
              · show ¬ I (m + 8) 1 = _; omega
              · show ¬ I (m + 8) 1 = _; omega
            have hO2 := hOb 2 (by decide) (by omega) hne2
            have hs2 := hsO 2 (by decide) (by omega) hne2
            have hs2 : stretchS (mv I m) (pKy (mv I m) e 2 - pKy (mv I m) e 1) (I (m + 8) 1) (I (m + 8) 2) = if O 2 = -1 then -1 else I (m + 1) 2 * O 2 := hs2
            rw [show (1 : Int) + 1 = 2 from rfl, STEP _ 2 _ (by omega) (by decide) (by omega) hne2, hs2, hNk]
            by_cases c2 : O 2 = -1
            · rw [if_pos c2, if_pos c2, if_pos rfl]
            · have p2 := hprod 2 hO2 c2
              rw [if_neg c2, if_neg c2, if_neg (by omega)]
              have : (2 : Int) + 1 = n := by omega
              rw [this]
              exact END _ _
    · rw [if_neg hmay]
      refine (w_198_4 (by first | assumption | omega) (by first | assumption | omega)).trans ?_
      rw [if_neg (by decide)]
      refine (w_198_5).trans ?_
      refine ans_i ?_
      refine Classical.byContradiction fun hc => hmay (fun k k0 k1 h0 => hc ?_)
      have hk : k = 0 ∨ k = 1 ∨ k = 2 := by omega
      unfold ecostS
      simp only [hset, hzn]
      rcases hk with rfl | rfl | rfl
      · rw [if_pos h0]
      · rw [if_neg (show ¬ n ≤ 1 by omega), if_pos h0]
        split <;> rfl
      · rw [if_neg (show ¬ n ≤ 1 by omega), if_neg (show ¬ n ≤ 2 by omega), if_pos h0]
        (repeat' split) <;> rfl
  · rw [if_neg hord]
    refine (w_198_2 (by first | assumption | omega) (by first | assumption | omega)).trans ?_
    rw [if_pos rfl]
    refine (w_198_5).trans ?_
    refine ans_i ?_
    refine Classical.byContradiction fun hc => hord ⟨fun h2 => Classical.byContradiction fun h => hc ?_, fun h3 => Classical.byContradiction fun h => hc ?_⟩
    · unfold ecostS
      simp only [hR1, hzn]
      rw [if_neg (show ¬ n ≤ 1 by omega), if_pos h]
      (repeat' split) <;> rfl
    · unfold ecostS
      simp only [hR1, hzn]
      rw [if_neg (show ¬ n ≤ 1 by omega), if_neg (show ¬ n ≤ 2 by omega), if_pos h]
      (repeat' split) <;> rfl
end ME
