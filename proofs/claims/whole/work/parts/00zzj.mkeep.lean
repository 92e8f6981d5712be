/-! The reference: rows that are copied, kept, saved. -/
/-- the first k of a copy of 362 numbers -/
def cpM (I : Mm) (to : Nat) (ta : Int) (fr : Nat) (fa k : Int) : Mm := fun p i => if p = to ∧ ta ≤ i ∧ i < ta + k then I fr (fa + (i - ta)) else I p i
theorem cpM_0 {I : Mm} {to fr : Nat} {ta fa : Int} : cpM I to ta fr fa 0 = I := by funext p i; exact if_neg (by omega)
theorem cpM_p {I : Mm} {to fr p : Nat} {ta fa k : Int} (h : ¬ p = to) : cpM I to ta fr fa k p = I p := by funext i; exact if_neg (fun z => h z.1)
theorem cpM_in {I : Mm} {to fr : Nat} {ta fa k i : Int} (h : ta ≤ i ∧ i < ta + k) : cpM I to ta fr fa k to i = I fr (fa + (i - ta)) := if_pos ⟨rfl, h⟩
theorem cpM_out {I : Mm} {to fr : Nat} {ta fa k i : Int} (h : ¬ (ta ≤ i ∧ i < ta + k)) : cpM I to ta fr fa k to i = I to i := if_neg (fun z => h z.2)
theorem cpM_s {I : Mm} {to fr : Nat} {ta fa k : Int} (hk : 0 ≤ k) (hd : ¬ fr = to) : upd2 (cpM I to ta fr fa k) to (ta + k) (cpM I to ta fr fa k fr (fa + k)) = cpM I to ta fr fa (k + 1) := by
  rw [cpM_p hd]
  funext p i
  by_cases hp : p = to
  · subst hp
    by_cases hi : i = ta + k
    · subst hi
      rw [upd2_at, cpM_in (by omega)]
      congr 1; omega
    · rw [upd2_i hi]
      by_cases hr : ta ≤ i ∧ i < ta + k
      · rw [cpM_in hr, cpM_in (by omega)]
      · rw [cpM_out hr, cpM_out (by omega)]
  · rw [upd2_p hp, cpM_p hp, cpM_p hp]
/-- kept rows moved down by one: the first k numbers -/
def dnM (I : Mm) (r : Nat) (k : Int) : Mm := fun p i => if p = r ∧ 0 ≤ i ∧ i < k then I r (i + 362) else I p i
theorem dnM_0 {I : Mm} {r : Nat} : dnM I r 0 = I := by funext p i; exact if_neg (by omega)
theorem dnM_p {I : Mm} {r p : Nat} {k : Int} (h : ¬ p = r) : dnM I r k p = I p := by funext i; exact if_neg (fun z => h z.1)
theorem dnM_in {I : Mm} {r : Nat} {k i : Int} (h : 0 ≤ i ∧ i < k) : dnM I r k r i = I r (i + 362) := if_pos ⟨rfl, h⟩
theorem dnM_out {I : Mm} {r : Nat} {k i : Int} (h : ¬ (0 ≤ i ∧ i < k)) : dnM I r k r i = I r i := if_neg (fun z => h z.2)
theorem dnM_s {I : Mm} {r : Nat} {k : Int} (hk : 0 ≤ k) : upd2 (dnM I r k) r k (dnM I r k r (k + 362)) = dnM I r (k + 1) := by
  rw [dnM_out (by omega)]
  funext p i
  by_cases hp : p = r
  · subst hp
    by_cases hi : i = k
    · subst hi
      rw [upd2_at, dnM_in (by omega)]
    · rw [upd2_i hi]
      by_cases hr : 0 ≤ i ∧ i < k
      · rw [dnM_in hr, dnM_in (by omega)]
      · rw [dnM_out hr, dnM_out (by omega)]
  · rw [upd2_p hp, dnM_p hp, dnM_p hp]
/-- what keeping a row does -/
def kpM (m r : Nat) (I I' : Mm) : Prop := (∀ p, ¬ p = m → ¬ p = m + 4 → I' p = I p) ∧ (∀ i, ¬ i = 6 → I' m i = I m i) ∧ I' m 6 = (if I m 6 = 8 then 8 else I m 6 + 1) ∧ ∀ j i, 0 ≤ j → j < I' m 6 → 0 ≤ i → i < 362 → I' (m + 4) (362 * j + i) = if I m 6 = 8 then (if j = 7 then I r i else I (m + 4) (362 * (j + 1) + i)) else (if j = I m 6 then I r i else I (m + 4) (362 * j + i))
section MK
variable {g : Gm} {I : Mm} {m : Nat}
theorem s_copies {to fr : Nat} {ta fa : Int} (ht : gt g to = 0) (hf : gt g fr = 0) (hd : ¬ fr = to) (h0 : 0 ≤ ta ∧ ta + 362 ≤ gn g to) (h1 : 0 ≤ fa ∧ fa + 362 ≤ gn g fr) (hn : gn g to ≤ 10000) (hn' : gn g fr ≤ 10000) :
    cl 158 [.ref to, .int (iI ta), .ref fr, .int (iI fa)] (mk g I) = some (.inl none, mk g (cpM I to ta fr fa 362)) := by
  have hf2 : gt g fr = 0 ∨ gt g fr = 7 := Or.inl hf
  have key := loop_up (σ := Unit) (head := fun k _ => rn 158 1 [some (.ref to), some (.int (iI ta)), some (.ref fr), some (.int (iI fa)), some (.int (iI k))] [] (mk g (cpM I to ta fr fa k))) (Inv := fun k _ => 0 ≤ k) (n := 362) (by
    intro k s k1 k0
    refine ⟨(), ?_, by omega⟩
    show rn _ _ _ _ _ = rn _ _ _ _ _
    rw [← cpM_s k0 hd]
    refine (w_158_1 (by first | assumption | omega) (by first | assumption | omega)).trans ?_
    refine (if_neg (by omega)).trans ?_
    simp (maxSteps := 2000000) (disch := first | assumption | omega) only [aft_v, aft_n, aft_t, Nat.add_assoc, Nat.reduceAdd, if_true, if_false, not_true_eq_false, not_false_eq_true, Classical.not_not, Int.reduceAdd, Int.reduceSub, Int.reduceMul, Int.reduceNeg, Int.reduceLT, Int.reduceLE, Int.reduceEq, Int.add_zero, Int.zero_add, Int.sub_zero, w_158_2]) 0 () (by decide) (by decide)
  obtain ⟨-, key, -⟩ := key
  have key : rn 158 1 [some (.ref to), some (.int (iI ta)), some (.ref fr), some (.int (iI fa)), some (.int (iI 0))] [] (mk g (cpM I to ta fr fa 0)) = rn 158 1 [some (.ref to), some (.int (iI ta)), some (.ref fr), some (.int (iI fa)), some (.int (iI 362))] [] (mk g (cpM I to ta fr fa 362)) := key
  rw [cpM_0] at key
  refine c_158.trans ?_
  refine (w_158_0).trans ?_
  refine key.trans ?_
  refine (w_158_1 (by first | assumption | omega) (by first | assumption | omega)).trans ?_
  refine (if_pos (by omega)).trans ?_
  simp (maxSteps := 2000000) (disch := first | assumption | omega) only [aft_v, aft_n, aft_t, Nat.add_assoc, Nat.reduceAdd, if_true, if_false, not_true_eq_false, not_false_eq_true, Classical.not_not, Int.reduceAdd, Int.reduceSub, Int.reduceMul, Int.reduceNeg, Int.reduceLT, Int.reduceLE, Int.reduceEq, Int.add_zero, Int.zero_add, Int.sub_zero, w_158_3]
theorem s_keeps {r : Nat} (hm : isM g m) (hr : r = m + 1 ∨ r = m + 2) (hn : 0 ≤ I m 6 ∧ I m 6 ≤ 8) :
    ∃ I', cl 159 [.ref m, .ref r] (mk g I) = some (.inl none, mk g I') ∧ kpM m r I I' := by
  have hm' := hm
  obtain ⟨t_0, ⟨t_1, d_1, n_1⟩, ⟨t_2, d_2, n_2⟩, ⟨t_3, d_3, n_3⟩, ⟨t_4, d_4, n_4⟩, ⟨t_5, d_5, n_5⟩, ⟨t_6, n_6⟩, ⟨t_7, d_7, n_7⟩, ⟨t_8, d_8, n_8⟩, ⟨t_9, d_9, n_9⟩, ⟨t_10, d_10, n_10⟩, ⟨t_11, d_11, n_11⟩, ⟨t_12, d_12, n_12⟩, ⟨t_13, d_13, n_13⟩, ⟨t_14, d_14, n_14⟩, ⟨t_15, n_15⟩, ⟨t_16, n_16⟩, ⟨t_17, d_17, n_17⟩, ⟨t_18, d_18, n_18⟩⟩ := hm
  have tr : gt g r = 0 := by rcases hr with rfl | rfl <;> assumption
  have nr : gn g r = 362 := by rcases hr with rfl | rfl <;> assumption
  have rne : ¬ r = m + 4 := by omega
  have rnm : ¬ r = m := by omega
  have cp : ∀ (K : Mm), 0 ≤ K m 6 → K m 6 ≤ 7 → cl 158 [.ref (m + 4), .int (iI (362 * K m 6)), .ref r, .int (iI 0)] (mk g K) = some (.inl none, mk g (cpM K (m + 4) (362 * K m 6) r 0 362)) := fun K h0 h1 => s_copies t_4 tr rne (by omega) (by omega) (by omega) (by omega)
  by_cases h8 : I m 6 = 8
  · have key := loop_up (σ := Unit) (head := fun k _ => rn 159 2 [some (.ref m), some (.ref r), some (.int (iI k))] [] (mk g (dnM I (m + 4) k))) (Inv := fun k _ => 0 ≤ k) (n := 2534) (by
      intro k s k1 k0
      refine ⟨(), ?_, by omega⟩
      show rn _ _ _ _ _ = rn _ _ _ _ _
      rw [← dnM_s k0]
      refine (w_159_2 (by first | assumption | omega) (by first | assumption | omega)).trans ?_
      refine (if_neg (by omega)).trans ?_
      simp (maxSteps := 2000000) (disch := first | assumption | omega) only [aft_v, aft_n, aft_t, Nat.add_assoc, Nat.reduceAdd, if_true, if_false, not_true_eq_false, not_false_eq_true, Classical.not_not, Int.reduceAdd, Int.reduceSub, Int.reduceMul, Int.reduceNeg, Int.reduceLT, Int.reduceLE, Int.reduceEq, Int.add_zero, Int.zero_add, Int.sub_zero, w_159_3]) 0 () (by decide) (by decide)
    obtain ⟨-, key, -⟩ := key
    have key : rn 159 2 [some (.ref m), some (.ref r), some (.int (iI 0))] [] (mk g (dnM I (m + 4) 0)) = rn 159 2 [some (.ref m), some (.ref r), some (.int (iI 2534))] [] (mk g (dnM I (m + 4) 2534)) := key
    rw [dnM_0] at key
    obtain ⟨K, hK⟩ : ∃ K, K = upd2 (dnM I (m + 4) 2534) m 6 7 := ⟨_, rfl⟩
    have k6 : K m 6 = 7 := by rw [hK, upd2_at]
    have kp : ∀ p, ¬ p = m → ¬ p = m + 4 → K p = I p := fun p hp hq => by rw [hK]; exact funext fun j => by rw [upd2_p hp, dnM_p hq]
    have k4 : ∀ i, 0 ≤ i → i < 2534 → K (m + 4) i = I (m + 4) (i + 362) := fun i h0 h1 => by rw [hK, upd2_p (by omega), dnM_in ⟨h0, h1⟩]
    have c := cp K (by omega) (by omega)
    rw [k6] at c
    have d6 : dnM I (m + 4) 2534 m 6 = 8 := by rw [dnM_p (by omega), h8]
    have c6 : cpM K (m + 4) 2534 r 0 362 m 6 = 7 := by rw [cpM_p (by omega), k6]
    have c : cl 158 [.ref (m + 4), .int (iI 2534), .ref r, .int (iI 0)] (mk g K) = some (.inl none, mk g (cpM K (m + 4) 2534 r 0 362)) := c
    refine ⟨upd2 (cpM K (m + 4) 2534 r 0 362) m 6 8, ?_, ?_, ?_, ?_, ?_⟩
    · simp (maxSteps := 2000000) (disch := first | assumption | omega) only [aft_v, aft_n, aft_t, Nat.add_assoc, Nat.reduceAdd, if_true, if_false, not_true_eq_false, not_false_eq_true, Classical.not_not, Int.reduceAdd, Int.reduceSub, Int.reduceMul, Int.reduceNeg, Int.reduceLT, Int.reduceLE, Int.reduceEq, Int.add_zero, Int.zero_add, Int.sub_zero, c_159, w_159_0, w_159_1, h8]
      rw [key]
      refine (w_159_2 (by first | assumption | omega) (by first | assumption | omega)).trans ?_
      refine (if_pos (by omega)).trans ?_
      simp (maxSteps := 2000000) (disch := first | assumption | omega) only [aft_v, aft_n, aft_t, Nat.add_assoc, Nat.reduceAdd, if_true, if_false, not_true_eq_false, not_false_eq_true, Classical.not_not, Int.reduceAdd, Int.reduceSub, Int.reduceMul, Int.reduceNeg, Int.reduceLT, Int.reduceLE, Int.reduceEq, Int.add_zero, Int.zero_add, Int.sub_zero, w_159_4, d6]
      rw [← hK]
      simp (maxSteps := 2000000) (disch := first | assumption | omega) only [aft_v, aft_n, aft_t, Nat.add_assoc, Nat.reduceAdd, if_true, if_false, not_true_eq_false, not_false_eq_true, Classical.not_not, Int.reduceAdd, Int.reduceSub, Int.reduceMul, Int.reduceNeg, Int.reduceLT, Int.reduceLE, Int.reduceEq, Int.add_zero, Int.zero_add, Int.sub_zero, w_159_5, w_159_6, k6, c, c6]
    · intro p hp hq
      funext j
      rw [upd2_p hp, cpM_p hq, kp p hp hq]
    · intro i hi
      rw [upd2_i hi, cpM_p (by omega), hK, upd2_i hi, dnM_p (by omega)]
    · rw [upd2_at, if_pos h8]
    · intro j i j0 j1 i0 i1
      rw [upd2_at] at j1
      rw [if_pos h8, upd2_p (by omega)]
      by_cases hj : j = 7
      · subst hj
        rw [if_pos rfl, cpM_in (by omega), kp r rnm rne]
        congr 1; omega
      · rw [if_neg hj, cpM_out (by omega), k4 _ (by omega) (by omega)]
        congr 1; omega
  · have c := cp I (by omega) (by omega)
    have c6 : cpM I (m + 4) (362 * I m 6) r 0 362 m 6 = I m 6 := by rw [cpM_p (by omega)]
    refine ⟨upd2 (cpM I (m + 4) (362 * I m 6) r 0 362) m 6 (I m 6 + 1), ?_, ?_, ?_, ?_, ?_⟩
    · simp (maxSteps := 2000000) (disch := first | assumption | omega) only [aft_v, aft_n, aft_t, Nat.add_assoc, Nat.reduceAdd, if_true, if_false, not_true_eq_false, not_false_eq_true, Classical.not_not, Int.reduceAdd, Int.reduceSub, Int.reduceMul, Int.reduceNeg, Int.reduceLT, Int.reduceLE, Int.reduceEq, Int.add_zero, Int.zero_add, Int.sub_zero, c_159, w_159_0, w_159_5, w_159_6, h8, c, c6]
    · intro p hp hq
      funext j
      rw [upd2_p hp, cpM_p hq]
    · intro i hi
      rw [upd2_i hi, cpM_p (by omega)]
    · rw [upd2_at, if_neg h8]
    · intro j i j0 j1 i0 i1
      rw [upd2_at] at j1
      rw [if_neg h8, upd2_p (by omega)]
      by_cases hj : j = I m 6
      · rw [if_pos hj, cpM_in (by omega)]
        congr 1; omega
      · rw [if_neg hj, cpM_out (by omega)]
theorem s_undoM (hm : isM g m) (hn : 1 ≤ I m 6 ∧ I m 6 ≤ 8) :
    ∃ I', cl 160 [.ref m] (mk g I) = some (.inl (some (.int (iI (I m 6 - 1)))), mk g I') ∧ (∀ p, ¬ p = m → ¬ p = m + 1 → I' p = I p) ∧ (∀ i, ¬ i = 6 → ¬ i = 7 → I' m i = I m i) ∧ I' m 6 = I m 6 - 1 ∧ I' m 7 = 0 ∧ ∀ i, 0 ≤ i → i < 362 → I' (m + 1) i = I (m + 4) (362 * (I m 6 - 1) + i) := by
  obtain ⟨t_0, ⟨t_1, d_1, n_1⟩, ⟨t_2, d_2, n_2⟩, ⟨t_3, d_3, n_3⟩, ⟨t_4, d_4, n_4⟩, ⟨t_5, d_5, n_5⟩, ⟨t_6, n_6⟩, ⟨t_7, d_7, n_7⟩, ⟨t_8, d_8, n_8⟩, ⟨t_9, d_9, n_9⟩, ⟨t_10, d_10, n_10⟩, ⟨t_11, d_11, n_11⟩, ⟨t_12, d_12, n_12⟩, ⟨t_13, d_13, n_13⟩, ⟨t_14, d_14, n_14⟩, ⟨t_15, n_15⟩, ⟨t_16, n_16⟩, ⟨t_17, d_17, n_17⟩, ⟨t_18, d_18, n_18⟩⟩ := hm
  have u7 : upd2 I m 7 0 m 7 = 0 := upd2_at
  have u6 : upd2 I m 7 0 m 6 = I m 6 := upd2_i (by decide)
  obtain ⟨K, hK⟩ : ∃ K, K = upd2 (upd2 I m 7 0) m 6 (I m 6 - 1) := ⟨_, rfl⟩
  have k6 : K m 6 = I m 6 - 1 := by rw [hK, upd2_at]
  have c := s_copies (g := g) (I := K) (to := m + 1) (fr := m + 4) (ta := 0) (fa := 362 * (I m 6 - 1)) t_1 t_4 (by omega) (by omega) (by omega) (by omega) (by omega)
  have c6 : cpM K (m + 1) 0 (m + 4) (362 * (I m 6 - 1)) 362 m 6 = I m 6 - 1 := by rw [cpM_p (by omega), k6]
  have u62 : upd2 (upd2 I m 7 0) m 6 (I m 6 - 1) m 6 = I m 6 - 1 := upd2_at
  refine ⟨cpM K (m + 1) 0 (m + 4) (362 * (I m 6 - 1)) 362, ?_, ?_, ?_, ?_, ?_, ?_⟩
  · rw [hK] at c
    rw [hK]
    rw [hK] at c6
    simp (maxSteps := 2000000) (disch := first | assumption | omega) only [aft_v, aft_n, aft_t, Nat.add_assoc, Nat.reduceAdd, if_true, if_false, not_true_eq_false, not_false_eq_true, Classical.not_not, Int.reduceAdd, Int.reduceSub, Int.reduceMul, Int.reduceNeg, Int.reduceLT, Int.reduceLE, Int.reduceEq, Int.add_zero, Int.zero_add, Int.sub_zero, c_160, w_160_0, w_160_2, w_160_3, w_160_5, w_160_6, u7, u6, u62, c, c6, show ¬ I m 6 = 0 by omega, if_pos (Int.le_refl 0)]
  · intro p hp hq
    rw [cpM_p hq, hK]
    funext j
    rw [upd2_p hp, upd2_p hp]
  · intro i hi hj
    rw [cpM_p (by omega), hK, upd2_i hi, upd2_i hj]
  · exact c6
  · rw [cpM_p (by omega), hK, upd2_i (by decide), upd2_at]
  · intro i i0 i1
    rw [cpM_in (by omega), hK, upd2_p (by omega), upd2_p (by omega)]
    congr 1; omega
theorem s_undoBad (hm : isM g m) (hn : I m 6 = 0) : cl 160 [.ref m] (mk g I) = some (.inl (some (.int (iI 0))), mk g (upd2 I m 7 1)) := by
  obtain ⟨t_0, ⟨t_1, d_1, n_1⟩, ⟨t_2, d_2, n_2⟩, ⟨t_3, d_3, n_3⟩, ⟨t_4, d_4, n_4⟩, ⟨t_5, d_5, n_5⟩, ⟨t_6, n_6⟩, ⟨t_7, d_7, n_7⟩, ⟨t_8, d_8, n_8⟩, ⟨t_9, d_9, n_9⟩, ⟨t_10, d_10, n_10⟩, ⟨t_11, d_11, n_11⟩, ⟨t_12, d_12, n_12⟩, ⟨t_13, d_13, n_13⟩, ⟨t_14, d_14, n_14⟩, ⟨t_15, n_15⟩, ⟨t_16, n_16⟩, ⟨t_17, d_17, n_17⟩, ⟨t_18, d_18, n_18⟩⟩ := hm
  have u7 : upd2 I m 7 1 m 7 = 1 := upd2_at
  simp (maxSteps := 2000000) (disch := first | assumption | omega) only [aft_v, aft_n, aft_t, Nat.add_assoc, Nat.reduceAdd, if_true, if_false, not_true_eq_false, not_false_eq_true, Classical.not_not, Int.reduceAdd, Int.reduceSub, Int.reduceMul, Int.reduceNeg, Int.reduceLT, Int.reduceLE, Int.reduceEq, Int.add_zero, Int.zero_add, Int.sub_zero, c_160, w_160_0, w_160_1, w_160_3, w_160_4, u7, hn, if_neg (show ¬ (1 : Int) ≤ 0 by decide)]
theorem s_saveM {s : Int} (hm : isM g m) (hs : 0 ≤ s ∧ s ≤ 1) :
    ∃ I', cl 161 [.ref m, .int (iI s)] (mk g I) = some (.inl none, mk g I') ∧ (∀ p, ¬ p = m → ¬ p = m + 5 → ¬ p = m + 6 → I' p = I p) ∧ (∀ i, ¬ i = 7 → I' m i = I m i) ∧ I' m 7 = 0 ∧ I' (m + 6) s = 1 ∧ (∀ j, ¬ j = s → I' (m + 6) j = I (m + 6) j) ∧ (∀ i, 0 ≤ i → i < 362 → I' (m + 5) (362 * s + i) = I (m + 1) i) ∧ (∀ j i, 0 ≤ j → j ≤ 1 → ¬ j = s → 0 ≤ i → i < 362 → I' (m + 5) (362 * j + i) = I (m + 5) (362 * j + i)) := by
  have q := s_isIn (g := g) (I := I) (a := s) (b := 0) (c := 1) (by omega) (by omega) (by omega)
  rw [if_pos hs] at q
  obtain ⟨t_0, ⟨t_1, d_1, n_1⟩, ⟨t_2, d_2, n_2⟩, ⟨t_3, d_3, n_3⟩, ⟨t_4, d_4, n_4⟩, ⟨t_5, d_5, n_5⟩, ⟨t_6, n_6⟩, ⟨t_7, d_7, n_7⟩, ⟨t_8, d_8, n_8⟩, ⟨t_9, d_9, n_9⟩, ⟨t_10, d_10, n_10⟩, ⟨t_11, d_11, n_11⟩, ⟨t_12, d_12, n_12⟩, ⟨t_13, d_13, n_13⟩, ⟨t_14, d_14, n_14⟩, ⟨t_15, n_15⟩, ⟨t_16, n_16⟩, ⟨t_17, d_17, n_17⟩, ⟨t_18, d_18, n_18⟩⟩ := hm
  have u7 : upd2 I m 7 0 m 7 = 0 := upd2_at
  obtain ⟨K, hK⟩ : ∃ K, K = upd2 I m 7 0 := ⟨_, rfl⟩
  have c := s_copies (g := g) (I := K) (to := m + 5) (fr := m + 1) (ta := 362 * s) (fa := 0) t_5 t_1 (by omega) (by omega) (by omega) (by omega) (by omega)
  refine ⟨upd2 (cpM K (m + 5) (362 * s) (m + 1) 0 362) (m + 6) s 1, ?_, ?_, ?_, ?_, ?_, ?_, ?_, ?_⟩
  · rw [hK] at c
    rw [hK]
    simp (maxSteps := 2000000) (disch := first | assumption | omega) only [aft_v, aft_n, aft_t, Nat.add_assoc, Nat.reduceAdd, if_true, if_false, not_true_eq_false, not_false_eq_true, Classical.not_not, Int.reduceAdd, Int.reduceSub, Int.reduceMul, Int.reduceNeg, Int.reduceLT, Int.reduceLE, Int.reduceEq, Int.add_zero, Int.zero_add, Int.sub_zero, c_161, w_161_0, w_161_1, w_161_2, w_161_4, w_161_6, w_161_7, q, u7, c, show ¬ (1 : Int) = 0 by decide, if_pos (Int.le_refl 0)]
  · intro p hp hq hr
    funext j
    rw [upd2_p hr, cpM_p hq, hK, upd2_p hp]
  · intro i hi
    rw [upd2_p (by omega), cpM_p (by omega), hK, upd2_i hi]
  · rw [upd2_p (by omega), cpM_p (by omega), hK, upd2_at]
  · exact upd2_at
  · intro j hj
    rw [upd2_i hj, cpM_p (by omega), hK, upd2_p (by omega)]
  · intro i i0 i1
    rw [upd2_p (by omega), cpM_in (by omega), hK, upd2_p (by omega)]
    congr 1; omega
  · intro j i j0 j1 hj i0 i1
    rw [upd2_p (by omega), cpM_out (by omega), hK, upd2_p (by omega)]
theorem s_saveBad {s : Int} (hm : isM g m) (hr : (-2147483648 ≤ s ∧ s < 2147483648)) (hs : ¬ (0 ≤ s ∧ s ≤ 1)) : cl 161 [.ref m, .int (iI s)] (mk g I) = some (.inl none, mk g (upd2 I m 7 1)) := by
  have q := s_isIn (g := g) (I := I) (a := s) (b := 0) (c := 1) (by omega) (by omega) (by omega)
  rw [if_neg hs] at q
  obtain ⟨t_0, ⟨t_1, d_1, n_1⟩, ⟨t_2, d_2, n_2⟩, ⟨t_3, d_3, n_3⟩, ⟨t_4, d_4, n_4⟩, ⟨t_5, d_5, n_5⟩, ⟨t_6, n_6⟩, ⟨t_7, d_7, n_7⟩, ⟨t_8, d_8, n_8⟩, ⟨t_9, d_9, n_9⟩, ⟨t_10, d_10, n_10⟩, ⟨t_11, d_11, n_11⟩, ⟨t_12, d_12, n_12⟩, ⟨t_13, d_13, n_13⟩, ⟨t_14, d_14, n_14⟩, ⟨t_15, n_15⟩, ⟨t_16, n_16⟩, ⟨t_17, d_17, n_17⟩, ⟨t_18, d_18, n_18⟩⟩ := hm
  have u7 : upd2 I m 7 1 m 7 = 1 := upd2_at
  simp (maxSteps := 2000000) (disch := first | assumption | omega) only [aft_v, aft_n, aft_t, Nat.add_assoc, Nat.reduceAdd, if_true, if_false, not_true_eq_false, not_false_eq_true, Classical.not_not, Int.reduceAdd, Int.reduceSub, Int.reduceMul, Int.reduceNeg, Int.reduceLT, Int.reduceLE, Int.reduceEq, Int.add_zero, Int.zero_add, Int.sub_zero, c_161, w_161_0, w_161_1, w_161_3, w_161_4, w_161_5, q, u7, if_neg (show ¬ (1 : Int) ≤ 0 by decide)]
theorem s_restoreM {s : Int} (hm : isM g m) (hs : 0 ≤ s ∧ s ≤ 1) (hn : 0 ≤ I m 6 ∧ I m 6 ≤ 8) (h1 : I (m + 6) s = 1) :
    ∃ K I', cl 162 [.ref m, .int (iI s)] (mk g I) = some (.inl (some (.int (iI (I (m + 5) (362 * s))))), mk g I') ∧ kpM m (m + 1) (upd2 I m 7 0) K ∧ (∀ p, ¬ p = m + 1 → I' p = K p) ∧ (∀ i, 0 ≤ i → i < 362 → I' (m + 1) i = I (m + 5) (362 * s + i)) := by
  have q := s_isIn (g := g) (I := I) (a := s) (b := 0) (c := 1) (by omega) (by omega) (by omega)
  rw [if_pos hs] at q
  have hm' := hm
  obtain ⟨K, k1, k2⟩ := s_keeps (g := g) (I := upd2 I m 7 0) (r := m + 1) hm (Or.inl rfl) (by rw [upd2_i (by decide)]; exact hn)
  obtain ⟨t_0, ⟨t_1, d_1, n_1⟩, ⟨t_2, d_2, n_2⟩, ⟨t_3, d_3, n_3⟩, ⟨t_4, d_4, n_4⟩, ⟨t_5, d_5, n_5⟩, ⟨t_6, n_6⟩, ⟨t_7, d_7, n_7⟩, ⟨t_8, d_8, n_8⟩, ⟨t_9, d_9, n_9⟩, ⟨t_10, d_10, n_10⟩, ⟨t_11, d_11, n_11⟩, ⟨t_12, d_12, n_12⟩, ⟨t_13, d_13, n_13⟩, ⟨t_14, d_14, n_14⟩, ⟨t_15, n_15⟩, ⟨t_16, n_16⟩, ⟨t_17, d_17, n_17⟩, ⟨t_18, d_18, n_18⟩⟩ := hm
  have u7 : upd2 I m 7 0 m 7 = 0 := upd2_at
  have c := s_copies (g := g) (I := K) (to := m + 1) (fr := m + 5) (ta := 0) (fa := 362 * s) t_1 t_5 (by omega) (by omega) (by omega) (by omega) (by omega)
  have k5 : K (m + 5) = I (m + 5) := by rw [k2.1 _ (by omega) (by omega)]; exact funext fun j => upd2_p (by omega)
  have e := s_events (g := g) (I := cpM K (m + 1) 0 (m + 5) (362 * s) 362) hm'
  rw [cpM_in (by omega), k5, show 362 * s + (0 - 0) = 362 * s by omega] at e
  refine ⟨K, cpM K (m + 1) 0 (m + 5) (362 * s) 362, ?_, k2, fun p hp => cpM_p hp, fun i i0 i1 => ?_⟩
  · simp (maxSteps := 2000000) (disch := first | assumption | omega) only [aft_v, aft_n, aft_t, Nat.add_assoc, Nat.reduceAdd, if_true, if_false, not_true_eq_false, not_false_eq_true, Classical.not_not, Int.reduceAdd, Int.reduceSub, Int.reduceMul, Int.reduceNeg, Int.reduceLT, Int.reduceLE, Int.reduceEq, Int.add_zero, Int.zero_add, Int.sub_zero, c_162, w_162_0, w_162_1, w_162_3, w_162_4, w_162_6, w_162_8, w_162_9, w_162_10, w_162_11, q, u7, h1, k1, c, e, show ¬ (1 : Int) = 0 by decide, if_pos (Int.le_refl 0)]
  · rw [cpM_in (by omega), k5]
    congr 1; omega
theorem s_restoreBad {s : Int} (hm : isM g m) (hr : (-2147483648 ≤ s ∧ s < 2147483648)) (hs : ¬ (0 ≤ s ∧ s ≤ 1)) : cl 162 [.ref m, .int (iI s)] (mk g I) = some (.inl (some (.int (iI 0))), mk g (upd2 I m 7 1)) := by
  have q := s_isIn (g := g) (I := I) (a := s) (b := 0) (c := 1) (by omega) (by omega) (by omega)
  rw [if_neg hs] at q
  obtain ⟨t_0, ⟨t_1, d_1, n_1⟩, ⟨t_2, d_2, n_2⟩, ⟨t_3, d_3, n_3⟩, ⟨t_4, d_4, n_4⟩, ⟨t_5, d_5, n_5⟩, ⟨t_6, n_6⟩, ⟨t_7, d_7, n_7⟩, ⟨t_8, d_8, n_8⟩, ⟨t_9, d_9, n_9⟩, ⟨t_10, d_10, n_10⟩, ⟨t_11, d_11, n_11⟩, ⟨t_12, d_12, n_12⟩, ⟨t_13, d_13, n_13⟩, ⟨t_14, d_14, n_14⟩, ⟨t_15, n_15⟩, ⟨t_16, n_16⟩, ⟨t_17, d_17, n_17⟩, ⟨t_18, d_18, n_18⟩⟩ := hm
  have u7 : upd2 I m 7 1 m 7 = 1 := upd2_at
  simp (maxSteps := 2000000) (disch := first | assumption | omega) only [aft_v, aft_n, aft_t, Nat.add_assoc, Nat.reduceAdd, if_true, if_false, not_true_eq_false, not_false_eq_true, Classical.not_not, Int.reduceAdd, Int.reduceSub, Int.reduceMul, Int.reduceNeg, Int.reduceLT, Int.reduceLE, Int.reduceEq, Int.add_zero, Int.zero_add, Int.sub_zero, c_162, w_162_0, w_162_1, w_162_2, w_162_6, w_162_7, q, u7, if_neg (show ¬ (1 : Int) ≤ 0 by decide)]
theorem s_restoreNo {s : Int} (hm : isM g m) (hs : 0 ≤ s ∧ s ≤ 1) (h1 : I (m + 6) s = 0) : cl 162 [.ref m, .int (iI s)] (mk g I) = some (.inl (some (.int (iI 0))), mk g (upd2 I m 7 2)) := by
  have q := s_isIn (g := g) (I := I) (a := s) (b := 0) (c := 1) (by omega) (by omega) (by omega)
  rw [if_pos hs] at q
  obtain ⟨t_0, ⟨t_1, d_1, n_1⟩, ⟨t_2, d_2, n_2⟩, ⟨t_3, d_3, n_3⟩, ⟨t_4, d_4, n_4⟩, ⟨t_5, d_5, n_5⟩, ⟨t_6, n_6⟩, ⟨t_7, d_7, n_7⟩, ⟨t_8, d_8, n_8⟩, ⟨t_9, d_9, n_9⟩, ⟨t_10, d_10, n_10⟩, ⟨t_11, d_11, n_11⟩, ⟨t_12, d_12, n_12⟩, ⟨t_13, d_13, n_13⟩, ⟨t_14, d_14, n_14⟩, ⟨t_15, n_15⟩, ⟨t_16, n_16⟩, ⟨t_17, d_17, n_17⟩, ⟨t_18, d_18, n_18⟩⟩ := hm
  have u7 : upd2 I m 7 2 m 7 = 2 := upd2_at
  simp (maxSteps := 2000000) (disch := first | assumption | omega) only [aft_v, aft_n, aft_t, Nat.add_assoc, Nat.reduceAdd, if_true, if_false, not_true_eq_false, not_false_eq_true, Classical.not_not, Int.reduceAdd, Int.reduceSub, Int.reduceMul, Int.reduceNeg, Int.reduceLT, Int.reduceLE, Int.reduceEq, Int.add_zero, Int.zero_add, Int.sub_zero, c_162, w_162_0, w_162_1, w_162_3, w_162_5, w_162_6, w_162_7, q, u7, h1, show ¬ (1 : Int) = 0 by decide, if_neg (show ¬ (2 : Int) ≤ 0 by decide)]
theorem s_sets {k v : Int} (hm : isM g m) (hn : 0 ≤ I m 6 ∧ I m 6 ≤ 8) (hk : 0 ≤ k ∧ k < 362) :
    ∃ K, cl 252 [.ref m, .int (iI k), .int (iI v)] (mk g I) = some (.inl (some (.int (iI (I (m + 1) k)))), mk g (upd2 K (m + 1) k v)) ∧ kpM m (m + 1) I K := by
  obtain ⟨K, k1, k2⟩ := s_keeps (g := g) (I := I) (r := m + 1) hm (Or.inl rfl) hn
  obtain ⟨t_0, ⟨t_1, d_1, n_1⟩, ⟨t_2, d_2, n_2⟩, ⟨t_3, d_3, n_3⟩, ⟨t_4, d_4, n_4⟩, ⟨t_5, d_5, n_5⟩, ⟨t_6, n_6⟩, ⟨t_7, d_7, n_7⟩, ⟨t_8, d_8, n_8⟩, ⟨t_9, d_9, n_9⟩, ⟨t_10, d_10, n_10⟩, ⟨t_11, d_11, n_11⟩, ⟨t_12, d_12, n_12⟩, ⟨t_13, d_13, n_13⟩, ⟨t_14, d_14, n_14⟩, ⟨t_15, n_15⟩, ⟨t_16, n_16⟩, ⟨t_17, d_17, n_17⟩, ⟨t_18, d_18, n_18⟩⟩ := hm
  have e1 : K (m + 1) k = I (m + 1) k := by rw [k2.1 _ (by omega) (by omega)]
  refine ⟨K, ?_, k2⟩
  simp (maxSteps := 2000000) (disch := first | assumption | omega) only [aft_v, aft_n, aft_t, Nat.add_assoc, Nat.reduceAdd, if_true, if_false, not_true_eq_false, not_false_eq_true, Classical.not_not, Int.reduceAdd, Int.reduceSub, Int.reduceMul, Int.reduceNeg, Int.reduceLT, Int.reduceLE, Int.reduceEq, Int.add_zero, Int.zero_add, Int.sub_zero, c_252, w_252_0, w_252_1, k1, e1]
end MK
