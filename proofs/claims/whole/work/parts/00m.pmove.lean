/-! Piece: its changes. -/
theorem ans_m {g : Gm} {I I' : Mm} {v : Option Value} (e : I = I') : (some (Sum.inl v, mk g I) : Option Rs) = some (Sum.inl v, mk g I') := by rw [e]
def mvE (I : Mm) (q : Nat) (a b : Int) : Mm := fun p i => if p = q + 2 ∧ i = b then I (q + 2) a else if p = q + 4 ∧ i = b then I (q + 4) a else if (p = q + 6 ∨ p = q + 8) ∧ b * 3 ≤ i ∧ i < b * 3 + 3 then I p (i - b * 3 + a * 3) else I p i
section PMV
variable {g : Gm} {I : Mm} {q : Nat}
theorem s_moveEvent {a b : Int} (hp : isPc g q) (ha : 0 ≤ a ∧ a < 40) (hb : 0 ≤ b ∧ b < 40) (hab : ¬ a = b) : cl 6 [.ref q, .int (iI a), .int (iI b)] (mk g I) = some (.inl none, mk g (mvE I q a b)) := by
  obtain ⟨p_0, ⟨p_1, q_1, p_2⟩, ⟨p_3, q_3, p_4⟩, ⟨p_5, q_5, p_6⟩, ⟨p_7, q_7, p_8⟩, ⟨p_9, q_9, p_10⟩, ⟨p_11, q_11, p_12⟩, ⟨p_13, q_13, p_14⟩, ⟨p_15, q_15, p_16⟩⟩ := hp
  simp (maxSteps := 2000000) (disch := first | assumption | omega) only [aft_v, aft_n, aft_t, Nat.add_assoc, Nat.reduceAdd, if_true, if_false, not_true_eq_false, not_false_eq_true, Classical.not_not, Int.reduceAdd, Int.reduceSub, Int.reduceMul, Int.reduceNeg, Int.reduceLT, Int.reduceLE, Int.reduceEq, Int.add_zero, Int.zero_add, Int.sub_zero, c_6, w_6_0, w_6_1, w_6_2, w_6_3, w_6_4, w_6_5, w_6_6, w_6_7, w_6_8, w_6_9, w_6_10, w_6_11, w_6_12, w_6_13, w_6_14, w_6_15, s_row_get, s_row_put, s_placeOf, upd2_p, upd2_i]
  refine ans_m ?_
  funext p i
  unfold mvE
  by_cases h2 : p = q + 2
  · subst h2
    simp (disch := first | assumption | omega) only [upd2_p]
    by_cases hi : i = b
    · subst hi; rw [if_pos ⟨True.intro, rfl⟩]; simp (disch := first | assumption | omega) only [upd2_at]
    · rw [if_neg (by omega), if_neg (by omega), if_neg (by omega)]; simp (disch := first | assumption | omega) only [upd2_i]
  by_cases h4 : p = q + 4
  · subst h4
    simp (disch := first | assumption | omega) only [upd2_p]
    by_cases hi : i = b
    · subst hi; rw [if_neg (by omega), if_pos ⟨True.intro, rfl⟩]; simp (disch := first | assumption | omega) only [upd2_at]
    · rw [if_neg (by omega), if_neg (by omega), if_neg (by omega)]; simp (disch := first | assumption | omega) only [upd2_i]
  rw [if_neg (by omega), if_neg (by omega)]
  by_cases h6 : p = q + 6
  · subst h6
    by_cases i0 : i = b * 3
    · subst i0; rw [if_pos (by omega), show b * 3 - b * 3 + a * 3 = a * 3 by omega]; simp (disch := first | assumption | omega) only [upd2_at, upd2_p, upd2_i]
    by_cases i1 : i = b * 3 + 1
    · subst i1; rw [if_pos (by omega), show b * 3 + 1 - b * 3 + a * 3 = a * 3 + 1 by omega]; simp (disch := first | assumption | omega) only [upd2_at, upd2_p, upd2_i]
    by_cases i2 : i = b * 3 + 2
    · subst i2; rw [if_pos (by omega), show b * 3 + 2 - b * 3 + a * 3 = a * 3 + 2 by omega]; simp (disch := first | assumption | omega) only [upd2_at, upd2_p, upd2_i]
    rw [if_neg (by omega)]; simp (disch := first | assumption | omega) only [upd2_p, upd2_i]
  by_cases h8 : p = q + 8
  · subst h8
    by_cases i0 : i = b * 3
    · subst i0; rw [if_pos (by omega), show b * 3 - b * 3 + a * 3 = a * 3 by omega]; simp (disch := first | assumption | omega) only [upd2_at, upd2_p, upd2_i]
    by_cases i1 : i = b * 3 + 1
    · subst i1; rw [if_pos (by omega), show b * 3 + 1 - b * 3 + a * 3 = a * 3 + 1 by omega]; simp (disch := first | assumption | omega) only [upd2_at, upd2_p, upd2_i]
    by_cases i2 : i = b * 3 + 2
    · subst i2; rw [if_pos (by omega), show b * 3 + 2 - b * 3 + a * 3 = a * 3 + 2 by omega]; simp (disch := first | assumption | omega) only [upd2_at, upd2_p, upd2_i]
    rw [if_neg (by omega)]; simp (disch := first | assumption | omega) only [upd2_p, upd2_i]
  rw [if_neg (by omega)]; simp (disch := first | assumption | omega) only [upd2_p]
theorem s_putNote {e k v : Int} (hp : isPc g q) (he : 0 ≤ e ∧ e < 40) (hk : 0 ≤ k ∧ k < 3) : cl 7 [.ref q, .int (iI e), .int (iI k), .int (iI v)] (mk g I) = some (.inl none, mk g (upd2 (upd2 (upd2 I (q + 6) (e * 3 + k) v) (q + 8) (e * 3 + k) 31) (q + 2) e (k + 1))) := by
  obtain ⟨p_0, ⟨p_1, q_1, p_2⟩, ⟨p_3, q_3, p_4⟩, ⟨p_5, q_5, p_6⟩, ⟨p_7, q_7, p_8⟩, ⟨p_9, q_9, p_10⟩, ⟨p_11, q_11, p_12⟩, ⟨p_13, q_13, p_14⟩, ⟨p_15, q_15, p_16⟩⟩ := hp
  simp (maxSteps := 2000000) (disch := first | assumption | omega) only [aft_v, aft_n, aft_t, Nat.add_assoc, Nat.reduceAdd, if_true, if_false, not_true_eq_false, not_false_eq_true, Classical.not_not, Int.reduceAdd, Int.reduceSub, Int.reduceMul, Int.reduceNeg, Int.reduceLT, Int.reduceLE, Int.reduceEq, Int.add_zero, Int.zero_add, Int.sub_zero, c_7, w_7_0, w_7_1, w_7_2, w_7_3, w_7_4, w_7_5, s_row_put, s_placeOf]
/-- events at and behind a place one on -/
def opE (I : Mm) (q : Nat) (e n : Int) : Mm := fun p i =>
  if (p = q + 2 ∨ p = q + 4) ∧ e < i ∧ i ≤ n then I p (i - 1) else if (p = q + 6 ∨ p = q + 8) ∧ e * 3 + 3 ≤ i ∧ i < n * 3 + 3 then I p (i - 3) else I p i
theorem s_openPlace {e : Int} (hp : isPc g q) (hn : 0 ≤ I q 1 ∧ I q 1 < 40) (he : 0 ≤ e ∧ e ≤ I q 1) : cl 4 [.ref q, .int (iI e)] (mk g I) = some (.inl none, mk g (upd2 (upd2 (upd2 (opE I q e (I q 1)) (q + 2) e 0) (q + 4) e 0) q 1 (I q 1 + 1))) := by
  have hp' := hp
  obtain ⟨p_0, ⟨p_1, q_1, p_2⟩, ⟨p_3, q_3, p_4⟩, ⟨p_5, q_5, p_6⟩, ⟨p_7, q_7, p_8⟩, ⟨p_9, q_9, p_10⟩, ⟨p_11, q_11, p_12⟩, ⟨p_13, q_13, p_14⟩, ⟨p_15, q_15, p_16⟩⟩ := hp
  have key : ∀ (d : Nat) (J : Mm) (t : Int), t = e + d → t ≤ I q 1 → J = (fun p i => if (p = q + 2 ∨ p = q + 4) ∧ t < i ∧ i ≤ I q 1 then I p (i - 1) else if (p = q + 6 ∨ p = q + 8) ∧ t * 3 + 3 ≤ i ∧ i < I q 1 * 3 + 3 then I p (i - 3) else I p i) →
      rn 4 1 [some (.ref q), some (.int (iI e)), some (.int (iI t))] [] (mk g J) = rn 4 1 [some (.ref q), some (.int (iI e)), some (.int (iI e))] [] (mk g (opE I q e (I q 1))) := by
    intro d
    induction d with
    | zero => intro J t ht hle hJ; have : t = e := by omega
              subst this; rw [hJ]; rfl
    | succ d ih =>
      intro J t ht hle hJ
      refine (w_4_1 (by first | assumption | omega) (by first | assumption | omega) (by first | assumption | omega) (by first | assumption | omega)).trans ?_
      refine (if_neg (by omega)).trans ?_
      simp (maxSteps := 2000000) (disch := first | assumption | omega) only [aft_v, aft_n, aft_t, Nat.add_assoc, Nat.reduceAdd, if_true, if_false, not_true_eq_false, not_false_eq_true, Classical.not_not, Int.reduceAdd, Int.reduceSub, Int.reduceMul, Int.reduceNeg, Int.reduceLT, Int.reduceLE, Int.reduceEq, Int.add_zero, Int.zero_add, Int.sub_zero, w_4_2, w_4_3, s_moveEvent]
      rw [show t + -1 = t - 1 by omega]
      refine ih _ (t - 1) (by omega) (by omega) ?_
      rw [hJ]
      funext p i
      unfold mvE
      simp only []
      by_cases h2 : p = q + 2 ∨ p = q + 4
      · by_cases hi : i = t
        · subst hi
          rcases h2 with rfl | rfl
          · rw [if_pos (by omega), if_neg (by omega), if_neg (by omega), if_pos (by omega)]
          · rw [if_neg (by omega), if_pos (by omega), if_neg (by omega), if_neg (by omega), if_pos (by omega)]
        · rw [if_neg (by omega), if_neg (by omega), if_neg (by omega)]
          by_cases hj : t < i ∧ i ≤ I q 1
          · rw [if_pos (by omega), if_pos (by omega)]
          · rw [if_neg (by omega), if_neg (by omega), if_neg (by omega), if_neg (by omega)]
      rw [if_neg (by omega), if_neg (by omega)]
      by_cases h6 : p = q + 6 ∨ p = q + 8
      · by_cases hi : t * 3 ≤ i ∧ i < t * 3 + 3
        · rw [if_pos (by omega), if_neg (by omega), if_neg (by omega), if_neg (by omega), if_pos (by omega), show i - t * 3 + (t - 1) * 3 = i - 3 by omega]
        · rw [if_neg (by omega), if_neg (by omega), if_neg (show ¬ ((p = q + 2 ∨ p = q + 4) ∧ t - 1 < i ∧ i ≤ I q 1) by omega)]
          by_cases hj : t * 3 + 3 ≤ i ∧ i < I q 1 * 3 + 3
          · rw [if_pos (by omega), if_pos (by omega)]
          · rw [if_neg (by omega), if_neg (by omega)]
      · rw [if_neg (by omega), if_neg (by omega), if_neg (by omega), if_neg (by omega), if_neg (by omega)]
  refine c_4.trans ?_
  refine (w_4_0 (by first | assumption | omega)).trans ?_
  refine (key (I q 1 - e).toNat I (I q 1) (by omega) (by omega) ?_).trans ?_
  · funext p i
    rw [if_neg (by omega), if_neg (by omega)]
  refine (w_4_1 (by first | assumption | omega) (by first | assumption | omega) (by first | assumption | omega) (by first | assumption | omega)).trans ?_
  refine (if_pos (by omega)).trans ?_
  have h1 : opE I q e (I q 1) q 1 = I q 1 := by
    unfold opE
    rw [if_neg (by omega), if_neg (by omega)]
  simp (maxSteps := 2000000) (disch := first | assumption | omega) only [aft_v, aft_n, aft_t, Nat.add_assoc, Nat.reduceAdd, if_true, if_false, not_true_eq_false, not_false_eq_true, Classical.not_not, Int.reduceAdd, Int.reduceSub, Int.reduceMul, Int.reduceNeg, Int.reduceLT, Int.reduceLE, Int.reduceEq, Int.add_zero, Int.zero_add, Int.sub_zero, w_4_4, w_4_5, w_4_6, s_row_put, upd2_p, h1]
/-- events behind a place one back -/
def clE (I : Mm) (q : Nat) (e n : Int) : Mm := fun p i =>
  if (p = q + 2 ∨ p = q + 4) ∧ e ≤ i ∧ i < n then I p (i + 1) else if (p = q + 6 ∨ p = q + 8) ∧ e * 3 ≤ i ∧ i < n * 3 then I p (i + 3) else I p i
theorem s_closePlace {e : Int} (hp : isPc g q) (hn : 0 ≤ I q 1 ∧ I q 1 ≤ 40) (he : 0 ≤ e ∧ e < I q 1) : cl 5 [.ref q, .int (iI e)] (mk g I) = some (.inl none, mk g (clE (upd2 I q 1 (I q 1 - 1)) q e (I q 1 - 1))) := by
  have hp' := hp
  obtain ⟨p_0, ⟨p_1, q_1, p_2⟩, ⟨p_3, q_3, p_4⟩, ⟨p_5, q_5, p_6⟩, ⟨p_7, q_7, p_8⟩, ⟨p_9, q_9, p_10⟩, ⟨p_11, q_11, p_12⟩, ⟨p_13, q_13, p_14⟩, ⟨p_15, q_15, p_16⟩⟩ := hp
  obtain ⟨J0, hJ0⟩ : ∃ J : Mm, J = upd2 I q 1 (I q 1 - 1) := ⟨_, rfl⟩
  obtain ⟨N, hN⟩ : ∃ N : Int, N = I q 1 - 1 := ⟨_, rfl⟩
  have e1 : J0 q 1 = N := by rw [hJ0, hN]; exact upd2_at
  have key := loop_up (σ := Mm) (head := fun i J => rn 5 1 [some (.ref q), some (.int (iI e)), some (.int (iI i))] [] (mk g J)) (Inv := fun i J => e ≤ i ∧ J = clE J0 q e i) (n := N) (by
    rintro i s hi ⟨h, rfl⟩
    refine ⟨clE J0 q e (i + 1), ?_, by omega, rfl⟩
    have h1 : clE J0 q e i q 1 = N := by
      rw [← e1]
      unfold clE
      rw [if_neg (by omega), if_neg (by omega)]
    show rn _ _ _ _ _ = rn _ _ _ _ _
    refine (w_5_1 (by first | assumption | omega) (by first | assumption | omega) (by first | assumption | omega) (by first | assumption | omega) (by first | assumption | omega)).trans ?_
    rw [h1]
    refine (if_neg (by omega)).trans ?_
    simp (maxSteps := 2000000) (disch := first | assumption | omega) only [aft_v, aft_n, aft_t, Nat.add_assoc, Nat.reduceAdd, if_true, if_false, not_true_eq_false, not_false_eq_true, Classical.not_not, Int.reduceAdd, Int.reduceSub, Int.reduceMul, Int.reduceNeg, Int.reduceLT, Int.reduceLE, Int.reduceEq, Int.add_zero, Int.zero_add, Int.sub_zero, w_5_2, w_5_3, s_moveEvent]
    congr 2
    funext p j
    unfold mvE clE
    by_cases h2 : p = q + 2 ∨ p = q + 4
    · by_cases hj : j = i
      · subst hj
        rcases h2 with rfl | rfl
        · rw [if_pos (by omega), if_neg (by omega), if_neg (by omega), if_pos (by omega)]
        · rw [if_neg (by omega), if_pos (by omega), if_neg (by omega), if_neg (by omega), if_pos (by omega)]
      · rw [if_neg (by omega), if_neg (by omega), if_neg (by omega)]
        by_cases hk : e ≤ j ∧ j < i
        · rw [if_pos (by omega), if_pos (by omega)]
        · rw [if_neg (by omega), if_neg (by omega), if_neg (by omega), if_neg (by omega)]
    rw [if_neg (by omega), if_neg (by omega)]
    by_cases h6 : p = q + 6 ∨ p = q + 8
    · by_cases hj : i * 3 ≤ j ∧ j < i * 3 + 3
      · rw [if_pos (by omega), if_neg (by omega), if_neg (by omega), if_neg (by omega), if_pos (by omega), show j - i * 3 + (i + 1) * 3 = j + 3 by omega]
      · rw [if_neg (by omega), if_neg (by omega), if_neg (show ¬ ((p = q + 2 ∨ p = q + 4) ∧ e ≤ j ∧ j < i + 1) by omega)]
        by_cases hk : e * 3 ≤ j ∧ j < i * 3
        · rw [if_pos (by omega), if_pos (by omega)]
        · rw [if_neg (by omega), if_neg (by omega)]
    · rw [if_neg (by omega), if_neg (by omega), if_neg (by omega), if_neg (by omega), if_neg (by omega)]) e J0 (by omega) ⟨Int.le_refl _, by
      funext p j
      unfold clE
      rw [if_neg (by omega), if_neg (by omega)]⟩
  obtain ⟨s', e2, -, rfl⟩ := key
  refine c_5.trans ?_
  refine (w_5_0 (by first | assumption | omega)).trans ?_
  rw [← hJ0]
  refine e2.trans ?_
  have h1 : clE J0 q e N q 1 = N := by
    refine Eq.trans ?_ e1
    unfold clE
    rw [if_neg (by omega), if_neg (by omega)]
  refine (w_5_1 (by first | assumption | omega) (by first | assumption | omega) (by first | assumption | omega) (by first | assumption | omega) (by first | assumption | omega)).trans ?_
  rw [h1]
  refine (if_pos (by omega)).trans ?_
  simp (maxSteps := 2000000) (disch := first | assumption | omega) only [aft_v, aft_n, aft_t, Nat.add_assoc, Nat.reduceAdd, if_true, if_false, not_true_eq_false, not_false_eq_true, Classical.not_not, Int.reduceAdd, Int.reduceSub, Int.reduceMul, Int.reduceNeg, Int.reduceLT, Int.reduceLE, Int.reduceEq, Int.add_zero, Int.zero_add, Int.sub_zero, w_5_4, hN]
theorem s_putSpan {a b lo hi li : Int} (hp : isPc g q) (ha : 1 ≤ a ∧ a ≤ 5) (hb : 1 ≤ b ∧ b ≤ 5) : cl 3 [.ref q, .int (iI a), .int (iI b), .int (iI lo), .int (iI hi), .int (iI li)] (mk g I) = some (.inl none, mk g (upd2 (upd2 (upd2 (upd2 (upd2 (upd2 I (q + 12) ((a - 1) * 5 + b - 1) lo) (q + 12) ((b - 1) * 5 + a - 1) lo) (q + 14) ((a - 1) * 5 + b - 1) hi) (q + 14) ((b - 1) * 5 + a - 1) hi) (q + 16) ((a - 1) * 5 + b - 1) li) (q + 16) ((b - 1) * 5 + a - 1) li)) := by
  obtain ⟨p_0, ⟨p_1, q_1, p_2⟩, ⟨p_3, q_3, p_4⟩, ⟨p_5, q_5, p_6⟩, ⟨p_7, q_7, p_8⟩, ⟨p_9, q_9, p_10⟩, ⟨p_11, q_11, p_12⟩, ⟨p_13, q_13, p_14⟩, ⟨p_15, q_15, p_16⟩⟩ := hp
  simp (maxSteps := 2000000) (disch := first | assumption | omega) only [aft_v, aft_n, aft_t, Nat.add_assoc, Nat.reduceAdd, if_true, if_false, not_true_eq_false, not_false_eq_true, Classical.not_not, Int.reduceAdd, Int.reduceSub, Int.reduceMul, Int.reduceNeg, Int.reduceLT, Int.reduceLE, Int.reduceEq, Int.add_zero, Int.zero_add, Int.sub_zero, c_3, w_3_0, w_3_1, w_3_2, w_3_3, w_3_4, w_3_5, w_3_6, w_3_7, w_3_8, w_3_9, w_3_10, w_3_11, w_3_12, s_row_put, s_pairOf]
end PMV
