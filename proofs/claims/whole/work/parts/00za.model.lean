/-! The reference: its small methods. -/
def isM (g : Gm) (m : Nat) : Prop := g.1 m = sX6 m ∧ (gt g (m + 1) = 0 ∧ (gt g (m + 1) = 0 ∨ gt g (m + 1) = 7) ∧ gn g (m + 1) = 362) ∧ (gt g (m + 2) = 0 ∧ (gt g (m + 2) = 0 ∨ gt g (m + 2) = 7) ∧ gn g (m + 2) = 362) ∧ (gt g (m + 3) = 0 ∧ (gt g (m + 3) = 0 ∨ gt g (m + 3) = 7) ∧ gn g (m + 3) = 362) ∧ (gt g (m + 4) = 0 ∧ (gt g (m + 4) = 0 ∨ gt g (m + 4) = 7) ∧ gn g (m + 4) = 2896) ∧ (gt g (m + 5) = 0 ∧ (gt g (m + 5) = 0 ∨ gt g (m + 5) = 7) ∧ gn g (m + 5) = 724) ∧ (gt g (m + 6) = 3 ∧ gn g (m + 6) = 2) ∧ (gt g (m + 7) = 0 ∧ (gt g (m + 7) = 0 ∨ gt g (m + 7) = 7) ∧ gn g (m + 7) = 600) ∧ (gt g (m + 8) = 0 ∧ (gt g (m + 8) = 0 ∨ gt g (m + 8) = 7) ∧ gn g (m + 8) = 3) ∧ (gt g (m + 9) = 0 ∧ (gt g (m + 9) = 0 ∨ gt g (m + 9) = 7) ∧ gn g (m + 9) = 400) ∧ (gt g (m + 10) = 0 ∧ (gt g (m + 10) = 0 ∨ gt g (m + 10) = 7) ∧ gn g (m + 10) = 400) ∧ (gt g (m + 11) = 0 ∧ (gt g (m + 11) = 0 ∨ gt g (m + 11) = 7) ∧ gn g (m + 11) = 40) ∧ (gt g (m + 12) = 0 ∧ (gt g (m + 12) = 0 ∨ gt g (m + 12) = 7) ∧ gn g (m + 12) = 40) ∧ (gt g (m + 13) = 0 ∧ (gt g (m + 13) = 0 ∨ gt g (m + 13) = 7) ∧ gn g (m + 13) = 400) ∧ (gt g (m + 14) = 0 ∧ (gt g (m + 14) = 0 ∨ gt g (m + 14) = 7) ∧ gn g (m + 14) = 400) ∧ (gt g (m + 15) = 1 ∧ gn g (m + 15) = 400) ∧ (gt g (m + 16) = 1 ∧ gn g (m + 16) = 400) ∧ (gt g (m + 17) = 0 ∧ (gt g (m + 17) = 0 ∨ gt g (m + 17) = 7) ∧ gn g (m + 17) = 40) ∧ (gt g (m + 18) = 0 ∧ (gt g (m + 18) = 0 ∨ gt g (m + 18) = 7) ∧ gn g (m + 18) = 250)
/-- the reference's piece -/
def mv (I : Mm) (m : Nat) : PT := rv (I (m + 1))
section MO
variable {g : Gm} {I : Mm} {m : Nat}
theorem s_events (hm : isM g m) : cl 182 [.ref m] (mk g I) = some (.inl (some (.int (iI (I (m + 1) 0)))), mk g I) := by
  obtain ⟨t_0, ⟨t_1, d_1, n_1⟩, ⟨t_2, d_2, n_2⟩, ⟨t_3, d_3, n_3⟩, ⟨t_4, d_4, n_4⟩, ⟨t_5, d_5, n_5⟩, ⟨t_6, n_6⟩, ⟨t_7, d_7, n_7⟩, ⟨t_8, d_8, n_8⟩, ⟨t_9, d_9, n_9⟩, ⟨t_10, d_10, n_10⟩, ⟨t_11, d_11, n_11⟩, ⟨t_12, d_12, n_12⟩, ⟨t_13, d_13, n_13⟩, ⟨t_14, d_14, n_14⟩, ⟨t_15, n_15⟩, ⟨t_16, n_16⟩, ⟨t_17, d_17, n_17⟩, ⟨t_18, d_18, n_18⟩⟩ := hm
  simp (maxSteps := 2000000) (disch := first | assumption | omega) only [aft_v, aft_n, aft_t, Nat.add_assoc, Nat.reduceAdd, if_true, if_false, not_true_eq_false, not_false_eq_true, Classical.not_not, Int.reduceAdd, Int.reduceSub, Int.reduceMul, Int.reduceNeg, Int.reduceLT, Int.reduceLE, Int.reduceEq, Int.add_zero, Int.zero_add, Int.sub_zero, c_182, w_182_0]
theorem s_notesOf {e : Int} (hm : isM g m) (he : 0 ≤ e ∧ e < 40) : cl 183 [.ref m, .int (iI e)] (mk g I) = some (.inl (some (.int (iI (I (m + 1) (42 + 8 * e))))), mk g I) := by
  obtain ⟨t_0, ⟨t_1, d_1, n_1⟩, ⟨t_2, d_2, n_2⟩, ⟨t_3, d_3, n_3⟩, ⟨t_4, d_4, n_4⟩, ⟨t_5, d_5, n_5⟩, ⟨t_6, n_6⟩, ⟨t_7, d_7, n_7⟩, ⟨t_8, d_8, n_8⟩, ⟨t_9, d_9, n_9⟩, ⟨t_10, d_10, n_10⟩, ⟨t_11, d_11, n_11⟩, ⟨t_12, d_12, n_12⟩, ⟨t_13, d_13, n_13⟩, ⟨t_14, d_14, n_14⟩, ⟨t_15, n_15⟩, ⟨t_16, n_16⟩, ⟨t_17, d_17, n_17⟩, ⟨t_18, d_18, n_18⟩⟩ := hm
  simp (maxSteps := 2000000) (disch := first | assumption | omega) only [aft_v, aft_n, aft_t, Nat.add_assoc, Nat.reduceAdd, if_true, if_false, not_true_eq_false, not_false_eq_true, Classical.not_not, Int.reduceAdd, Int.reduceSub, Int.reduceMul, Int.reduceNeg, Int.reduceLT, Int.reduceLE, Int.reduceEq, Int.add_zero, Int.zero_add, Int.sub_zero, c_183, w_183_0]
theorem s_restOf {e : Int} (hm : isM g m) (he : 0 ≤ e ∧ e < 40) : cl 184 [.ref m, .int (iI e)] (mk g I) = some (.inl (some (.int (iI (I (m + 1) (42 + 8 * e + 1))))), mk g I) := by
  obtain ⟨t_0, ⟨t_1, d_1, n_1⟩, ⟨t_2, d_2, n_2⟩, ⟨t_3, d_3, n_3⟩, ⟨t_4, d_4, n_4⟩, ⟨t_5, d_5, n_5⟩, ⟨t_6, n_6⟩, ⟨t_7, d_7, n_7⟩, ⟨t_8, d_8, n_8⟩, ⟨t_9, d_9, n_9⟩, ⟨t_10, d_10, n_10⟩, ⟨t_11, d_11, n_11⟩, ⟨t_12, d_12, n_12⟩, ⟨t_13, d_13, n_13⟩, ⟨t_14, d_14, n_14⟩, ⟨t_15, n_15⟩, ⟨t_16, n_16⟩, ⟨t_17, d_17, n_17⟩, ⟨t_18, d_18, n_18⟩⟩ := hm
  simp (maxSteps := 2000000) (disch := first | assumption | omega) only [aft_v, aft_n, aft_t, Nat.add_assoc, Nat.reduceAdd, if_true, if_false, not_true_eq_false, not_false_eq_true, Classical.not_not, Int.reduceAdd, Int.reduceSub, Int.reduceMul, Int.reduceNeg, Int.reduceLT, Int.reduceLE, Int.reduceEq, Int.add_zero, Int.zero_add, Int.sub_zero, c_184, w_184_0]
theorem s_keyOfM {e k : Int} (hm : isM g m) (he : 0 ≤ e ∧ e < 40) (hk : 0 ≤ k ∧ k < 3) : cl 185 [.ref m, .int (iI e), .int (iI k)] (mk g I) = some (.inl (some (.int (iI (I (m + 1) (42 + 8 * e + 2 + k))))), mk g I) := by
  obtain ⟨t_0, ⟨t_1, d_1, n_1⟩, ⟨t_2, d_2, n_2⟩, ⟨t_3, d_3, n_3⟩, ⟨t_4, d_4, n_4⟩, ⟨t_5, d_5, n_5⟩, ⟨t_6, n_6⟩, ⟨t_7, d_7, n_7⟩, ⟨t_8, d_8, n_8⟩, ⟨t_9, d_9, n_9⟩, ⟨t_10, d_10, n_10⟩, ⟨t_11, d_11, n_11⟩, ⟨t_12, d_12, n_12⟩, ⟨t_13, d_13, n_13⟩, ⟨t_14, d_14, n_14⟩, ⟨t_15, n_15⟩, ⟨t_16, n_16⟩, ⟨t_17, d_17, n_17⟩, ⟨t_18, d_18, n_18⟩⟩ := hm
  simp (maxSteps := 2000000) (disch := first | assumption | omega) only [aft_v, aft_n, aft_t, Nat.add_assoc, Nat.reduceAdd, if_true, if_false, not_true_eq_false, not_false_eq_true, Classical.not_not, Int.reduceAdd, Int.reduceSub, Int.reduceMul, Int.reduceNeg, Int.reduceLT, Int.reduceLE, Int.reduceEq, Int.add_zero, Int.zero_add, Int.sub_zero, c_185, w_185_0]
theorem s_setOf {e k : Int} (hm : isM g m) (he : 0 ≤ e ∧ e < 40) (hk : 0 ≤ k ∧ k < 3) : cl 186 [.ref m, .int (iI e), .int (iI k)] (mk g I) = some (.inl (some (.int (iI (I (m + 1) (42 + 8 * e + 5 + k))))), mk g I) := by
  obtain ⟨t_0, ⟨t_1, d_1, n_1⟩, ⟨t_2, d_2, n_2⟩, ⟨t_3, d_3, n_3⟩, ⟨t_4, d_4, n_4⟩, ⟨t_5, d_5, n_5⟩, ⟨t_6, n_6⟩, ⟨t_7, d_7, n_7⟩, ⟨t_8, d_8, n_8⟩, ⟨t_9, d_9, n_9⟩, ⟨t_10, d_10, n_10⟩, ⟨t_11, d_11, n_11⟩, ⟨t_12, d_12, n_12⟩, ⟨t_13, d_13, n_13⟩, ⟨t_14, d_14, n_14⟩, ⟨t_15, n_15⟩, ⟨t_16, n_16⟩, ⟨t_17, d_17, n_17⟩, ⟨t_18, d_18, n_18⟩⟩ := hm
  simp (maxSteps := 2000000) (disch := first | assumption | omega) only [aft_v, aft_n, aft_t, Nat.add_assoc, Nat.reduceAdd, if_true, if_false, not_true_eq_false, not_false_eq_true, Classical.not_not, Int.reduceAdd, Int.reduceSub, Int.reduceMul, Int.reduceNeg, Int.reduceLT, Int.reduceLE, Int.reduceEq, Int.add_zero, Int.zero_add, Int.sub_zero, c_186, w_186_0]
theorem s_weightOf {w : Int} (hm : isM g m) (hw : 0 ≤ w ∧ w < 10) : cl 187 [.ref m, .int (iI w)] (mk g I) = some (.inl (some (.int (iI (I (m + 1) (2 + w))))), mk g I) := by
  obtain ⟨t_0, ⟨t_1, d_1, n_1⟩, ⟨t_2, d_2, n_2⟩, ⟨t_3, d_3, n_3⟩, ⟨t_4, d_4, n_4⟩, ⟨t_5, d_5, n_5⟩, ⟨t_6, n_6⟩, ⟨t_7, d_7, n_7⟩, ⟨t_8, d_8, n_8⟩, ⟨t_9, d_9, n_9⟩, ⟨t_10, d_10, n_10⟩, ⟨t_11, d_11, n_11⟩, ⟨t_12, d_12, n_12⟩, ⟨t_13, d_13, n_13⟩, ⟨t_14, d_14, n_14⟩, ⟨t_15, n_15⟩, ⟨t_16, n_16⟩, ⟨t_17, d_17, n_17⟩, ⟨t_18, d_18, n_18⟩⟩ := hm
  simp (maxSteps := 2000000) (disch := first | assumption | omega) only [aft_v, aft_n, aft_t, Nat.add_assoc, Nat.reduceAdd, if_true, if_false, not_true_eq_false, not_false_eq_true, Classical.not_not, Int.reduceAdd, Int.reduceSub, Int.reduceMul, Int.reduceNeg, Int.reduceLT, Int.reduceLE, Int.reduceEq, Int.add_zero, Int.zero_add, Int.sub_zero, c_187, w_187_0]
theorem s_isFreeM {e : Int} (hm : isM g m) (he : 0 ≤ e ∧ e < 40) (h1 : (-2147483648 ≤ I (m + 1) (42 + 8 * e + 1) ∧ I (m + 1) (42 + 8 * e + 1) < 2147483648)) (h2 : (-2147483648 ≤ I (m + 1) (2 + 8) ∧ I (m + 1) (2 + 8) < 2147483648)) : cl 193 [.ref m, .int (iI e)] (mk g I) = some (.inl (some (.int (iI (if I (m + 1) (2 + 8) ≤ I (m + 1) (42 + 8 * e + 1) then 1 else 0)))), mk g I) := by
  have hm' := hm
  obtain ⟨t_0, ⟨t_1, d_1, n_1⟩, ⟨t_2, d_2, n_2⟩, ⟨t_3, d_3, n_3⟩, ⟨t_4, d_4, n_4⟩, ⟨t_5, d_5, n_5⟩, ⟨t_6, n_6⟩, ⟨t_7, d_7, n_7⟩, ⟨t_8, d_8, n_8⟩, ⟨t_9, d_9, n_9⟩, ⟨t_10, d_10, n_10⟩, ⟨t_11, d_11, n_11⟩, ⟨t_12, d_12, n_12⟩, ⟨t_13, d_13, n_13⟩, ⟨t_14, d_14, n_14⟩, ⟨t_15, n_15⟩, ⟨t_16, n_16⟩, ⟨t_17, d_17, n_17⟩, ⟨t_18, d_18, n_18⟩⟩ := hm
  have h2' : (-2147483648 ≤ I (m + 1) 10 ∧ I (m + 1) 10 < 2147483648) := h2
  simp (maxSteps := 2000000) (disch := first | assumption | omega) only [aft_v, aft_n, aft_t, Nat.add_assoc, Nat.reduceAdd, if_true, if_false, not_true_eq_false, not_false_eq_true, Classical.not_not, Int.reduceAdd, Int.reduceSub, Int.reduceMul, Int.reduceNeg, Int.reduceLT, Int.reduceLE, Int.reduceEq, Int.add_zero, Int.zero_add, Int.sub_zero, c_193, w_193_0, w_193_1, w_193_2, w_193_3, w_193_4, w_193_5, s_restOf, s_weightOf]
  ((repeat' split) <;> try first | rfl | omega | (refine ans_i ?_; omega))
/-- how much a distance is off a span; -1 if it does not fit -/
def offS (P : PT) (d a b : Int) : Int := if pLi P a b < d then -1 else if d < pLo P a b then pLo P a b - d else if pHi P a b < d then d - pHi P a b else 0
theorem stretch_off {P : PT} {d a b : Int} (hw : 0 ≤ pW P 0) (h : pLo P a b ≤ pHi P a b) : stretchS P d a b = if offS P d a b = -1 then -1 else pW P 0 * offS P d a b := by
  unfold stretchS offS
  by_cases h1 : pLi P a b < d
  · rw [if_pos h1, if_pos h1, if_pos rfl]
  · rw [if_neg h1, if_neg h1]
    by_cases h2 : d < pLo P a b
    · rw [if_pos h2, if_neg (by omega)]; congr 1; omega
    · rw [if_neg h2]
      by_cases h3 : pHi P a b < d
      · rw [if_pos h3, if_neg (by omega)]; congr 1; omega
      · rw [if_neg h3, if_neg (by omega)]; congr 1; omega
theorem prS_b {a b : Int} (ha : 1 ≤ a ∧ a ≤ 5) (hb : 1 ≤ b ∧ b ≤ 5) (hab : ¬ a = b) : 12 ≤ prS a b ∧ prS a b ≤ 39 := by
  unfold prS; (repeat' split) <;> omega
theorem s_offBy {d a b : Int} (hm : isM g m) (ha : 1 ≤ a ∧ a ≤ 5) (hb : 1 ≤ b ∧ b ≤ 5) (hab : ¬ a = b) (hd : (-2147483648 ≤ d ∧ d < 2147483648)) (h1 : (-2147483648 ≤ I (m + 1) (prS a b) ∧ I (m + 1) (prS a b) < 2147483648)) (h2 : (-2147483648 ≤ I (m + 1) (prS a b + 1) ∧ I (m + 1) (prS a b + 1) < 2147483648)) (h3 : (-2147483648 ≤ I (m + 1) (prS a b + 2) ∧ I (m + 1) (prS a b + 2) < 2147483648)) :
    cl 194 [.ref m, .int (iI a), .int (iI b), .int (iI d)] (mk g I) = some (.inl (some (.int (iI (offS (mv I m) d a b)))), mk g I) := by
  obtain ⟨t_0, ⟨t_1, d_1, n_1⟩, ⟨t_2, d_2, n_2⟩, ⟨t_3, d_3, n_3⟩, ⟨t_4, d_4, n_4⟩, ⟨t_5, d_5, n_5⟩, ⟨t_6, n_6⟩, ⟨t_7, d_7, n_7⟩, ⟨t_8, d_8, n_8⟩, ⟨t_9, d_9, n_9⟩, ⟨t_10, d_10, n_10⟩, ⟨t_11, d_11, n_11⟩, ⟨t_12, d_12, n_12⟩, ⟨t_13, d_13, n_13⟩, ⟨t_14, d_14, n_14⟩, ⟨t_15, n_15⟩, ⟨t_16, n_16⟩, ⟨t_17, d_17, n_17⟩, ⟨t_18, d_18, n_18⟩⟩ := hm
  have hp := prS_b ha hb hab
  have e : offS (mv I m) d a b = if I (m + 1) (prS a b + 2) < d then -1 else if d < I (m + 1) (prS a b) then I (m + 1) (prS a b) - d else if I (m + 1) (prS a b + 1) < d then d - I (m + 1) (prS a b + 1) else 0 := rfl
  rw [e]
  simp (maxSteps := 2000000) (disch := first | assumption | omega) only [aft_v, aft_n, aft_t, Nat.add_assoc, Nat.reduceAdd, if_true, if_false, not_true_eq_false, not_false_eq_true, Classical.not_not, Int.reduceAdd, Int.reduceSub, Int.reduceMul, Int.reduceNeg, Int.reduceLT, Int.reduceLE, Int.reduceEq, Int.add_zero, Int.zero_add, Int.sub_zero, c_194, w_194_0, w_194_1, w_194_2, w_194_3, w_194_4, w_194_5, w_194_6, w_194_7, w_194_8, s_pairOfM]
  ((repeat' split) <;> try first | rfl | omega | (refine ans_i ?_; omega))
end MO
