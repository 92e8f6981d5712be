/-! Leaves: rows and small numbers. -/
def isR (g : Gm) (p : Nat) : Prop := g.1 p = sX2 p ∧ gt g (p + 1) = 0 ∧ gn g (p + 1) < 2147483648
def sumS (a b : Int) : Int := if a = -1 ∨ b = -1 then -1 else a + b
def lesS (a b : Int) : Int := if a = -1 then b else if b = -1 then a else min a b
/-- a key is black -/
def bkK (k : Int) : Prop := k % 12 = 1 ∨ k % 12 = 3 ∨ k % 12 = 6 ∨ k % 12 = 8 ∨ k % 12 = 10
def bkD (k : Int) : Decidable (bkK k) := by unfold bkK; exact inferInstance
def bkI (k : Int) : Int := if k % 12 = 1 ∨ k % 12 = 3 ∨ k % 12 = 6 ∨ k % 12 = 8 ∨ k % 12 = 10 then 1 else 0
def bitF (f : Int) : Int := if 1 ≤ f ∧ f ≤ 5 then shlI 1 (f - 1) else 0
theorem if_same9 {c : Prop} [Decidable c] {a : Int} : (if c then a else a) = a := by split <;> rfl
theorem tm_nn {a b : Int} (h : 0 ≤ a) : Int.tmod a b = a % b := Int.tmod_eq_emod_of_nonneg h
theorem td_nn {a b : Int} (h : 0 ≤ a) : Int.tdiv a b = a / b := Int.tdiv_eq_ediv_of_nonneg h
/-- tests of answers that are true or false -/
theorem bz0 {P : Prop} [Decidable P] : ((if P then (1 : Int) else 0) = 0) = ¬ P := by
  by_cases h : P <;> simp [h]
theorem bz1 {P : Prop} [Decidable P] : ((if P then (1 : Int) else 0) = 1) = P := by
  by_cases h : P <;> simp [h]
theorem bz01 {P : Prop} [Decidable P] : (if P then (1 : Int) else 0) = 0 ∨ (if P then (1 : Int) else 0) = 1 := by
  by_cases h : P <;> simp [h]
theorem bzr {P : Prop} [Decidable P] : (if P then (0 : Int) else 1) = if ¬ P then 1 else 0 := by
  by_cases h : P <;> simp [h]
theorem ans_i {a b : Int} {h : Hp} (e : a = b) : (some (Sum.inl (some (Value.int (iI a))), h) : Option Rs) = some (Sum.inl (some (Value.int (iI b))), h) := by rw [e]
section LEAF
variable {g : Gm} {I : Mm}
theorem s_row_get {p : Nat} {i : Int} (hr : isR g p) (h0 : 0 ≤ i) (h1 : i < gn g (p + 1)) : cl 62 [.ref p, .int (iI i)] (mk g I) = some (.inl (some (.int (iI (I (p + 1) i)))), mk g I) := by
  obtain ⟨hp, ht, hl⟩ := hr
  have ht1 : gt g (p + 1) = 0 ∨ gt g (p + 1) = 7 := Or.inl ht
  have ht2 : gt g (p + 1) = 0 ∨ gt g (p + 1) = 1 ∨ gt g (p + 1) = 4 ∨ gt g (p + 1) = 7 := Or.inl ht
  simp (disch := first | assumption | omega) only [aft_v, aft_n, aft_t, Nat.add_assoc, Nat.reduceAdd, if_true, if_false, not_true_eq_false, not_false_eq_true, Classical.not_not, Int.reduceAdd, Int.reduceSub, Int.reduceMul, Int.reduceNeg, Int.reduceLT, Int.reduceLE, Int.reduceEq, Int.add_zero, Int.zero_add, Int.sub_zero, c_62, w_62_0, w_62_1, w_62_2, w_62_3, w_62_4, show ¬ i < 0 by omega, show ¬ (gn g (p + 1) : Int) ≤ i by omega]
theorem s_row_out {p : Nat} {i : Int} (hr : isR g p) (h0 : (-2147483648 ≤ i ∧ i < 2147483648)) (h1 : i < 0 ∨ (gn g (p + 1) : Int) ≤ i) : cl 62 [.ref p, .int (iI i)] (mk g I) = some (.inl (some (.int (iI 0))), mk g I) := by
  obtain ⟨hp, ht, hl⟩ := hr
  have ht2 : gt g (p + 1) = 0 ∨ gt g (p + 1) = 1 ∨ gt g (p + 1) = 4 ∨ gt g (p + 1) = 7 := Or.inl ht
  by_cases h : i < 0
  · simp (disch := first | assumption | omega) only [aft_v, aft_n, aft_t, Nat.add_assoc, Nat.reduceAdd, if_true, if_false, not_true_eq_false, not_false_eq_true, Classical.not_not, Int.reduceAdd, Int.reduceSub, Int.reduceMul, Int.reduceNeg, Int.reduceLT, Int.reduceLE, Int.reduceEq, Int.add_zero, Int.zero_add, Int.sub_zero, c_62, w_62_0, w_62_1, w_62_2, w_62_3, w_62_4, h]
  · simp (disch := first | assumption | omega) only [aft_v, aft_n, aft_t, Nat.add_assoc, Nat.reduceAdd, if_true, if_false, not_true_eq_false, not_false_eq_true, Classical.not_not, Int.reduceAdd, Int.reduceSub, Int.reduceMul, Int.reduceNeg, Int.reduceLT, Int.reduceLE, Int.reduceEq, Int.add_zero, Int.zero_add, Int.sub_zero, c_62, w_62_0, w_62_1, w_62_2, w_62_3, w_62_4, h, show (gn g (p + 1) : Int) ≤ i by omega]
theorem s_row_put {p : Nat} {i v : Int} (hr : isR g p) (h0 : 0 ≤ i) (h1 : i < gn g (p + 1)) : cl 63 [.ref p, .int (iI i), .int (iI v)] (mk g I) = some (.inl none, mk g (upd2 I (p + 1) i v)) := by
  obtain ⟨hp, ht, hl⟩ := hr
  have ht2 : gt g (p + 1) = 0 ∨ gt g (p + 1) = 1 ∨ gt g (p + 1) = 4 ∨ gt g (p + 1) = 7 := Or.inl ht
  simp (disch := first | assumption | omega) only [aft_v, aft_n, aft_t, Nat.add_assoc, Nat.reduceAdd, if_true, if_false, not_true_eq_false, not_false_eq_true, Classical.not_not, Int.reduceAdd, Int.reduceSub, Int.reduceMul, Int.reduceNeg, Int.reduceLT, Int.reduceLE, Int.reduceEq, Int.add_zero, Int.zero_add, Int.sub_zero, c_63, w_63_0, w_63_1, w_63_2, w_63_3, show ¬ i < 0 by omega, show ¬ (gn g (p + 1) : Int) ≤ i by omega]
theorem s_isWithin {a b c : Int} (ha : (-2147483648 ≤ a ∧ a < 2147483648)) (hb : (-2147483648 ≤ b ∧ b < 2147483648)) (hc : (-2147483648 ≤ c ∧ c < 2147483648)) : cl 142 [.int (iI a), .int (iI b), .int (iI c)] (mk g I) = some (.inl (some (.int (iI (if b ≤ a ∧ a ≤ c then 1 else 0)))), mk g I) := by
  simp (disch := first | assumption | omega) only [aft_v, aft_n, aft_t, Nat.add_assoc, Nat.reduceAdd, if_true, if_false, not_true_eq_false, not_false_eq_true, Classical.not_not, Int.reduceAdd, Int.reduceSub, Int.reduceMul, Int.reduceNeg, Int.reduceLT, Int.reduceLE, Int.reduceEq, Int.add_zero, Int.zero_add, Int.sub_zero, c_142, w_142_0, w_142_1, w_142_2, w_142_3, w_142_4]
  ((repeat' split) <;> try first | rfl | omega | (refine ans_i ?_; omega))
theorem s_isIn {a b c : Int} (ha : (-2147483648 ≤ a ∧ a < 2147483648)) (hb : (-2147483648 ≤ b ∧ b < 2147483648)) (hc : (-2147483648 ≤ c ∧ c < 2147483648)) : cl 157 [.int (iI a), .int (iI b), .int (iI c)] (mk g I) = some (.inl (some (.int (iI (if b ≤ a ∧ a ≤ c then 1 else 0)))), mk g I) := by
  simp (disch := first | assumption | omega) only [aft_v, aft_n, aft_t, Nat.add_assoc, Nat.reduceAdd, if_true, if_false, not_true_eq_false, not_false_eq_true, Classical.not_not, Int.reduceAdd, Int.reduceSub, Int.reduceMul, Int.reduceNeg, Int.reduceLT, Int.reduceLE, Int.reduceEq, Int.add_zero, Int.zero_add, Int.sub_zero, c_157, w_157_0, w_157_1, w_157_2, w_157_3, w_157_4]
  ((repeat' split) <;> try first | rfl | omega | (refine ans_i ?_; omega))
theorem s_sumOf {a b : Int} (ha : (-2147483648 ≤ a ∧ a < 2147483648)) (hb : (-2147483648 ≤ b ∧ b < 2147483648)) : cl 148 [.int (iI a), .int (iI b)] (mk g I) = some (.inl (some (.int (iI (sumS a b)))), mk g I) := by
  unfold sumS
  simp (disch := first | assumption | omega) only [aft_v, aft_n, aft_t, Nat.add_assoc, Nat.reduceAdd, if_true, if_false, not_true_eq_false, not_false_eq_true, Classical.not_not, Int.reduceAdd, Int.reduceSub, Int.reduceMul, Int.reduceNeg, Int.reduceLT, Int.reduceLE, Int.reduceEq, Int.add_zero, Int.zero_add, Int.sub_zero, c_148, w_148_0, w_148_1, w_148_2, w_148_3, w_148_4]
  ((repeat' split) <;> try first | rfl | omega | (refine ans_i ?_; omega))
theorem s_lesserOf {a b : Int} (ha : (-2147483648 ≤ a ∧ a < 2147483648)) (hb : (-2147483648 ≤ b ∧ b < 2147483648)) : cl 149 [.int (iI a), .int (iI b)] (mk g I) = some (.inl (some (.int (iI (lesS a b)))), mk g I) := by
  unfold lesS
  simp (disch := first | assumption | omega) only [aft_v, aft_n, aft_t, Nat.add_assoc, Nat.reduceAdd, if_true, if_false, not_true_eq_false, not_false_eq_true, Classical.not_not, Int.reduceAdd, Int.reduceSub, Int.reduceMul, Int.reduceNeg, Int.reduceLT, Int.reduceLE, Int.reduceEq, Int.add_zero, Int.zero_add, Int.sub_zero, c_149, w_149_0, w_149_1, w_149_2, w_149_3, w_149_4, w_149_5, w_149_6]
  ((repeat' split) <;> try first | rfl | omega | (refine ans_i ?_; omega))
theorem s_isBlack {a : Int} (ha : 0 ≤ a ∧ a < 2147483648) : cl 144 [.int (iI a)] (mk g I) = some (.inl (some (.int (iI (bkI a)))), mk g I) := by
  unfold bkI
  have e := tm_nn (b := 12) ha.1
  simp (disch := first | assumption | omega) only [aft_v, aft_n, aft_t, Nat.add_assoc, Nat.reduceAdd, if_true, if_false, not_true_eq_false, not_false_eq_true, Classical.not_not, Int.reduceAdd, Int.reduceSub, Int.reduceMul, Int.reduceNeg, Int.reduceLT, Int.reduceLE, Int.reduceEq, Int.add_zero, Int.zero_add, Int.sub_zero, c_144, w_144_0, w_144_1, w_144_2, w_144_3, w_144_4, w_144_5, w_144_6, w_144_7, e]
  ((repeat' split) <;> try first | rfl | omega | (refine ans_i ?_; omega))
theorem s_isBlackM {a : Int} (ha : 0 ≤ a ∧ a < 2147483648) : cl 191 [.int (iI a)] (mk g I) = some (.inl (some (.int (iI (bkI a)))), mk g I) := by
  unfold bkI
  have e := tm_nn (b := 12) ha.1
  simp (disch := first | assumption | omega) only [aft_v, aft_n, aft_t, Nat.add_assoc, Nat.reduceAdd, if_true, if_false, not_true_eq_false, not_false_eq_true, Classical.not_not, Int.reduceAdd, Int.reduceSub, Int.reduceMul, Int.reduceNeg, Int.reduceLT, Int.reduceLE, Int.reduceEq, Int.add_zero, Int.zero_add, Int.sub_zero, c_191, w_191_0, w_191_1, w_191_2, w_191_3, w_191_4, w_191_5, w_191_6, w_191_7, e]
  ((repeat' split) <;> try first | rfl | omega | (refine ans_i ?_; omega))
theorem s_bitOf {a : Int} (ha : (-2147483648 ≤ a ∧ a < 2147483648)) : cl 145 [.int (iI a)] (mk g I) = some (.inl (some (.int (iI (bitF a)))), mk g I) := by
  unfold bitF
  simp (disch := first | assumption | omega) only [aft_v, aft_n, aft_t, Nat.add_assoc, Nat.reduceAdd, if_true, if_false, not_true_eq_false, not_false_eq_true, Classical.not_not, Int.reduceAdd, Int.reduceSub, Int.reduceMul, Int.reduceNeg, Int.reduceLT, Int.reduceLE, Int.reduceEq, Int.add_zero, Int.zero_add, Int.sub_zero, c_145, w_145_0, w_145_1, w_145_2, w_145_3, w_145_4]
  ((repeat' split) <;> try first | rfl | omega | (refine ans_i ?_; omega))
theorem s_placeOf {a b : Int} : cl 146 [.int (iI a), .int (iI b)] (mk g I) = some (.inl (some (.int (iI (a * 3 + b)))), mk g I) := by
  simp (disch := first | assumption | omega) only [aft_v, aft_n, aft_t, Nat.add_assoc, Nat.reduceAdd, if_true, if_false, not_true_eq_false, not_false_eq_true, Classical.not_not, Int.reduceAdd, Int.reduceSub, Int.reduceMul, Int.reduceNeg, Int.reduceLT, Int.reduceLE, Int.reduceEq, Int.add_zero, Int.zero_add, Int.sub_zero, c_146, w_146_0]
theorem s_pairOf {a b : Int} : cl 147 [.int (iI a), .int (iI b)] (mk g I) = some (.inl (some (.int (iI ((a - 1) * 5 + b - 1)))), mk g I) := by
  simp (disch := first | assumption | omega) only [aft_v, aft_n, aft_t, Nat.add_assoc, Nat.reduceAdd, if_true, if_false, not_true_eq_false, not_false_eq_true, Classical.not_not, Int.reduceAdd, Int.reduceSub, Int.reduceMul, Int.reduceNeg, Int.reduceLT, Int.reduceLE, Int.reduceEq, Int.add_zero, Int.zero_add, Int.sub_zero, c_147, w_147_0]
theorem s_placeOfChoice {a b : Int} : cl 31 [.int (iI a), .int (iI b)] (mk g I) = some (.inl (some (.int (iI (a * 10 + b)))), mk g I) := by
  simp (disch := first | assumption | omega) only [aft_v, aft_n, aft_t, Nat.add_assoc, Nat.reduceAdd, if_true, if_false, not_true_eq_false, not_false_eq_true, Classical.not_not, Int.reduceAdd, Int.reduceSub, Int.reduceMul, Int.reduceNeg, Int.reduceLT, Int.reduceLE, Int.reduceEq, Int.add_zero, Int.zero_add, Int.sub_zero, c_31, w_31_0]
theorem s_baseOf {a b : Int} : cl 32 [.int (iI a), .int (iI b)] (mk g I) = some (.inl (some (.int (iI ((a * 10 + b) * 3)))), mk g I) := by
  simp (disch := first | assumption | omega) only [aft_v, aft_n, aft_t, Nat.add_assoc, Nat.reduceAdd, if_true, if_false, not_true_eq_false, not_false_eq_true, Classical.not_not, Int.reduceAdd, Int.reduceSub, Int.reduceMul, Int.reduceNeg, Int.reduceLT, Int.reduceLE, Int.reduceEq, Int.add_zero, Int.zero_add, Int.sub_zero, c_32, w_32_0, w_32_1, s_placeOfChoice]
theorem s_placeOfStep {a b c : Int} : cl 33 [.int (iI a), .int (iI b), .int (iI c)] (mk g I) = some (.inl (some (.int (iI ((a * 10 + b) * 10 + c)))), mk g I) := by
  simp (disch := first | assumption | omega) only [aft_v, aft_n, aft_t, Nat.add_assoc, Nat.reduceAdd, if_true, if_false, not_true_eq_false, not_false_eq_true, Classical.not_not, Int.reduceAdd, Int.reduceSub, Int.reduceMul, Int.reduceNeg, Int.reduceLT, Int.reduceLE, Int.reduceEq, Int.add_zero, Int.zero_add, Int.sub_zero, c_33, w_33_0, w_33_1, s_placeOfChoice]
def areK (a b c : Int) : Prop := (21 ≤ a ∧ a ≤ 108) ∧ ((b = 0 ∧ c = 0) ∨ (a < b ∧ b ≤ 108 ∧ (c = 0 ∨ (b < c ∧ c ≤ 108))))
theorem s_areKeys {a b c : Int} (ha : (-2147483648 ≤ a ∧ a < 2147483648)) (hb : (-2147483648 ≤ b ∧ b < 2147483648)) (hc : (-2147483648 ≤ c ∧ c < 2147483648)) : cl 143 [.int (iI a), .int (iI b), .int (iI c)] (mk g I) = some (.inl (some (.int (iI (if (21 ≤ a ∧ a ≤ 108) ∧ ((b = 0 ∧ c = 0) ∨ (a < b ∧ b ≤ 108 ∧ (c = 0 ∨ (b < c ∧ c ≤ 108)))) then 1 else 0)))), mk g I) := by
  by_cases h1 : 21 ≤ a ∧ a ≤ 108
  · by_cases h3 : a + 1 ≤ b ∧ b ≤ 108
    · simp (disch := first | assumption | omega) only [aft_v, aft_n, aft_t, Nat.add_assoc, Nat.reduceAdd, if_true, if_false, not_true_eq_false, not_false_eq_true, Classical.not_not, Int.reduceAdd, Int.reduceSub, Int.reduceMul, Int.reduceNeg, Int.reduceLT, Int.reduceLE, Int.reduceEq, Int.add_zero, Int.zero_add, Int.sub_zero, c_143, w_143_0, w_143_1, w_143_2, w_143_3, w_143_4, w_143_5, w_143_6, w_143_7, w_143_8, w_143_9, w_143_10, w_143_11, w_143_12, w_143_13, w_143_14, w_143_15, s_isWithin, bz0]
      ((repeat' split) <;> try first | rfl | omega | (refine ans_i ?_; omega))
    · simp (disch := first | assumption | omega) only [aft_v, aft_n, aft_t, Nat.add_assoc, Nat.reduceAdd, if_true, if_false, not_true_eq_false, not_false_eq_true, Classical.not_not, Int.reduceAdd, Int.reduceSub, Int.reduceMul, Int.reduceNeg, Int.reduceLT, Int.reduceLE, Int.reduceEq, Int.add_zero, Int.zero_add, Int.sub_zero, c_143, w_143_0, w_143_1, w_143_2, w_143_3, w_143_4, w_143_5, w_143_6, w_143_7, w_143_8, w_143_9, w_143_10, w_143_13, w_143_14, w_143_15, s_isWithin, bz0, if_neg h3]
      ((repeat' split) <;> try first | rfl | omega | (refine ans_i ?_; omega))
  · simp (disch := first | assumption | omega) only [aft_v, aft_n, aft_t, Nat.add_assoc, Nat.reduceAdd, if_true, if_false, not_true_eq_false, not_false_eq_true, Classical.not_not, Int.reduceAdd, Int.reduceSub, Int.reduceMul, Int.reduceNeg, Int.reduceLT, Int.reduceLE, Int.reduceEq, Int.add_zero, Int.zero_add, Int.sub_zero, c_143, w_143_0, w_143_1, w_143_2, w_143_3, w_143_4, w_143_5, w_143_6, w_143_7, s_isWithin, bz0, if_neg h1, if_pos h1]
    ((repeat' split) <;> try first | rfl | omega | (refine ans_i ?_; omega))
theorem s_isFinger {a : Int} (ha : (-2147483648 ≤ a ∧ a < 2147483648)) : cl 190 [.int (iI a)] (mk g I) = some (.inl (some (.int (iI (if 1 ≤ a ∧ a ≤ 5 then 1 else 0)))), mk g I) := by
  simp (disch := first | assumption | omega) only [aft_v, aft_n, aft_t, Nat.add_assoc, Nat.reduceAdd, if_true, if_false, not_true_eq_false, not_false_eq_true, Classical.not_not, Int.reduceAdd, Int.reduceSub, Int.reduceMul, Int.reduceNeg, Int.reduceLT, Int.reduceLE, Int.reduceEq, Int.add_zero, Int.zero_add, Int.sub_zero, c_190, w_190_0, w_190_1, s_isIn, bz01]
theorem s_isOnBoard {a : Int} (ha : (-2147483648 ≤ a ∧ a < 2147483648)) : cl 224 [.int (iI a)] (mk g I) = some (.inl (some (.int (iI (if 21 ≤ a ∧ a ≤ 108 then 1 else 0)))), mk g I) := by
  simp (disch := first | assumption | omega) only [aft_v, aft_n, aft_t, Nat.add_assoc, Nat.reduceAdd, if_true, if_false, not_true_eq_false, not_false_eq_true, Classical.not_not, Int.reduceAdd, Int.reduceSub, Int.reduceMul, Int.reduceNeg, Int.reduceLT, Int.reduceLE, Int.reduceEq, Int.add_zero, Int.zero_add, Int.sub_zero, c_224, w_224_0, w_224_1, s_isIn, bz01]
theorem s_areKeysM {a b c : Int} (ha : (-2147483648 ≤ a ∧ a < 2147483648)) (hb : (-2147483648 ≤ b ∧ b < 2147483648)) (hc : (-2147483648 ≤ c ∧ c < 2147483648)) : cl 249 [.int (iI a), .int (iI b), .int (iI c)] (mk g I) = some (.inl (some (.int (iI (if (21 ≤ a ∧ a ≤ 108) ∧ ((b = 0 ∧ c = 0) ∨ (a < b ∧ b ≤ 108 ∧ (c = 0 ∨ (b < c ∧ c ≤ 108)))) then 1 else 0)))), mk g I) := by
  simp (disch := first | assumption | omega) only [aft_v, aft_n, aft_t, Nat.add_assoc, Nat.reduceAdd, if_true, if_false, not_true_eq_false, not_false_eq_true, Classical.not_not, Int.reduceAdd, Int.reduceSub, Int.reduceMul, Int.reduceNeg, Int.reduceLT, Int.reduceLE, Int.reduceEq, Int.add_zero, Int.zero_add, Int.sub_zero, c_249, w_249_0, w_249_1, w_249_2, w_249_3, w_249_4, w_249_5, w_249_6, w_249_7, w_249_8, w_249_9, w_249_10, w_249_11, w_249_12, w_249_13, w_249_14, w_249_15, w_249_16, w_249_17, s_isOnBoard, bz0]
  ((repeat' split) <;> try first | rfl | omega | (refine ans_i ?_; omega))
theorem s_orNone {a : Int} (ha : (-2147483648 ≤ a ∧ a < 2147483648)) : cl 213 [.int (iI a)] (mk g I) = some (.inl (some (.int (iI (if 1000000000 ≤ a then -1 else a)))), mk g I) := by
  simp (disch := first | assumption | omega) only [aft_v, aft_n, aft_t, Nat.add_assoc, Nat.reduceAdd, if_true, if_false, not_true_eq_false, not_false_eq_true, Classical.not_not, Int.reduceAdd, Int.reduceSub, Int.reduceMul, Int.reduceNeg, Int.reduceLT, Int.reduceLE, Int.reduceEq, Int.add_zero, Int.zero_add, Int.sub_zero, c_213, w_213_0, w_213_1, w_213_2, w_213_3]
  ((repeat' split) <;> try first | rfl | omega | (refine ans_i ?_; omega))
/-- the finger of note k in a shape -/
def fgS (its k : Int) : Int := if k = 0 then its / 25 + 1 else if k = 1 then its / 5 % 5 + 1 else its % 5 + 1
theorem s_fingerIn {a k : Int} (ha : 0 ≤ a ∧ a < 2147483648) (hk : (-2147483648 ≤ k ∧ k < 2147483648)) : cl 199 [.int (iI a), .int (iI k)] (mk g I) = some (.inl (some (.int (iI (fgS a k)))), mk g I) := by
  unfold fgS
  have e1 := td_nn (b := 5) ha.1
  have e2 := td_nn (b := 25) ha.1
  have e3 := tm_nn (b := 5) ha.1
  have e4 := tm_nn (a := a / 5) (b := 5) (by omega)
  simp (disch := first | assumption | omega) only [aft_v, aft_n, aft_t, Nat.add_assoc, Nat.reduceAdd, if_true, if_false, not_true_eq_false, not_false_eq_true, Classical.not_not, Int.reduceAdd, Int.reduceSub, Int.reduceMul, Int.reduceNeg, Int.reduceLT, Int.reduceLE, Int.reduceEq, Int.add_zero, Int.zero_add, Int.sub_zero, c_199, w_199_0, w_199_1, w_199_2, w_199_3, w_199_4, w_199_5, e1, e2, e3, e4]
  ((repeat' split) <;> try first | rfl | omega | (refine ans_i ?_; omega))
/-- where the span of two fingers lies -/
def prS (a b : Int) : Int := 12 + 3 * ((if min a b = 1 then 0 else if min a b = 2 then 4 else if min a b = 3 then 7 else 9) + max a b - min a b - 1)
theorem s_pairOfM {a b : Int} (ha : 1 ≤ a ∧ a ≤ 5) (hb : 1 ≤ b ∧ b ≤ 5) : cl 155 [.int (iI a), .int (iI b)] (mk g I) = some (.inl (some (.int (iI (prS a b)))), mk g I) := by
  unfold prS
  simp (disch := first | assumption | omega) only [aft_v, aft_n, aft_t, Nat.add_assoc, Nat.reduceAdd, if_true, if_false, not_true_eq_false, not_false_eq_true, Classical.not_not, Int.reduceAdd, Int.reduceSub, Int.reduceMul, Int.reduceNeg, Int.reduceLT, Int.reduceLE, Int.reduceEq, Int.add_zero, Int.zero_add, Int.sub_zero, c_155, w_155_0, w_155_1, w_155_2, w_155_3, w_155_4, w_155_5, w_155_6, w_155_7]
  ((repeat' split) <;> try first | rfl | omega | (refine ans_i ?_; omega))
end LEAF
