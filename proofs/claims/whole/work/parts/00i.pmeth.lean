/-! Piece: its small methods. -/
def isPc (g : Gm) (q : Nat) : Prop := g.1 q = sX0 q ∧ (isR g (q + 1) ∧ g.1 (q + 1) = sX2 (q + 1) ∧ gn g (q + 1 + 1) = 40) ∧ (isR g (q + 3) ∧ g.1 (q + 3) = sX2 (q + 3) ∧ gn g (q + 3 + 1) = 40) ∧ (isR g (q + 5) ∧ g.1 (q + 5) = sX2 (q + 5) ∧ gn g (q + 5 + 1) = 120) ∧ (isR g (q + 7) ∧ g.1 (q + 7) = sX2 (q + 7) ∧ gn g (q + 7 + 1) = 120) ∧ (isR g (q + 9) ∧ g.1 (q + 9) = sX2 (q + 9) ∧ gn g (q + 9 + 1) = 10) ∧ (isR g (q + 11) ∧ g.1 (q + 11) = sX2 (q + 11) ∧ gn g (q + 11 + 1) = 25) ∧ (isR g (q + 13) ∧ g.1 (q + 13) = sX2 (q + 13) ∧ gn g (q + 13 + 1) = 25) ∧ (isR g (q + 15) ∧ g.1 (q + 15) = sX2 (q + 15) ∧ gn g (q + 15 + 1) = 25)
def inO (r f g : Int) : Prop := if r = 0 then g < f else f < g
section PM
variable {g : Gm} {I : Mm} {q : Nat}
theorem s_keyOf {e k : Int} (hp : isPc g q) (h0 : 0 ≤ e * 3 + k) (h1 : e * 3 + k < 120) : cl 10 [.ref q, .int (iI e), .int (iI k)] (mk g I) = some (.inl (some (.int (iI (I (q + 6) (e * 3 + k))))), mk g I) := by
  obtain ⟨p_0, ⟨p_1, q_1, p_2⟩, ⟨p_3, q_3, p_4⟩, ⟨p_5, q_5, p_6⟩, ⟨p_7, q_7, p_8⟩, ⟨p_9, q_9, p_10⟩, ⟨p_11, q_11, p_12⟩, ⟨p_13, q_13, p_14⟩, ⟨p_15, q_15, p_16⟩⟩ := hp
  simp (disch := first | assumption | omega) only [aft_v, aft_n, aft_t, Nat.add_assoc, Nat.reduceAdd, if_true, if_false, not_true_eq_false, not_false_eq_true, Classical.not_not, c_10, w_10_0, w_10_1, w_10_2, s_placeOf, s_row_get]
theorem s_isFree {r : Int} (hp : isPc g q) (h0 : (-2147483648 ≤ r ∧ r < 2147483648)) (h1 : (-2147483648 ≤ I (q + 10) 8 ∧ I (q + 10) 8 < 2147483648)) : cl 16 [.ref q, .int (iI r)] (mk g I) = some (.inl (some (.int (iI (if I (q + 10) 8 ≤ r then 1 else 0)))), mk g I) := by
  obtain ⟨p_0, ⟨p_1, q_1, p_2⟩, ⟨p_3, q_3, p_4⟩, ⟨p_5, q_5, p_6⟩, ⟨p_7, q_7, p_8⟩, ⟨p_9, q_9, p_10⟩, ⟨p_11, q_11, p_12⟩, ⟨p_13, q_13, p_14⟩, ⟨p_15, q_15, p_16⟩⟩ := hp
  simp (disch := first | assumption | omega) only [aft_v, aft_n, aft_t, Nat.add_assoc, Nat.reduceAdd, if_true, if_false, not_true_eq_false, not_false_eq_true, Classical.not_not, c_16, w_16_0, w_16_1, w_16_2, w_16_3, w_16_4, s_row_get]
  ((repeat' split) <;> try first | rfl | omega | (refine ans_i ?_; omega))
theorem andI_r {a b : Int} : (-2147483648 ≤ andI a b ∧ andI a b < 2147483648) := iI_rng _
theorem s_mayPlay {e k f : Int} (hp : isPc g q) (h0 : 0 ≤ e * 3 + k) (h1 : e * 3 + k < 120) (hf : (-2147483648 ≤ f ∧ f < 2147483648)) : cl 17 [.ref q, .int (iI e), .int (iI k), .int (iI f)] (mk g I) = some (.inl (some (.int (iI (if andI (I (q + 8) (e * 3 + k)) (bitF f) = 0 then 0 else 1)))), mk g I) := by
  obtain ⟨p_0, ⟨p_1, q_1, p_2⟩, ⟨p_3, q_3, p_4⟩, ⟨p_5, q_5, p_6⟩, ⟨p_7, q_7, p_8⟩, ⟨p_9, q_9, p_10⟩, ⟨p_11, q_11, p_12⟩, ⟨p_13, q_13, p_14⟩, ⟨p_15, q_15, p_16⟩⟩ := hp
  have hr := andI_r (a := I (q + 8) (e * 3 + k)) (b := bitF f)
  simp (disch := first | assumption | omega) only [aft_v, aft_n, aft_t, Nat.add_assoc, Nat.reduceAdd, if_true, if_false, not_true_eq_false, not_false_eq_true, Classical.not_not, c_17, w_17_0, w_17_1, w_17_2, w_17_3, w_17_4, w_17_5, w_17_6, s_placeOf, s_row_get, s_bitOf]
  ((repeat' split) <;> try first | rfl | omega | (refine ans_i ?_; omega))
theorem s_inOrder {a b : Int} (hp : isPc g q) (ha : (-2147483648 ≤ a ∧ a < 2147483648)) (hb : (-2147483648 ≤ b ∧ b < 2147483648)) (h1 : I q 0 = 0 ∨ I q 0 = 1) : cl 18 [.ref q, .int (iI a), .int (iI b)] (mk g I) = some (.inl (some (.int (iI (if (if I q 0 = 0 then b < a else a < b) then 1 else 0)))), mk g I) := by
  obtain ⟨p_0, ⟨p_1, q_1, p_2⟩, ⟨p_3, q_3, p_4⟩, ⟨p_5, q_5, p_6⟩, ⟨p_7, q_7, p_8⟩, ⟨p_9, q_9, p_10⟩, ⟨p_11, q_11, p_12⟩, ⟨p_13, q_13, p_14⟩, ⟨p_15, q_15, p_16⟩⟩ := hp
  simp (disch := first | assumption | omega) only [aft_v, aft_n, aft_t, Nat.add_assoc, Nat.reduceAdd, if_true, if_false, not_true_eq_false, not_false_eq_true, Classical.not_not, c_18, w_18_0, w_18_1, w_18_2, w_18_3, w_18_4, w_18_5, w_18_6, w_18_7]
  ((repeat' split) <;> try first | rfl | omega | (refine ans_i ?_; omega))
theorem s_costOfNote {k f : Int} (hp : isPc g q) (hk : 0 ≤ k ∧ k < 2147483648) (hf : (-2147483648 ≤ f ∧ f < 2147483648)) : cl 20 [.ref q, .int (iI k), .int (iI f)] (mk g I) = some (.inl (some (.int (iI ((if f = 4 then I (q + 10) 6 else 0) + (if (f = 1 ∨ f = 5) ∧ bkI k = 1 then I (q + 10) 5 else 0))))), mk g I) := by
  obtain ⟨p_0, ⟨p_1, q_1, p_2⟩, ⟨p_3, q_3, p_4⟩, ⟨p_5, q_5, p_6⟩, ⟨p_7, q_7, p_8⟩, ⟨p_9, q_9, p_10⟩, ⟨p_11, q_11, p_12⟩, ⟨p_13, q_13, p_14⟩, ⟨p_15, q_15, p_16⟩⟩ := hp
  have hb : bkI k = 0 ∨ bkI k = 1 := bz01.symm.elim Or.inr Or.inl
  simp (disch := first | assumption | omega) only [aft_v, aft_n, aft_t, Nat.add_assoc, Nat.reduceAdd, if_true, if_false, not_true_eq_false, not_false_eq_true, Classical.not_not, c_20, w_20_0, w_20_1, w_20_2, w_20_3, w_20_4, w_20_5, w_20_6, w_20_7, w_20_8, w_20_9, w_20_10, s_row_get, s_isBlack]
  ((repeat' split) <;> try first | rfl | omega | (refine ans_i ?_; omega))
theorem s_costOfStretch {d a b : Int} (hp : isPc g q) (hd : -1000000 ≤ d ∧ d ≤ 1000000) (ha : 1 ≤ a ∧ a ≤ 5) (hb : 1 ≤ b ∧ b ≤ 5) (h1 : ∀ i, -1000000 ≤ I (q + 12) i ∧ I (q + 12) i ≤ 1000000) (h2 : ∀ i, -1000000 ≤ I (q + 14) i ∧ I (q + 14) i ≤ 1000000) (h3 : ∀ i, -1000000 ≤ I (q + 16) i ∧ I (q + 16) i ≤ 1000000) : cl 21 [.ref q, .int (iI d), .int (iI a), .int (iI b)] (mk g I) = some (.inl (some (.int (iI (stretchS (pv I q) d a b)))), mk g I) := by
  obtain ⟨p_0, ⟨p_1, q_1, p_2⟩, ⟨p_3, q_3, p_4⟩, ⟨p_5, q_5, p_6⟩, ⟨p_7, q_7, p_8⟩, ⟨p_9, q_9, p_10⟩, ⟨p_11, q_11, p_12⟩, ⟨p_13, q_13, p_14⟩, ⟨p_15, q_15, p_16⟩⟩ := hp
  have h1' := h1 ((a - 1) * 5 + b - 1)
  have h2' := h2 ((a - 1) * 5 + b - 1)
  have h3' := h3 ((a - 1) * 5 + b - 1)
  show _ = (some (Sum.inl (some (Value.int (iI (if I (q + 16) ((a - 1) * 5 + b - 1) < d then -1 else I (q + 10) 0 * max 0 (max (I (q + 12) ((a - 1) * 5 + b - 1) - d) (d - I (q + 14) ((a - 1) * 5 + b - 1))))))), mk g I) : Option Rs)
  simp (disch := first | assumption | omega) only [aft_v, aft_n, aft_t, Nat.add_assoc, Nat.reduceAdd, if_true, if_false, not_true_eq_false, not_false_eq_true, Classical.not_not, c_21, w_21_0, w_21_1, w_21_2, w_21_3, w_21_4, w_21_5, w_21_6, w_21_7, s_row_get, s_pairOf]
  ((repeat' split) <;> try first | rfl | omega | (refine ans_i ?_; omega))
theorem s_kindOfLink {f k f' k' : Int} (hp : isPc g q) (hf : 1 ≤ f ∧ f ≤ 5) (hf' : 1 ≤ f' ∧ f' ≤ 5) (hk : -1000000 ≤ k ∧ k ≤ 1000000) (hk' : -1000000 ≤ k' ∧ k' ≤ 1000000) (h1 : I q 0 = 0 ∨ I q 0 = 1) (h2 : (-2147483648 ≤ I (q + 10) 9 ∧ I (q + 10) 9 < 2147483648)) : cl 27 [.ref q, .int (iI f), .int (iI k), .int (iI f'), .int (iI k')] (mk g I) = some (.inl (some (.int (iI (kindS (pv I q) f k f' k')))), mk g I) := by
  obtain ⟨p_0, ⟨p_1, q_1, p_2⟩, ⟨p_3, q_3, p_4⟩, ⟨p_5, q_5, p_6⟩, ⟨p_7, q_7, p_8⟩, ⟨p_9, q_9, p_10⟩, ⟨p_11, q_11, p_12⟩, ⟨p_13, q_13, p_14⟩, ⟨p_15, q_15, p_16⟩⟩ := hp
  show _ = (some (Sum.inl (some (Value.int (iI (if k = k' then 0 else if f = f' then 1 else if (0 < (if I q 0 = 0 then k - k' else k' - k)) = (f < f') then 2 else if min f f' = 1 ∧ max f f' < 5 ∧ (if 0 ≤ k' - k then k' - k else k - k') ≤ I (q + 10) 9 then 3 else 4)))), mk g I) : Option Rs)
  have hb : ∀ P Q : Prop, (P = Q) = (P ↔ Q) := fun P Q => propext ⟨fun e => by rw [e], propext⟩
  by_cases c1 : k = k'
  · simp (disch := first | assumption | omega) only [aft_v, aft_n, aft_t, Nat.add_assoc, Nat.reduceAdd, if_true, if_false, not_true_eq_false, not_false_eq_true, Classical.not_not, c_27, w_27_0, w_27_1, w_27_2, w_27_3, c1]
  by_cases c2 : f = f'
  · simp (disch := first | assumption | omega) only [aft_v, aft_n, aft_t, Nat.add_assoc, Nat.reduceAdd, if_true, if_false, not_true_eq_false, not_false_eq_true, Classical.not_not, c_27, w_27_0, w_27_1, w_27_2, w_27_3, c1, c2]
  simp only [if_neg c1, if_neg c2, hb]
  rcases h1 with h1 | h1
  · by_cases c3 : k - k' ≤ 0 <;> by_cases c4 : f' ≤ f <;> simp (disch := first | assumption | omega) only [aft_v, aft_n, aft_t, Nat.add_assoc, Nat.reduceAdd, if_true, if_false, not_true_eq_false, not_false_eq_true, Classical.not_not, c_27, w_27_0, w_27_1, w_27_2, w_27_3, w_27_4, w_27_5, w_27_6, w_27_7, w_27_8, w_27_9, w_27_10, w_27_11, w_27_12, w_27_13, w_27_14, w_27_15, w_27_16, w_27_17, w_27_18, w_27_19, w_27_20, w_27_21, w_27_22, w_27_23, w_27_24, c1, c2, h1, c3, c4, s_row_get]
    all_goals ((repeat' split) <;> try first | rfl | omega | (refine ans_i ?_; omega))
  · by_cases c3 : k' - k ≤ 0 <;> by_cases c4 : f' ≤ f <;> simp (disch := first | assumption | omega) only [aft_v, aft_n, aft_t, Nat.add_assoc, Nat.reduceAdd, if_true, if_false, not_true_eq_false, not_false_eq_true, Classical.not_not, c_27, w_27_0, w_27_1, w_27_2, w_27_3, w_27_4, w_27_5, w_27_6, w_27_7, w_27_8, w_27_9, w_27_10, w_27_11, w_27_12, w_27_13, w_27_14, w_27_15, w_27_16, w_27_17, w_27_18, w_27_19, w_27_20, w_27_21, w_27_22, w_27_23, w_27_24, c1, c2, h1, c3, c4, s_row_get, show ¬ (1 : Int) = 0 by decide]
    all_goals ((repeat' split) <;> try first | rfl | omega | (refine ans_i ?_; omega))
theorem s_noteAtEnd {e n : Int} (hp : isPc g q) (he : 0 ≤ e ∧ e < 40) (hn : n = 0 ∨ n = 1) (h1 : I q 0 = 0 ∨ I q 0 = 1) : cl 25 [.ref q, .int (iI e), .int (iI n)] (mk g I) = some (.inl (some (.int (iI (if n = 1 - I q 0 then 0 else I (q + 2) e - 1)))), mk g I) := by
  obtain ⟨p_0, ⟨p_1, q_1, p_2⟩, ⟨p_3, q_3, p_4⟩, ⟨p_5, q_5, p_6⟩, ⟨p_7, q_7, p_8⟩, ⟨p_9, q_9, p_10⟩, ⟨p_11, q_11, p_12⟩, ⟨p_13, q_13, p_14⟩, ⟨p_15, q_15, p_16⟩⟩ := hp
  rcases h1 with h1 | h1 <;> rcases hn with rfl | rfl <;> simp (disch := first | assumption | omega) only [aft_v, aft_n, aft_t, Nat.add_assoc, Nat.reduceAdd, if_true, if_false, not_true_eq_false, not_false_eq_true, Classical.not_not, c_25, w_25_0, w_25_1, w_25_2, w_25_3, w_25_4, w_25_5, w_25_6, w_25_7, h1, s_row_get]
  all_goals ((repeat' split) <;> try first | rfl | omega | (refine ans_i ?_; omega))
theorem s_endsOf {e : Int} (hp : isPc g q) (he : 0 ≤ e ∧ e < 39) (h1 : (-2147483648 ≤ I (q + 2) e ∧ I (q + 2) e < 2147483648)) (h2 : (-2147483648 ≤ I (q + 2) (e + 1) ∧ I (q + 2) (e + 1) < 2147483648)) : cl 24 [.ref q, .int (iI e)] (mk g I) = some (.inl (some (.int (iI (if 1 < I (q + 2) e ∨ 1 < I (q + 2) (e + 1) then 2 else 1)))), mk g I) := by
  obtain ⟨p_0, ⟨p_1, q_1, p_2⟩, ⟨p_3, q_3, p_4⟩, ⟨p_5, q_5, p_6⟩, ⟨p_7, q_7, p_8⟩, ⟨p_9, q_9, p_10⟩, ⟨p_11, q_11, p_12⟩, ⟨p_13, q_13, p_14⟩, ⟨p_15, q_15, p_16⟩⟩ := hp
  simp (disch := first | assumption | omega) only [aft_v, aft_n, aft_t, Nat.add_assoc, Nat.reduceAdd, if_true, if_false, not_true_eq_false, not_false_eq_true, Classical.not_not, c_24, w_24_0, w_24_1, w_24_2, w_24_3, w_24_4, w_24_5, w_24_6, s_row_get]
  ((repeat' split) <;> try first | rfl | omega | (refine ans_i ?_; omega))
end PM
