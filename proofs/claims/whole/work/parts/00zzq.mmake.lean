/-! What is made: the reference. -/
def psU (I : Mm) (m : Nat) (a b lo hi li : Int) : Mm := upd2 (upd2 (upd2 I (m + 1) (prS a b) lo) (m + 1) (prS a b + 1) hi) (m + 1) (prS a b + 2) li
theorem psU_v {I : Mm} {m : Nat} {a b lo hi li i : Int} : psU I m a b lo hi li (m + 1) i = if i = prS a b + 2 then li else if i = prS a b + 1 then hi else if i = prS a b then lo else I (m + 1) i := by
  unfold psU
  by_cases h1 : i = prS a b + 2
  · rw [h1, upd2_at, if_pos rfl]
  rw [upd2_i h1, if_neg h1]
  by_cases h2 : i = prS a b + 1
  · rw [h2, upd2_at, if_pos rfl]
  rw [upd2_i h2, if_neg h2]
  by_cases h3 : i = prS a b
  · rw [h3, upd2_at, if_pos rfl]
  rw [upd2_i h3, if_neg h3]
theorem psU_p {I : Mm} {m p : Nat} {a b lo hi li : Int} (h : ¬ p = m + 1) : psU I m a b lo hi li p = I p := by
  funext i
  unfold psU
  rw [upd2_p h, upd2_p h, upd2_p h]
def wt5 (I : Mm) (m : Nat) (a w0 w1 w2 w3 w4 : Int) : Mm := upd2 (upd2 (upd2 (upd2 (upd2 I (m + 1) (2 + a) w0) (m + 1) (2 + a + 1) w1) (m + 1) (2 + a + 2) w2) (m + 1) (2 + a + 3) w3) (m + 1) (2 + a + 4) w4
theorem wt5_v {I : Mm} {m : Nat} {a w0 w1 w2 w3 w4 i : Int} : wt5 I m a w0 w1 w2 w3 w4 (m + 1) i = if i = 2 + a + 4 then w4 else if i = 2 + a + 3 then w3 else if i = 2 + a + 2 then w2 else if i = 2 + a + 1 then w1 else if i = 2 + a then w0 else I (m + 1) i := by
  unfold wt5
  by_cases h1 : i = 2 + a + 4
  · rw [h1, upd2_at, if_pos rfl]
  rw [upd2_i h1, if_neg h1]
  by_cases h2 : i = 2 + a + 3
  · rw [h2, upd2_at, if_pos rfl]
  rw [upd2_i h2, if_neg h2]
  by_cases h3 : i = 2 + a + 2
  · rw [h3, upd2_at, if_pos rfl]
  rw [upd2_i h3, if_neg h3]
  by_cases h4 : i = 2 + a + 1
  · rw [h4, upd2_at, if_pos rfl]
  rw [upd2_i h4, if_neg h4]
  by_cases h5 : i = 2 + a
  · rw [h5, upd2_at, if_pos rfl]
  rw [upd2_i h5, if_neg h5]
theorem wt5_p {I : Mm} {m p : Nat} {a w0 w1 w2 w3 w4 : Int} (h : ¬ p = m + 1) : wt5 I m a w0 w1 w2 w3 w4 p = I p := by
  funext i
  unfold wt5
  rw [upd2_p h, upd2_p h, upd2_p h, upd2_p h, upd2_p h]
/-- the first k numbers are 0 -/
def zrU (I : Mm) (p : Nat) (k : Int) : Mm := fun r i => if r = p ∧ 0 ≤ i ∧ i < k then 0 else I r i
theorem zrU_0 {I : Mm} {p : Nat} : zrU I p 0 = I := by funext r i; exact if_neg (by omega)
theorem zrU_p {I : Mm} {p r : Nat} {k : Int} (h : ¬ r = p) : zrU I p k r = I r := by funext i; exact if_neg (fun z => h z.1)
theorem zrU_s {I : Mm} {p : Nat} {k : Int} (h : 0 ≤ k) : upd2 (zrU I p k) p k 0 = zrU I p (k + 1) := by
  funext r i
  by_cases hp : r = p
  · subst hp
    by_cases hi : i = k
    · subst hi
      rw [upd2_at]
      exact (if_pos ⟨rfl, by omega, by omega⟩).symm
    · rw [upd2_i hi]
      unfold zrU
      by_cases hc : r = r ∧ 0 ≤ i ∧ i < k
      · rw [if_pos hc, if_pos ⟨rfl, by omega, by omega⟩]
      · rw [if_neg hc, if_neg (fun z => hc ⟨rfl, by omega, by omega⟩)]
  · rw [upd2_p hp, zrU_p hp, zrU_p hp]
def ps10 (I : Mm) (m : Nat) : Mm := psU (psU (psU (psU (psU (psU (psU (psU (psU (psU I m 1 2 1 5 8) m 1 3 3 7 10) m 1 4 5 9 12) m 1 5 7 11 14) m 2 3 1 2 5) m 2 4 3 4 7) m 2 5 5 7 10) m 3 4 1 2 4) m 3 5 3 4 7) m 4 5 1 2 5
theorem ps10_p {I : Mm} {m p : Nat} (h : ¬ p = m + 1) : ps10 I m p = I p := by
  unfold ps10
  rw [psU_p h, psU_p h, psU_p h, psU_p h, psU_p h, psU_p h, psU_p h, psU_p h, psU_p h, psU_p h]
theorem ps10_lo {I : Mm} {m : Nat} {i : Int} (h : i < 12) : ps10 I m (m + 1) i = I (m + 1) i := by
  unfold ps10
  simp only [psU_v]
  have e1 : prS 1 2 = 12 := by decide
  have e2 : prS 1 3 = 15 := by decide
  have e3 : prS 1 4 = 18 := by decide
  have e4 : prS 1 5 = 21 := by decide
  have e5 : prS 2 3 = 24 := by decide
  have e6 : prS 2 4 = 27 := by decide
  have e7 : prS 2 5 = 30 := by decide
  have e8 : prS 3 4 = 33 := by decide
  have e9 : prS 3 5 = 36 := by decide
  have e10 : prS 4 5 = 39 := by decide
  rw [e1, e2, e3, e4, e5, e6, e7, e8, e9, e10]
  (repeat rw [if_neg (by omega)])
theorem ps10_s {I : Mm} {m : Nat} {a b : Int} (a1 : 1 ≤ a) (a2 : a ≤ 5) (b1 : 1 ≤ b) (b2 : b ≤ 5) (hn : ¬ a = b) : ps10 I m (m + 1) (prS a b) = fS 0 a b ∧ ps10 I m (m + 1) (prS a b + 1) = fS 1 a b ∧ ps10 I m (m + 1) (prS a b + 2) = fS 2 a b := by
  unfold ps10
  simp only [psU_v]
  rcases (show a = 1 ∨ a = 2 ∨ a = 3 ∨ a = 4 ∨ a = 5 by omega) with rfl | rfl | rfl | rfl | rfl <;> rcases (show b = 1 ∨ b = 2 ∨ b = 3 ∨ b = 4 ∨ b = 5 by omega) with rfl | rfl | rfl | rfl | rfl <;> first | exact absurd rfl hn | exact ⟨rfl, rfl, rfl⟩
def bgW (I : Mm) (m : Nat) : Mm := ps10 (wt5 (upd2 (wt5 (upd2 (upd2 (zrU I (m + 1) 362) (m + 1) 1 1) m 10 0) m 0 2 5 3 1 2) m 10 5) m 5 4 1 2 4 5) m
theorem bgW_p {I : Mm} {m p : Nat} (h : ¬ p = m) (h1 : ¬ p = m + 1) : bgW I m p = I p := by
  unfold bgW
  rw [ps10_p h1, wt5_p h1]
  funext i
  rw [upd2_p h, wt5_p h1, upd2_p h, upd2_p h1, zrU_p h1]
theorem bgW_i {I : Mm} {m : Nat} {i : Int} (h : ¬ i = 10) : bgW I m m i = I m i := by
  unfold bgW
  rw [ps10_p (by omega), wt5_p (by omega), upd2_i h, wt5_p (by omega), upd2_i h, upd2_p (by omega), zrU_p (by omega)]
theorem bgW_bg {I : Mm} {m : Nat} : bgP (mv (bgW I m) m) := by
  refine ⟨?_, ?_, fun w a b => ?_, fun a b a1 a2 b1 b2 hn => ps10_s a1 a2 b1 b2 hn⟩
  · show ps10 _ m (m + 1) 1 = 1
    rw [ps10_lo (by decide), wt5_v]
    rw [if_neg (by decide), if_neg (by decide), if_neg (by decide), if_neg (by decide), if_neg (by decide), upd2_p (by omega), wt5_v]
    rw [if_neg (by decide), if_neg (by decide), if_neg (by decide), if_neg (by decide), if_neg (by decide), upd2_p (by omega), upd2_at]
  · show ps10 _ m (m + 1) 0 = 0
    rw [ps10_lo (by decide), wt5_v]
    rw [if_neg (by decide), if_neg (by decide), if_neg (by decide), if_neg (by decide), if_neg (by decide), upd2_p (by omega), wt5_v]
    rw [if_neg (by decide), if_neg (by decide), if_neg (by decide), if_neg (by decide), if_neg (by decide), upd2_p (by omega), upd2_i (by decide)]
    exact if_pos (by omega)
  · show ps10 _ m (m + 1) (2 + w) = fW w
    rw [ps10_lo (by omega), wt5_v, upd2_p (by omega), wt5_v]
    rcases (show w = 0 ∨ w = 1 ∨ w = 2 ∨ w = 3 ∨ w = 4 ∨ w = 5 ∨ w = 6 ∨ w = 7 ∨ w = 8 ∨ w = 9 by omega) with rfl | rfl | rfl | rfl | rfl | rfl | rfl | rfl | rfl | rfl <;> rfl
section MI
variable {g : Gm} {I : Mm} {m : Nat}
theorem s_putsWeights {a w0 w1 w2 w3 w4 : Int} (hm : isM g m) (ha : 0 ≤ a ∧ a ≤ 5) (h10 : I m 10 = a) :
    cl 152 [.ref m, .int (iI w0), .int (iI w1), .int (iI w2), .int (iI w3), .int (iI w4)] (mk g I) = some (.inl none, mk g (wt5 I m a w0 w1 w2 w3 w4)) := by
  obtain ⟨t_0, ⟨t_1, d_1, n_1⟩, ⟨t_2, d_2, n_2⟩, ⟨t_3, d_3, n_3⟩, ⟨t_4, d_4, n_4⟩, ⟨t_5, d_5, n_5⟩, ⟨t_6, n_6⟩, ⟨t_7, d_7, n_7⟩, ⟨t_8, d_8, n_8⟩, ⟨t_9, d_9, n_9⟩, ⟨t_10, d_10, n_10⟩, ⟨t_11, d_11, n_11⟩, ⟨t_12, d_12, n_12⟩, ⟨t_13, d_13, n_13⟩, ⟨t_14, d_14, n_14⟩, ⟨t_15, n_15⟩, ⟨t_16, n_16⟩, ⟨t_17, d_17, n_17⟩, ⟨t_18, d_18, n_18⟩⟩ := hm
  simp (maxSteps := 2000000) (disch := first | assumption | omega | (simp (disch := omega) only [gL_gL, gL_21, gtL, gnL, gL_1, gL_gL, gL_21, upd2_p]; first | assumption | omega)) only [gL_gL, gL_21, aft_v, aft_n, aft_t, Nat.add_assoc, Nat.reduceAdd, if_true, if_false, not_true_eq_false, not_false_eq_true, Classical.not_not, Int.reduceAdd, Int.reduceSub, Int.reduceMul, Int.reduceNeg, Int.reduceLT, Int.reduceLE, Int.reduceEq, Int.add_zero, Int.zero_add, Int.sub_zero, c_152, w_152_0, h10, upd2_p]
  rfl
theorem s_putsSpan {a b lo hi li : Int} (hm : isM g m) (ha : 1 ≤ a ∧ a ≤ 5) (hb : 1 ≤ b ∧ b ≤ 5) (hn : ¬ a = b) :
    cl 153 [.ref m, .int (iI a), .int (iI b), .int (iI lo), .int (iI hi), .int (iI li)] (mk g I) = some (.inl none, mk g (psU I m a b lo hi li)) := by
  have q := s_pairOfM (g := g) (I := I) ha hb
  have pb := prS_b ha hb hn
  obtain ⟨t_0, ⟨t_1, d_1, n_1⟩, ⟨t_2, d_2, n_2⟩, ⟨t_3, d_3, n_3⟩, ⟨t_4, d_4, n_4⟩, ⟨t_5, d_5, n_5⟩, ⟨t_6, n_6⟩, ⟨t_7, d_7, n_7⟩, ⟨t_8, d_8, n_8⟩, ⟨t_9, d_9, n_9⟩, ⟨t_10, d_10, n_10⟩, ⟨t_11, d_11, n_11⟩, ⟨t_12, d_12, n_12⟩, ⟨t_13, d_13, n_13⟩, ⟨t_14, d_14, n_14⟩, ⟨t_15, n_15⟩, ⟨t_16, n_16⟩, ⟨t_17, d_17, n_17⟩, ⟨t_18, d_18, n_18⟩⟩ := hm
  unfold psU
  simp (maxSteps := 2000000) (disch := first | assumption | omega) only [aft_v, aft_n, aft_t, Nat.add_assoc, Nat.reduceAdd, if_true, if_false, not_true_eq_false, not_false_eq_true, Classical.not_not, Int.reduceAdd, Int.reduceSub, Int.reduceMul, Int.reduceNeg, Int.reduceLT, Int.reduceLE, Int.reduceEq, Int.add_zero, Int.zero_add, Int.sub_zero, c_153, w_153_0, w_153_1, q]
theorem s_begins (hm : isM g m) : cl 154 [.ref m] (mk g I) = some (.inl none, mk g (bgW I m)) := by
  have hm' := hm
  obtain ⟨t_0, ⟨t_1, d_1, n_1⟩, ⟨t_2, d_2, n_2⟩, ⟨t_3, d_3, n_3⟩, ⟨t_4, d_4, n_4⟩, ⟨t_5, d_5, n_5⟩, ⟨t_6, n_6⟩, ⟨t_7, d_7, n_7⟩, ⟨t_8, d_8, n_8⟩, ⟨t_9, d_9, n_9⟩, ⟨t_10, d_10, n_10⟩, ⟨t_11, d_11, n_11⟩, ⟨t_12, d_12, n_12⟩, ⟨t_13, d_13, n_13⟩, ⟨t_14, d_14, n_14⟩, ⟨t_15, n_15⟩, ⟨t_16, n_16⟩, ⟨t_17, d_17, n_17⟩, ⟨t_18, d_18, n_18⟩⟩ := hm
  have key := loop_up (σ := Unit) (head := fun k _ => rn 154 1 [some (.ref m), some (.int (iI k))] [] (mk g (zrU I (m + 1) k))) (Inv := fun k _ => 0 ≤ k) (n := 362) (by
    intro k s k1 k0
    refine ⟨(), ?_, by omega⟩
    show rn _ _ _ _ _ = rn _ _ _ _ _
    rw [← zrU_s k0]
    refine (w_154_1 (by first | assumption | omega) (by first | assumption | omega)).trans ?_
    refine (if_neg (by omega)).trans ?_
    simp (maxSteps := 2000000) (disch := first | assumption | omega) only [aft_v, aft_n, aft_t, Nat.add_assoc, Nat.reduceAdd, if_true, if_false, not_true_eq_false, not_false_eq_true, Classical.not_not, Int.reduceAdd, Int.reduceSub, Int.reduceMul, Int.reduceNeg, Int.reduceLT, Int.reduceLE, Int.reduceEq, Int.add_zero, Int.zero_add, Int.sub_zero, w_154_2]) 0 () (by decide) (by decide)
  obtain ⟨-, key, -⟩ := key
  have key : rn 154 1 [some (.ref m), some (.int (iI 0))] [] (mk g (zrU I (m + 1) 0)) = rn 154 1 [some (.ref m), some (.int (iI 362))] [] (mk g (zrU I (m + 1) 362)) := key
  rw [zrU_0] at key
  obtain ⟨K, hK⟩ : ∃ K, K = upd2 (upd2 (zrU I (m + 1) 362) (m + 1) 1 1) m 10 0 := ⟨_, rfl⟩
  have k10 : K m 10 = 0 := by rw [hK, upd2_at]
  have w1 := s_putsWeights (g := g) (I := K) (m := m) (a := 0) (w0 := 2) (w1 := 5) (w2 := 3) (w3 := 1) (w4 := 2) hm' (by decide) k10
  obtain ⟨K2, hK2⟩ : ∃ K2, K2 = upd2 (wt5 K m 0 2 5 3 1 2) m 10 5 := ⟨_, rfl⟩
  have w2 := s_putsWeights (g := g) (I := K2) (m := m) (a := 5) (w0 := 4) (w1 := 1) (w2 := 2) (w3 := 4) (w4 := 5) hm' (by decide) (by rw [hK2, upd2_at])
  obtain ⟨S0, hS0⟩ : ∃ S0, S0 = wt5 K2 m 5 4 1 2 4 5 := ⟨_, rfl⟩
  rw [← hS0] at w2
  have p1 := s_putsSpan (g := g) (I := S0) (m := m) (a := 1) (b := 2) (lo := 1) (hi := 5) (li := 8) hm' (by decide) (by decide) (by decide)
  have p2 := s_putsSpan (g := g) (I := psU S0 m 1 2 1 5 8) (m := m) (a := 1) (b := 3) (lo := 3) (hi := 7) (li := 10) hm' (by decide) (by decide) (by decide)
  have p3 := s_putsSpan (g := g) (I := psU (psU S0 m 1 2 1 5 8) m 1 3 3 7 10) (m := m) (a := 1) (b := 4) (lo := 5) (hi := 9) (li := 12) hm' (by decide) (by decide) (by decide)
  have p4 := s_putsSpan (g := g) (I := psU (psU (psU S0 m 1 2 1 5 8) m 1 3 3 7 10) m 1 4 5 9 12) (m := m) (a := 1) (b := 5) (lo := 7) (hi := 11) (li := 14) hm' (by decide) (by decide) (by decide)
  obtain ⟨S4, hS4⟩ : ∃ S4, S4 = psU (psU (psU (psU S0 m 1 2 1 5 8) m 1 3 3 7 10) m 1 4 5 9 12) m 1 5 7 11 14 := ⟨_, rfl⟩
  rw [← hS4] at p4
  have p5 := s_putsSpan (g := g) (I := S4) (m := m) (a := 2) (b := 3) (lo := 1) (hi := 2) (li := 5) hm' (by decide) (by decide) (by decide)
  have p6 := s_putsSpan (g := g) (I := psU S4 m 2 3 1 2 5) (m := m) (a := 2) (b := 4) (lo := 3) (hi := 4) (li := 7) hm' (by decide) (by decide) (by decide)
  have p7 := s_putsSpan (g := g) (I := psU (psU S4 m 2 3 1 2 5) m 2 4 3 4 7) (m := m) (a := 2) (b := 5) (lo := 5) (hi := 7) (li := 10) hm' (by decide) (by decide) (by decide)
  obtain ⟨S7, hS7⟩ : ∃ S7, S7 = psU (psU (psU S4 m 2 3 1 2 5) m 2 4 3 4 7) m 2 5 5 7 10 := ⟨_, rfl⟩
  rw [← hS7] at p7
  have p8 := s_putsSpan (g := g) (I := S7) (m := m) (a := 3) (b := 4) (lo := 1) (hi := 2) (li := 4) hm' (by decide) (by decide) (by decide)
  have p9 := s_putsSpan (g := g) (I := psU S7 m 3 4 1 2 4) (m := m) (a := 3) (b := 5) (lo := 3) (hi := 4) (li := 7) hm' (by decide) (by decide) (by decide)
  have p10 := s_putsSpan (g := g) (I := psU (psU S7 m 3 4 1 2 4) m 3 5 3 4 7) (m := m) (a := 4) (b := 5) (lo := 1) (hi := 2) (li := 5) hm' (by decide) (by decide) (by decide)
  refine c_154.trans ?_
  refine (w_154_0).trans ?_
  refine key.trans ?_
  refine (w_154_1 (by first | assumption | omega) (by first | assumption | omega)).trans ?_
  refine (if_pos (by omega)).trans ?_
  refine (w_154_3 (by first | assumption | omega) (by first | assumption | omega) (by first | assumption | omega)).trans ?_
  rw [← hK, w1, aft_n]
  refine (w_154_4 (by first | assumption | omega)).trans ?_
  rw [← hK2, w2, aft_n]
  simp (maxSteps := 2000000) (disch := first | assumption | omega) only [aft_v, aft_n, aft_t, Nat.add_assoc, Nat.reduceAdd, if_true, if_false, not_true_eq_false, not_false_eq_true, Classical.not_not, Int.reduceAdd, Int.reduceSub, Int.reduceMul, Int.reduceNeg, Int.reduceLT, Int.reduceLE, Int.reduceEq, Int.add_zero, Int.zero_add, Int.sub_zero, w_154_5, w_154_6, w_154_7, w_154_8, w_154_9, w_154_10, w_154_11, w_154_12, w_154_13, w_154_14, w_154_15, p1, p2, p3, p4, p5, p6, p7, p8, p9, p10]
  rw [hS7, hS4, hS0, hK2, hK]
  rfl
/-- the reference is made -/
theorem newModel (hp : isM g (gnx g)) (hz : ∀ j : Nat, j ≤ 18 → ∀ i, I (gnx g + j) i = 0) (hL : ∀ j : Nat, 15 ≤ j → j ≤ 16 → ∀ i, g.2.1 (gnx g + j) i = 0) :
    cl 151 [.ref (gnx g)] (mk (gS (gC g 1 30) (gnx g) (rawS 6 nfX6)) I) = some (.inl none, mk (gC g 19 8111) (bgW (upd2 I (gnx g) 16 (-1)) (gnx g))) := by
  have hp' := hp
  obtain ⟨t_0, ⟨t_1, d_1, n_1⟩, ⟨t_2, d_2, n_2⟩, ⟨t_3, d_3, n_3⟩, ⟨t_4, d_4, n_4⟩, ⟨t_5, d_5, n_5⟩, ⟨t_6, n_6⟩, ⟨t_7, d_7, n_7⟩, ⟨t_8, d_8, n_8⟩, ⟨t_9, d_9, n_9⟩, ⟨t_10, d_10, n_10⟩, ⟨t_11, d_11, n_11⟩, ⟨t_12, d_12, n_12⟩, ⟨t_13, d_13, n_13⟩, ⟨t_14, d_14, n_14⟩, ⟨t_15, n_15⟩, ⟨t_16, n_16⟩, ⟨t_17, d_17, n_17⟩, ⟨t_18, d_18, n_18⟩⟩ := hp
  have a1 : g.1 (gnx g + 1) = .inl (0, gn g (gnx g + 1)) := gtn t_1 (by decide)
  rw [n_1] at a1
  have a2 : g.1 (gnx g + 2) = .inl (0, gn g (gnx g + 2)) := gtn t_2 (by decide)
  rw [n_2] at a2
  have a3 : g.1 (gnx g + 3) = .inl (0, gn g (gnx g + 3)) := gtn t_3 (by decide)
  rw [n_3] at a3
  have a4 : g.1 (gnx g + 4) = .inl (0, gn g (gnx g + 4)) := gtn t_4 (by decide)
  rw [n_4] at a4
  have a5 : g.1 (gnx g + 5) = .inl (0, gn g (gnx g + 5)) := gtn t_5 (by decide)
  rw [n_5] at a5
  have a6 : g.1 (gnx g + 6) = .inl (3, gn g (gnx g + 6)) := gtn t_6 (by decide)
  rw [n_6] at a6
  have a7 : g.1 (gnx g + 7) = .inl (0, gn g (gnx g + 7)) := gtn t_7 (by decide)
  rw [n_7] at a7
  have a8 : g.1 (gnx g + 8) = .inl (0, gn g (gnx g + 8)) := gtn t_8 (by decide)
  rw [n_8] at a8
  have a9 : g.1 (gnx g + 9) = .inl (0, gn g (gnx g + 9)) := gtn t_9 (by decide)
  rw [n_9] at a9
  have a10 : g.1 (gnx g + 10) = .inl (0, gn g (gnx g + 10)) := gtn t_10 (by decide)
  rw [n_10] at a10
  have a11 : g.1 (gnx g + 11) = .inl (0, gn g (gnx g + 11)) := gtn t_11 (by decide)
  rw [n_11] at a11
  have a12 : g.1 (gnx g + 12) = .inl (0, gn g (gnx g + 12)) := gtn t_12 (by decide)
  rw [n_12] at a12
  have a13 : g.1 (gnx g + 13) = .inl (0, gn g (gnx g + 13)) := gtn t_13 (by decide)
  rw [n_13] at a13
  have a14 : g.1 (gnx g + 14) = .inl (0, gn g (gnx g + 14)) := gtn t_14 (by decide)
  rw [n_14] at a14
  have a15 : g.1 (gnx g + 15) = .inl (1, gn g (gnx g + 15)) := gtn t_15 (by decide)
  rw [n_15] at a15
  have a16 : g.1 (gnx g + 16) = .inl (1, gn g (gnx g + 16)) := gtn t_16 (by decide)
  rw [n_16] at a16
  have a17 : g.1 (gnx g + 17) = .inl (0, gn g (gnx g + 17)) := gtn t_17 (by decide)
  rw [n_17] at a17
  have a18 : g.1 (gnx g + 18) = .inl (0, gn g (gnx g + 18)) := gtn t_18 (by decide)
  rw [n_18] at a18
  refine (c_151).trans ?_
  refine (rn_gx ((bk_151 0).trans rfl) <| g_LdA rfl <| g_Obj (Nat.le_of_ble_eq_true rfl) ?_)
  refine g_LdA rfl <| m_C (z := 362) rfl <| m_NewA (by decide) (by decide) (arr_i (p := gnx g + 1) (n := 362) (by rw [sh_S (by omega)]; exact a1) (hz 1 (by decide))) ?_
  refine m_PutX (g := gS (gC g 2 392) (gnx g) (rawS 6 [.null, .null, .null, .null, .null, .null, .int 0, .int 0, .null, .int 0, .int 0, .int 0, .int 0, .int 0, .int 0, .int 0, .int 0, .null, .null, .null, .null, .null, .null, .null, .null, .null, .null, .int 0, .null, .int 0])) gS_at (by show 0 < 30; decide) True.intro ?_
  rw [gS_gS]
  refine g_LdA rfl <| m_C (z := 362) rfl <| m_NewA (by decide) (by decide) (arr_i (p := gnx g + 2) (n := 362) (by rw [sh_S (by omega)]; exact a2) (hz 2 (by decide))) ?_
  refine m_PutX (g := gS (gC g 3 754) (gnx g) (rawS 6 [.ref (gnx g + 1), .null, .null, .null, .null, .null, .int 0, .int 0, .null, .int 0, .int 0, .int 0, .int 0, .int 0, .int 0, .int 0, .int 0, .null, .null, .null, .null, .null, .null, .null, .null, .null, .null, .int 0, .null, .int 0])) gS_at (by show 1 < 30; decide) True.intro ?_
  rw [gS_gS]
  refine g_LdA rfl <| m_C (z := 362) rfl <| m_NewA (by decide) (by decide) (arr_i (p := gnx g + 3) (n := 362) (by rw [sh_S (by omega)]; exact a3) (hz 3 (by decide))) ?_
  refine m_PutX (g := gS (gC g 4 1116) (gnx g) (rawS 6 [.ref (gnx g + 1), .ref (gnx g + 2), .null, .null, .null, .null, .int 0, .int 0, .null, .int 0, .int 0, .int 0, .int 0, .int 0, .int 0, .int 0, .int 0, .null, .null, .null, .null, .null, .null, .null, .null, .null, .null, .int 0, .null, .int 0])) gS_at (by show 2 < 30; decide) True.intro ?_
  rw [gS_gS]
  refine g_LdA rfl <| m_C (z := 2896) rfl <| m_NewA (by decide) (by decide) (arr_i (p := gnx g + 4) (n := 2896) (by rw [sh_S (by omega)]; exact a4) (hz 4 (by decide))) ?_
  refine m_PutX (g := gS (gC g 5 4012) (gnx g) (rawS 6 [.ref (gnx g + 1), .ref (gnx g + 2), .ref (gnx g + 3), .null, .null, .null, .int 0, .int 0, .null, .int 0, .int 0, .int 0, .int 0, .int 0, .int 0, .int 0, .int 0, .null, .null, .null, .null, .null, .null, .null, .null, .null, .null, .int 0, .null, .int 0])) gS_at (by show 3 < 30; decide) True.intro ?_
  rw [gS_gS]
  refine g_LdA rfl <| m_C (z := 724) rfl <| m_NewA (by decide) (by decide) (arr_i (p := gnx g + 5) (n := 724) (by rw [sh_S (by omega)]; exact a5) (hz 5 (by decide))) ?_
  refine m_PutX (g := gS (gC g 6 4736) (gnx g) (rawS 6 [.ref (gnx g + 1), .ref (gnx g + 2), .ref (gnx g + 3), .ref (gnx g + 4), .null, .null, .int 0, .int 0, .null, .int 0, .int 0, .int 0, .int 0, .int 0, .int 0, .int 0, .int 0, .null, .null, .null, .null, .null, .null, .null, .null, .null, .null, .int 0, .null, .int 0])) gS_at (by show 4 < 30; decide) True.intro ?_
  rw [gS_gS]
  refine g_LdA rfl <| m_C (z := 2) rfl <| m_NewA (by decide) (by decide) (arr_z (p := gnx g + 6) (n := 2) (by rw [sh_S (by omega)]; exact a6) (hz 6 (by decide))) ?_
  refine m_PutX (g := gS (gC g 7 4738) (gnx g) (rawS 6 [.ref (gnx g + 1), .ref (gnx g + 2), .ref (gnx g + 3), .ref (gnx g + 4), .ref (gnx g + 5), .null, .int 0, .int 0, .null, .int 0, .int 0, .int 0, .int 0, .int 0, .int 0, .int 0, .int 0, .null, .null, .null, .null, .null, .null, .null, .null, .null, .null, .int 0, .null, .int 0])) gS_at (by show 5 < 30; decide) True.intro ?_
  rw [gS_gS]
  refine g_LdA rfl <| m_C (z := 600) rfl <| m_NewA (by decide) (by decide) (arr_i (p := gnx g + 7) (n := 600) (by rw [sh_S (by omega)]; exact a7) (hz 7 (by decide))) ?_
  refine m_PutX (g := gS (gC g 8 5338) (gnx g) (rawS 6 [.ref (gnx g + 1), .ref (gnx g + 2), .ref (gnx g + 3), .ref (gnx g + 4), .ref (gnx g + 5), .ref (gnx g + 6), .int 0, .int 0, .null, .int 0, .int 0, .int 0, .int 0, .int 0, .int 0, .int 0, .int 0, .null, .null, .null, .null, .null, .null, .null, .null, .null, .null, .int 0, .null, .int 0])) gS_at (by show 8 < 30; decide) True.intro ?_
  rw [gS_gS]
  refine g_LdA rfl <| g_C <| m_PutX gS_at (by show 16 < 30; decide) True.intro ?_
  rw [gS_gS]
  refine g_LdA rfl <| m_C (z := 3) rfl <| m_NewA (by decide) (by decide) (arr_i (p := gnx g + 8) (n := 3) (by rw [sh_S (by omega)]; exact a8) (hz 8 (by decide))) ?_
  refine m_PutX (g := gS (gC g 9 5341) (gnx g) (rawS 6 [.ref (gnx g + 1), .ref (gnx g + 2), .ref (gnx g + 3), .ref (gnx g + 4), .ref (gnx g + 5), .ref (gnx g + 6), .int 0, .int 0, .ref (gnx g + 7), .int 0, .int 0, .int 0, .int 0, .int 0, .int 0, .int 0, .int (-1), .null, .null, .null, .null, .null, .null, .null, .null, .null, .null, .int 0, .null, .int 0])) gS_at (by show 17 < 30; decide) True.intro ?_
  rw [gS_gS]
  refine g_LdA rfl <| m_C (z := 400) rfl <| m_NewA (by decide) (by decide) (arr_i (p := gnx g + 9) (n := 400) (by rw [sh_S (by omega)]; exact a9) (hz 9 (by decide))) ?_
  refine m_PutX (g := gS (gC g 10 5741) (gnx g) (rawS 6 [.ref (gnx g + 1), .ref (gnx g + 2), .ref (gnx g + 3), .ref (gnx g + 4), .ref (gnx g + 5), .ref (gnx g + 6), .int 0, .int 0, .ref (gnx g + 7), .int 0, .int 0, .int 0, .int 0, .int 0, .int 0, .int 0, .int (-1), .ref (gnx g + 8), .null, .null, .null, .null, .null, .null, .null, .null, .null, .int 0, .null, .int 0])) gS_at (by show 18 < 30; decide) True.intro ?_
  rw [gS_gS]
  refine g_LdA rfl <| m_C (z := 400) rfl <| m_NewA (by decide) (by decide) (arr_i (p := gnx g + 10) (n := 400) (by rw [sh_S (by omega)]; exact a10) (hz 10 (by decide))) ?_
  refine m_PutX (g := gS (gC g 11 6141) (gnx g) (rawS 6 [.ref (gnx g + 1), .ref (gnx g + 2), .ref (gnx g + 3), .ref (gnx g + 4), .ref (gnx g + 5), .ref (gnx g + 6), .int 0, .int 0, .ref (gnx g + 7), .int 0, .int 0, .int 0, .int 0, .int 0, .int 0, .int 0, .int (-1), .ref (gnx g + 8), .ref (gnx g + 9), .null, .null, .null, .null, .null, .null, .null, .null, .int 0, .null, .int 0])) gS_at (by show 19 < 30; decide) True.intro ?_
  rw [gS_gS]
  refine g_LdA rfl <| m_C (z := 40) rfl <| m_NewA (by decide) (by decide) (arr_i (p := gnx g + 11) (n := 40) (by rw [sh_S (by omega)]; exact a11) (hz 11 (by decide))) ?_
  refine m_PutX (g := gS (gC g 12 6181) (gnx g) (rawS 6 [.ref (gnx g + 1), .ref (gnx g + 2), .ref (gnx g + 3), .ref (gnx g + 4), .ref (gnx g + 5), .ref (gnx g + 6), .int 0, .int 0, .ref (gnx g + 7), .int 0, .int 0, .int 0, .int 0, .int 0, .int 0, .int 0, .int (-1), .ref (gnx g + 8), .ref (gnx g + 9), .ref (gnx g + 10), .null, .null, .null, .null, .null, .null, .null, .int 0, .null, .int 0])) gS_at (by show 20 < 30; decide) True.intro ?_
  rw [gS_gS]
  refine g_LdA rfl <| m_C (z := 40) rfl <| m_NewA (by decide) (by decide) (arr_i (p := gnx g + 12) (n := 40) (by rw [sh_S (by omega)]; exact a12) (hz 12 (by decide))) ?_
  refine m_PutX (g := gS (gC g 13 6221) (gnx g) (rawS 6 [.ref (gnx g + 1), .ref (gnx g + 2), .ref (gnx g + 3), .ref (gnx g + 4), .ref (gnx g + 5), .ref (gnx g + 6), .int 0, .int 0, .ref (gnx g + 7), .int 0, .int 0, .int 0, .int 0, .int 0, .int 0, .int 0, .int (-1), .ref (gnx g + 8), .ref (gnx g + 9), .ref (gnx g + 10), .ref (gnx g + 11), .null, .null, .null, .null, .null, .null, .int 0, .null, .int 0])) gS_at (by show 21 < 30; decide) True.intro ?_
  rw [gS_gS]
  refine g_LdA rfl <| m_C (z := 400) rfl <| m_NewA (by decide) (by decide) (arr_i (p := gnx g + 13) (n := 400) (by rw [sh_S (by omega)]; exact a13) (hz 13 (by decide))) ?_
  refine m_PutX (g := gS (gC g 14 6621) (gnx g) (rawS 6 [.ref (gnx g + 1), .ref (gnx g + 2), .ref (gnx g + 3), .ref (gnx g + 4), .ref (gnx g + 5), .ref (gnx g + 6), .int 0, .int 0, .ref (gnx g + 7), .int 0, .int 0, .int 0, .int 0, .int 0, .int 0, .int 0, .int (-1), .ref (gnx g + 8), .ref (gnx g + 9), .ref (gnx g + 10), .ref (gnx g + 11), .ref (gnx g + 12), .null, .null, .null, .null, .null, .int 0, .null, .int 0])) gS_at (by show 22 < 30; decide) True.intro ?_
  rw [gS_gS]
  refine g_LdA rfl <| m_C (z := 400) rfl <| m_NewA (by decide) (by decide) (arr_i (p := gnx g + 14) (n := 400) (by rw [sh_S (by omega)]; exact a14) (hz 14 (by decide))) ?_
  refine m_PutX (g := gS (gC g 15 7021) (gnx g) (rawS 6 [.ref (gnx g + 1), .ref (gnx g + 2), .ref (gnx g + 3), .ref (gnx g + 4), .ref (gnx g + 5), .ref (gnx g + 6), .int 0, .int 0, .ref (gnx g + 7), .int 0, .int 0, .int 0, .int 0, .int 0, .int 0, .int 0, .int (-1), .ref (gnx g + 8), .ref (gnx g + 9), .ref (gnx g + 10), .ref (gnx g + 11), .ref (gnx g + 12), .ref (gnx g + 13), .null, .null, .null, .null, .int 0, .null, .int 0])) gS_at (by show 23 < 30; decide) True.intro ?_
  rw [gS_gS]
  refine g_LdA rfl <| m_C (z := 400) rfl <| m_NewA (by decide) (by decide) (arr_l (p := gnx g + 15) (n := 400) (by rw [sh_S (by omega)]; exact a15) (hL 15 (by decide) (by decide))) ?_
  refine m_PutX (g := gS (gC g 16 7421) (gnx g) (rawS 6 [.ref (gnx g + 1), .ref (gnx g + 2), .ref (gnx g + 3), .ref (gnx g + 4), .ref (gnx g + 5), .ref (gnx g + 6), .int 0, .int 0, .ref (gnx g + 7), .int 0, .int 0, .int 0, .int 0, .int 0, .int 0, .int 0, .int (-1), .ref (gnx g + 8), .ref (gnx g + 9), .ref (gnx g + 10), .ref (gnx g + 11), .ref (gnx g + 12), .ref (gnx g + 13), .ref (gnx g + 14), .null, .null, .null, .int 0, .null, .int 0])) gS_at (by show 24 < 30; decide) True.intro ?_
  rw [gS_gS]
  refine g_LdA rfl <| m_C (z := 400) rfl <| m_NewA (by decide) (by decide) (arr_l (p := gnx g + 16) (n := 400) (by rw [sh_S (by omega)]; exact a16) (hL 16 (by decide) (by decide))) ?_
  refine m_PutX (g := gS (gC g 17 7821) (gnx g) (rawS 6 [.ref (gnx g + 1), .ref (gnx g + 2), .ref (gnx g + 3), .ref (gnx g + 4), .ref (gnx g + 5), .ref (gnx g + 6), .int 0, .int 0, .ref (gnx g + 7), .int 0, .int 0, .int 0, .int 0, .int 0, .int 0, .int 0, .int (-1), .ref (gnx g + 8), .ref (gnx g + 9), .ref (gnx g + 10), .ref (gnx g + 11), .ref (gnx g + 12), .ref (gnx g + 13), .ref (gnx g + 14), .ref (gnx g + 15), .null, .null, .int 0, .null, .int 0])) gS_at (by show 25 < 30; decide) True.intro ?_
  rw [gS_gS]
  refine g_LdA rfl <| m_C (z := 40) rfl <| m_NewA (by decide) (by decide) (arr_i (p := gnx g + 17) (n := 40) (by rw [sh_S (by omega)]; exact a17) (hz 17 (by decide))) ?_
  refine m_PutX (g := gS (gC g 18 7861) (gnx g) (rawS 6 [.ref (gnx g + 1), .ref (gnx g + 2), .ref (gnx g + 3), .ref (gnx g + 4), .ref (gnx g + 5), .ref (gnx g + 6), .int 0, .int 0, .ref (gnx g + 7), .int 0, .int 0, .int 0, .int 0, .int 0, .int 0, .int 0, .int (-1), .ref (gnx g + 8), .ref (gnx g + 9), .ref (gnx g + 10), .ref (gnx g + 11), .ref (gnx g + 12), .ref (gnx g + 13), .ref (gnx g + 14), .ref (gnx g + 15), .ref (gnx g + 16), .null, .int 0, .null, .int 0])) gS_at (by show 26 < 30; decide) True.intro ?_
  rw [gS_gS]
  refine g_LdA rfl <| m_C (z := 250) rfl <| m_NewA (by decide) (by decide) (arr_i (p := gnx g + 18) (n := 250) (by rw [sh_S (by omega)]; exact a18) (hz 18 (by decide))) ?_
  refine m_PutX (g := gS (gC g 19 8111) (gnx g) (rawS 6 [.ref (gnx g + 1), .ref (gnx g + 2), .ref (gnx g + 3), .ref (gnx g + 4), .ref (gnx g + 5), .ref (gnx g + 6), .int 0, .int 0, .ref (gnx g + 7), .int 0, .int 0, .int 0, .int 0, .int 0, .int 0, .int 0, .int (-1), .ref (gnx g + 8), .ref (gnx g + 9), .ref (gnx g + 10), .ref (gnx g + 11), .ref (gnx g + 12), .ref (gnx g + 13), .ref (gnx g + 14), .ref (gnx g + 15), .ref (gnx g + 16), .ref (gnx g + 17), .int 0, .null, .int 0])) gS_at (by show 28 < 30; decide) True.intro ?_
  rw [gS_gS]
  refine g_LdA rfl ?_
  show gx 151 [] (tCv 154 2 6 0 1 (some [])) [some (.ref (gnx g))] [.ref (gnx g)] (mk (gS (gC g 19 8111) (gnx g) (rawS 6 [.ref (gnx g + 1), .ref (gnx g + 2), .ref (gnx g + 3), .ref (gnx g + 4), .ref (gnx g + 5), .ref (gnx g + 6), .int 0, .int 0, .ref (gnx g + 7), .int 0, .int 0, .int 0, .int 0, .int 0, .int 0, .int 0, .int (-1), .ref (gnx g + 8), .ref (gnx g + 9), .ref (gnx g + 10), .ref (gnx g + 11), .ref (gnx g + 12), .ref (gnx g + 13), .ref (gnx g + 14), .ref (gnx g + 15), .ref (gnx g + 16), .ref (gnx g + 17), .int 0, .ref (gnx g + 18), .int 0])) I) = _
  rw [show mk (gS (gC g 19 8111) (gnx g) (rawS 6 [.ref (gnx g + 1), .ref (gnx g + 2), .ref (gnx g + 3), .ref (gnx g + 4), .ref (gnx g + 5), .ref (gnx g + 6), .int 0, .int 0, .ref (gnx g + 7), .int 0, .int 0, .int 0, .int 0, .int 0, .int 0, .int 0, .int (-1), .ref (gnx g + 8), .ref (gnx g + 9), .ref (gnx g + 10), .ref (gnx g + 11), .ref (gnx g + 12), .ref (gnx g + 13), .ref (gnx g + 14), .ref (gnx g + 15), .ref (gnx g + 16), .ref (gnx g + 17), .int 0, .ref (gnx g + 18), .int 0])) I = mk (gC g 19 8111) (upd2 I (gnx g) 16 (-1)) from mk_raw (g := gC g 19 8111) (tpl := [some (gnx g + 1), some (gnx g + 2), some (gnx g + 3), some (gnx g + 4), some (gnx g + 5), some (gnx g + 6), none, none, some (gnx g + 7), none, none, none, none, none, none, none, none, some (gnx g + 8), some (gnx g + 9), some (gnx g + 10), some (gnx g + 11), some (gnx g + 12), some (gnx g + 13), some (gnx g + 14), some (gnx g + 15), some (gnx g + 16), some (gnx g + 17), none, some (gnx g + 18), none]) t_0 (by
    have z : ∀ i, ¬ i = 16 → upd2 I (gnx g) 16 (-1) (gnx g) i = 0 := fun i hi => by rw [upd2_i hi]; exact hz 0 (by decide) i
    have z16 : upd2 I (gnx g) 16 (-1) (gnx g) (0 + 1 + 1 + 1 + 1 + 1 + 1 + 1 + 1 + 1 + 1 + 1 + 1 + 1 + 1 + 1 + 1) = -1 := upd2_at
    simp only [rfld, z16, z (0 + 1 + 1 + 1 + 1 + 1 + 1) (by decide), z (0 + 1 + 1 + 1 + 1 + 1 + 1 + 1) (by decide), z (0 + 1 + 1 + 1 + 1 + 1 + 1 + 1 + 1 + 1) (by decide), z (0 + 1 + 1 + 1 + 1 + 1 + 1 + 1 + 1 + 1 + 1) (by decide), z (0 + 1 + 1 + 1 + 1 + 1 + 1 + 1 + 1 + 1 + 1 + 1) (by decide), z (0 + 1 + 1 + 1 + 1 + 1 + 1 + 1 + 1 + 1 + 1 + 1 + 1) (by decide), z (0 + 1 + 1 + 1 + 1 + 1 + 1 + 1 + 1 + 1 + 1 + 1 + 1 + 1) (by decide), z (0 + 1 + 1 + 1 + 1 + 1 + 1 + 1 + 1 + 1 + 1 + 1 + 1 + 1 + 1) (by decide), z (0 + 1 + 1 + 1 + 1 + 1 + 1 + 1 + 1 + 1 + 1 + 1 + 1 + 1 + 1 + 1) (by decide), z (0 + 1 + 1 + 1 + 1 + 1 + 1 + 1 + 1 + 1 + 1 + 1 + 1 + 1 + 1 + 1 + 1 + 1 + 1 + 1 + 1 + 1 + 1 + 1 + 1 + 1 + 1 + 1) (by decide), z (0 + 1 + 1 + 1 + 1 + 1 + 1 + 1 + 1 + 1 + 1 + 1 + 1 + 1 + 1 + 1 + 1 + 1 + 1 + 1 + 1 + 1 + 1 + 1 + 1 + 1 + 1 + 1 + 1 + 1) (by decide)]
    rfl) (fun q hq => funext fun j => upd2_p hq)]
  refine (m_Cv (g := gC g 19 8111) (k := 151) (m := 154) (nl := 2) (ci := 6) (n := 0) (b := 1) (hs := some []) (ls := [some (.ref (gnx g))]) (st := [.ref (gnx g)]) (as := []) (r := []) (p := gnx g) (fs := [some (gnx g + 1), some (gnx g + 2), some (gnx g + 3), some (gnx g + 4), some (gnx g + 5), some (gnx g + 6), none, none, some (gnx g + 7), none, none, none, none, none, none, none, none, some (gnx g + 8), some (gnx g + 9), some (gnx g + 10), some (gnx g + 11), some (gnx g + 12), some (gnx g + 13), some (gnx g + 14), some (gnx g + 15), some (gnx g + 16), some (gnx g + 17), none, some (gnx g + 18), none]) rfl t_0 (Nat.le_of_ble_eq_true rfl) (Nat.le_of_ble_eq_true rfl)).trans ?_
  rw [s_begins (g := gC g 19 8111) hp', aft_n]
  exact rn_gx ((bk_151 1).trans rfl) <| g_RetV rfl
end MI
