/-! The class reads fingers of events, events and pieces. -/
section RF
variable {g : Gm} {I J : Mm} {t q : Nat} {B : Int → Int} {n b : Int} {P : PT}
theorem bitF_31 {v : Int} (h : 0 ≤ v ∧ v ≤ 5) : 0 ≤ (if v = 0 then 31 else bitF v) ∧ (if v = 0 then 31 else bitF v) ≤ 31 := by
  by_cases h0 : v = 0
  · rw [if_pos h0]; decide
  · rw [if_neg h0]
    have := bit_b (f := v) (by omega)
    omega
theorem l_readFingers {N r : Int} {ky : Int → Int} (hT : isTx g t) (hq : isPc g q) (hO : txB B n) (hd : q + 17 ≤ t) (he : 0 ≤ pE P ∧ pE P < 40) (hN : 1 ≤ N ∧ N ≤ 3) : ∀ (m : Nat) (k : Int) (se : Int → Int) (b : Int) (J : Mm), 0 ≤ k → k + m = N → evE B n t q P N r ky se b I J →
    (∃ e K, gFn B n m k se b = .inl e ∧ rn 81 5 [some (.ref t), some (.ref q), some (.int (iI (pE P))), some (.int (iI k))] [] (mk g J) = some (.inl (some (.int (iI 0))), mk g K) ∧ per t q e I K) ∨ ∃ s c K, gFn B n m k se b = .inr (s, c) ∧ b ≤ c ∧ rn 81 5 [some (.ref t), some (.ref q), some (.int (iI (pE P))), some (.int (iI k))] [] (mk g J) = some (.inl (some (.int (iI 1))), mk g K) ∧ evE B n t q P N r ky s c I K := by
  have t4 := hT.1
  have hq' := hq
  obtain ⟨p_0, ⟨p_1, q_1, p_2⟩, ⟨p_3, q_3, p_4⟩, ⟨p_5, q_5, p_6⟩, ⟨p_7, q_7, p_8⟩, ⟨p_9, q_9, p_10⟩, ⟨p_11, q_11, p_12⟩, ⟨p_13, q_13, p_14⟩, ⟨p_15, q_15, p_16⟩⟩ := hq
  have o1 : ¬ (1 : Int) = 0 := by decide
  intro m
  induction m with
  | zero =>
    intro k se b J k0 km h
    have h2 := h.2.2.2.2.2.1
    have hkb := tkK_b (B := B) (n := n) (b := b)
    have h4 := h.2.2.1.2.2.1
    have qs := s_row_get (g := g) (I := J) (p := q + 1) (i := pE P) p_1 (by omega) (by omega)
    rw [show J (q + 1 + 1) (pE P) = N from h2] at qs
    have start : rn 81 5 [some (.ref t), some (.ref q), some (.int (iI (pE P))), some (.int (iI k))] [] (mk g J) = rn 81 16 [some (.ref t), some (.ref q), some (.int (iI (pE P))), some (.int (iI k))] [] (mk g J) := by
      refine (w_81_5 (by first | assumption | omega) (by first | assumption | omega)).trans ?_
      rw [qs, aft_v]
      refine (w_81_6 (by first | assumption | omega) (by first | assumption | omega) (by first | assumption | omega) (by first | assumption | omega)).trans ?_
      refine (if_pos (by omega)).trans ?_
      rfl
    rw [start]
    by_cases hk : tkK B n b = 2
    · obtain ⟨K, j1, j2⟩ := s_fail (g := g) (c := -5) hT h.2.2.1
      refine Or.inl ⟨_, K, by simp only [gFn]; rw [if_pos hk], ?_, h.er hd j2⟩
      simp (maxSteps := 2000000) (disch := first | assumption | omega) only [aft_v, aft_n, aft_t, Nat.add_assoc, Nat.reduceAdd, if_true, if_false, not_true_eq_false, not_false_eq_true, Classical.not_not, Int.reduceAdd, Int.reduceSub, Int.reduceMul, Int.reduceNeg, Int.reduceLT, Int.reduceLE, Int.reduceEq, Int.add_zero, Int.zero_add, Int.sub_zero, w_81_16, w_81_17, w_81_18, w_81_20, w_81_21, h4, hk, j1]
    · refine Or.inr ⟨se, b, J, by simp only [gFn]; rw [if_neg hk], Int.le_refl _, ?_, h⟩
      simp (maxSteps := 2000000) (disch := first | assumption | omega) only [aft_v, aft_n, aft_t, Nat.add_assoc, Nat.reduceAdd, if_true, if_false, not_true_eq_false, not_false_eq_true, Classical.not_not, Int.reduceAdd, Int.reduceSub, Int.reduceMul, Int.reduceNeg, Int.reduceLT, Int.reduceLE, Int.reduceEq, Int.add_zero, Int.zero_add, Int.sub_zero, w_81_16, w_81_19, w_81_21, h4, hk]
  | succ m ih =>
    intro k se b J k0 km h
    have h2 := h.2.2.2.2.2.1
    have qs := s_row_get (g := g) (I := J) (p := q + 1) (i := pE P) p_1 (by omega) (by omega)
    rw [show J (q + 1 + 1) (pE P) = N from h2] at qs
    have start : rn 81 5 [some (.ref t), some (.ref q), some (.int (iI (pE P))), some (.int (iI k))] [] (mk g J) = rn 81 7 [some (.ref t), some (.ref q), some (.int (iI (pE P))), some (.int (iI k))] [] (mk g J) := by
      refine (w_81_5 (by first | assumption | omega) (by first | assumption | omega)).trans ?_
      rw [qs, aft_v]
      refine (w_81_6 (by first | assumption | omega) (by first | assumption | omega) (by first | assumption | omega) (by first | assumption | omega)).trans ?_
      refine (if_neg (by omega)).trans ?_
      rfl
    rw [start]
    rcases s_takeNumber (lo := 0) (hi := 5) (fi := 0) hT hO h.2.2.1 (by decide) (by decide) (by decide) (by decide) with ⟨e, K, g1, j1, j2⟩ | ⟨v, b1, K, g1, hv, hb1, j1, j2, j3⟩
    · refine Or.inl ⟨e, K, by simp only [gFn]; rw [g1]; rfl, ?_, h.er hd j2⟩
      simp (maxSteps := 2000000) (disch := first | assumption | omega) only [aft_v, aft_n, aft_t, Nat.add_assoc, Nat.reduceAdd, if_true, if_false, not_true_eq_false, not_false_eq_true, Classical.not_not, Int.reduceAdd, Int.reduceSub, Int.reduceMul, Int.reduceNeg, Int.reduceLT, Int.reduceLE, Int.reduceEq, Int.add_zero, Int.zero_add, Int.sub_zero, w_81_7, w_81_8, w_81_9, j1]
    have hK := h.ok hd j2
    obtain ⟨w, hw⟩ : ∃ w, w = (if v = 0 then 31 else bitF v) := ⟨_, rfl⟩
    have wb := bitF_31 (v := v) ⟨hv.1, hv.2.1⟩
    rw [← hw] at wb
    obtain ⟨L, hL⟩ : ∃ L, L = upd2 K (q + 8) (pE P * 3 + k) w := ⟨_, rfl⟩
    have qp := s_row_put (g := g) (I := K) (p := q + 7) (i := pE P * 3 + k) (v := w) p_7 (by omega) (by omega)
    rw [show upd2 K (q + 7 + 1) (pE P * 3 + k) w = L from hL.symm] at qp
    have go : rn 81 7 [some (.ref t), some (.ref q), some (.int (iI (pE P))), some (.int (iI k))] [] (mk g J) = rn 81 5 [some (.ref t), some (.ref q), some (.int (iI (pE P))), some (.int (iI (k + 1)))] [] (mk g L) := by
      by_cases v0 : v = 0
      · rw [if_pos v0] at hw
        rw [hw] at qp
        simp (maxSteps := 2000000) (disch := first | assumption | omega) only [aft_v, aft_n, aft_t, Nat.add_assoc, Nat.reduceAdd, if_true, if_false, not_true_eq_false, not_false_eq_true, Classical.not_not, Int.reduceAdd, Int.reduceSub, Int.reduceMul, Int.reduceNeg, Int.reduceLT, Int.reduceLE, Int.reduceEq, Int.add_zero, Int.zero_add, Int.sub_zero, w_81_7, w_81_8, w_81_10, w_81_11, w_81_12, w_81_14, w_81_15, j1, o1, j3, v0, s_placeOf, qp]
      · rw [if_neg v0] at hw
        have qb := s_bitOf (g := g) (I := K) (a := v) (by omega)
        rw [hw] at qp
        simp (maxSteps := 2000000) (disch := first | assumption | omega) only [aft_v, aft_n, aft_t, Nat.add_assoc, Nat.reduceAdd, if_true, if_false, not_true_eq_false, not_false_eq_true, Classical.not_not, Int.reduceAdd, Int.reduceSub, Int.reduceMul, Int.reduceNeg, Int.reduceLT, Int.reduceLE, Int.reduceEq, Int.add_zero, Int.zero_add, Int.sub_zero, w_81_7, w_81_8, w_81_10, w_81_11, w_81_13, w_81_14, w_81_15, j1, o1, j3, v0, s_placeOf, qb, qp]
    rw [go]
    have eg : gFn B n (m + 1) k se b = gFn B n m (k + 1) (fun i => if i = k then w else se i) b1 := by simp only [gFn]; rw [g1, hw]; rfl
    rw [eg]
    have hE : evE B n t q P N r ky (fun i => if i = k then w else se i) b1 I L := by
      obtain ⟨e1, e2, e3, e4, e5, e6, e7, e8⟩ := hK
      have lt : ∀ p, ¬ p = q + 8 → L p = K p := fun p hp => by rw [hL]; funext i; exact upd2_p hp
      refine ⟨fun p h1 h2 => by rw [lt p (by omega), e1 p h1 h2], by rw [lt t (by omega)]; exact e2, lx_w (lt t (by omega)) (lt _ (by omega)) e3, by rw [hL]; exact pB_u e4 (by omega), by rw [hL]; exact evA_u e5 e4 (by omega), ?_, ?_, fun i i0 i1 => ?_⟩
      · rw [lt (q + 2) (by omega)]; exact e6
      · rw [lt (q + 4) (by omega)]; exact e7
      · rw [lt (q + 6) (by omega)]
        obtain ⟨z1, z2⟩ := e8 i i0 i1
        refine ⟨z1, ?_⟩
        show L (q + 8) (pE P * 3 + i) = (if i = k then w else se i)
        rw [hL]
        by_cases hi : i = k
        · rw [hi, upd2_at, if_pos rfl]
        · rw [upd2_i (by omega), if_neg hi]; exact z2
    rcases ih (k + 1) _ b1 L (by omega) (by omega) hE with ⟨e, M, m1, m2, m3⟩ | ⟨s, c, M, m1, m4, m2, m3⟩
    · exact Or.inl ⟨e, M, m1, m2, m3⟩
    · exact Or.inr ⟨s, c, M, m1, by omega, m2, m3⟩
theorem s_readFingers {N r : Int} {ky : Int → Int} (hT : isTx g t) (hq : isPc g q) (hO : txB B n) (hd : q + 17 ≤ t) (he : 0 ≤ pE P ∧ pE P < 40) (hN : 1 ≤ N ∧ N ≤ 3) (hs : ∀ p, 3 ≤ p → p ≤ 20 → isTs g I p) (hx : 64 ≤ q) (h : evE B n t q P N r ky (fun _ => 31) b I J) :
    (∃ e K, gFg B n N b = .inl e ∧ cl 81 [.ref t, .ref q, .int (iI (pE P))] (mk g J) = some (.inl (some (.int (iI 0))), mk g K) ∧ per t q e I K) ∨ ∃ s c K, gFg B n N b = .inr (s, c) ∧ b ≤ c ∧ cl 81 [.ref t, .ref q, .int (iI (pE P))] (mk g J) = some (.inl (some (.int (iI 1))), mk g K) ∧ evE B n t q P N r ky s c I K := by
  have t4 := hT.1
  have o1 : ¬ (1 : Int) = 0 := by decide
  have w := s_isWord' hT hO h.2.2.1 (isTs_c (h.1 _ (by omega) (by omega)) (hs 10 (by decide) (by decide)))
  by_cases hw : isW B n b 10
  · rw [wdS_y hw] at w
    obtain ⟨K, j1, j2, _⟩ := s_scan2 hT hO h.2.2.1
    have hK := h.ok hd j2
    have hb := lx_b h.2.2.1 hO
    have eg : gFg B n N b = gFn B n N.toNat 0 (fun _ => 31) (tkE B n b) := by unfold gFg; rw [wdS_y hw, if_neg o1]
    rw [eg]
    have start : cl 81 [.ref t, .ref q, .int (iI (pE P))] (mk g J) = rn 81 5 [some (.ref t), some (.ref q), some (.int (iI (pE P))), some (.int (iI 0))] [] (mk g K) := by
      simp (maxSteps := 2000000) (disch := first | assumption | omega) only [aft_v, aft_n, aft_t, Nat.add_assoc, Nat.reduceAdd, if_true, if_false, not_true_eq_false, not_false_eq_true, Classical.not_not, Int.reduceAdd, Int.reduceSub, Int.reduceMul, Int.reduceNeg, Int.reduceLT, Int.reduceLE, Int.reduceEq, Int.add_zero, Int.zero_add, Int.sub_zero, c_81, w_81_0, w_81_1, w_81_3, w_81_4, w, o1, j1]
    rw [start]
    rcases l_readFingers hT hq hO hd he hN N.toNat 0 (fun _ => 31) (tkE B n b) K (by decide) (by omega) hK with ⟨e, M, m1, m2, m3⟩ | ⟨s, c, M, m1, m4, m2, m3⟩
    · exact Or.inl ⟨e, M, m1, m2, m3⟩
    · exact Or.inr ⟨s, c, M, m1, by omega, m2, m3⟩
  · rw [wdS_n hw] at w
    refine Or.inr ⟨_, b, J, by unfold gFg; rw [wdS_n hw, if_pos rfl], Int.le_refl _, ?_, h⟩
    simp (maxSteps := 2000000) (disch := first | assumption | omega) only [aft_v, aft_n, aft_t, Nat.add_assoc, Nat.reduceAdd, if_true, if_false, not_true_eq_false, not_false_eq_true, Classical.not_not, Int.reduceAdd, Int.reduceSub, Int.reduceMul, Int.reduceNeg, Int.reduceLT, Int.reduceLE, Int.reduceEq, Int.add_zero, Int.zero_add, Int.sub_zero, c_81, w_81_0, w_81_1, w_81_2, w]
theorem opE_0 {e : Int} : opE J q e e = J := by
  funext p i
  show (if (p = q + 2 ∨ p = q + 4) ∧ e < i ∧ i ≤ e then J p (i - 1) else if (p = q + 6 ∨ p = q + 8) ∧ e * 3 + 3 ≤ i ∧ i < e * 3 + 3 then J p (i - 3) else J p i) = J p i
  rw [if_neg (by omega), if_neg (by omega)]
theorem ev_Agr {N r : Int} {ky se : Int → Int} (hN : N ≤ 3) (hA : evA q P J) (hE : evN q P N r ky se J) : Agr (pv J q) (paV P N r ky se) := by
  obtain ⟨h0, h1, h2, h3, h4⟩ := hA
  obtain ⟨n2, n4, n6⟩ := hE
  refine ⟨h0, h1, fun e e0 e1 => ?_, h3, h4⟩
  have e1 : e < J q 1 := e1
  show J (q + 2) e = (if e = pE P then N else pSz P e) ∧ J (q + 4) e = (if e = pE P then r else pRe P e) ∧ ∀ k, 0 ≤ k → k < J (q + 2) e → J (q + 6) (e * 3 + k) = (if e = pE P then ky k else pKy P e k) ∧ J (q + 8) (e * 3 + k) = (if e = pE P then se k else pSe P e k)
  by_cases he : e = pE P
  · rw [if_pos he, if_pos he, he, n2]
    refine ⟨rfl, n4, fun k k0 k1 => ?_⟩
    rw [if_pos rfl, if_pos rfl]
    exact n6 k k0 k1
  · obtain ⟨a1, a2, a3⟩ := h2 e e0 (by omega)
    rw [if_neg he, if_neg he, a1]
    refine ⟨rfl, a2, fun k k0 k1 => ?_⟩
    rw [if_neg he, if_neg he]
    exact a3 k k0 k1
theorem ev_open (hd : q + 17 ≤ t) (h : pst B n t q P b I J) (he : 0 ≤ pE P ∧ pE P < 40) : evE B n t q P 0 0 (fun _ => 0) (fun _ => 31) b I (upd2 (upd2 (upd2 J (q + 2) (pE P) 0) (q + 4) (pE P) 0) q 1 (pE P + 1)) := by
  obtain ⟨f1, f2, f3, f4, f5⟩ := h
  obtain ⟨a0, a1, a2, a3, a4⟩ := f5
  have a1 : J q 1 = pE P := a1
  obtain ⟨L, hL⟩ : ∃ L, L = upd2 (upd2 (upd2 J (q + 2) (pE P) 0) (q + 4) (pE P) 0) q 1 (pE P + 1) := ⟨_, rfl⟩
  have lt : ∀ p, ¬ p = q → ¬ p = q + 2 → ¬ p = q + 4 → L p = J p := fun p h1 h2 h3 => by rw [hL]; funext i; rw [upd2_p h1, upd2_p h3, upd2_p h2]
  have l0 : L q 0 = J q 0 := by rw [hL, upd2_i (by decide), upd2_p (by omega), upd2_p (by omega)]
  have l1 : L q 1 = pE P + 1 := by rw [hL, upd2_at]
  have l2 : ∀ e, ¬ e = pE P → L (q + 2) e = J (q + 2) e := fun e h => by rw [hL, upd2_p (by omega), upd2_p (by omega), upd2_i h]
  have l4 : ∀ e, ¬ e = pE P → L (q + 4) e = J (q + 4) e := fun e h => by rw [hL, upd2_p (by omega), upd2_i h, upd2_p (by omega)]
  have hB := pB_u (p := q) (i := 1) (v := pE P + 1) (pB_u (p := q + 4) (i := pE P) (v := 0) (pB_u (p := q + 2) (i := pE P) (v := 0) f4 (by omega)) (by omega)) (by omega)
  rw [← hL] at hB ⊢
  refine ⟨fun p h1 h2 => by rw [lt p (by omega) (by omega) (by omega), f1 p h1 h2], by rw [lt t (by omega) (by omega) (by omega)]; exact f2, lx_w (lt t (by omega) (by omega) (by omega)) (lt _ (by omega) (by omega) (by omega)) f3, hB, ⟨l0.trans a0, l1, fun e e0 e1 => ?_, ?_, ?_⟩, ?_, ?_, fun k k0 k1 => by omega⟩
  · rw [l2 e (by omega), l4 e (by omega), lt (q + 6) (by omega) (by omega) (by omega), lt (q + 8) (by omega) (by omega) (by omega)]
    obtain ⟨z1, z2, z3⟩ := a2 e e0 (by show e < J q 1; omega)
    have z1 : J (q + 2) e = pSz P e := z1
    exact ⟨z1, z2, fun k k0 k1 => z3 k k0 (by show k < J (q + 2) e; omega)⟩
  · rw [lt (q + 10) (by omega) (by omega) (by omega)]; exact a3
  · rw [lt (q + 12) (by omega) (by omega) (by omega), lt (q + 14) (by omega) (by omega) (by omega), lt (q + 16) (by omega) (by omega) (by omega)]; exact a4
  · rw [hL, upd2_p (by omega), upd2_p (by omega), upd2_at]
  · rw [hL, upd2_p (by omega), upd2_at]
theorem l_readEvents (hT : isTx g t) (hq : isPc g q) (hO : txB B n) (hd : q + 17 ≤ t) (hs : ∀ p, 3 ≤ p → p ≤ 20 → isTs g I p) (hx : 64 ≤ q) : ∀ (f : Nat) (P : PT) (b : Int) (J : Mm) (o : Option Value), pst B n t q P b I J → n < b + f → pan B n t q g I (gLp B n 8 (gEv B n) f P b) (rn 78 1 [some (.ref t), some (.ref q), some (.int (iI (pE P))), o] [] (mk g J)) := by
  have t4 := hT.1
  have q0 := hq.1
  have o1 : ¬ (1 : Int) = 0 := by decide
  have hts : ∀ K, (∀ p, ¬ p = t → (p < q ∨ q + 16 < p) → K p = I p) → ∀ p, 3 ≤ p → p ≤ 20 → isTs g K p := fun K hK p p0 p1 => isTs_c (hK _ (by omega) (by omega)) (hs p p0 p1)
  intro f
  induction f with
  | zero => intro P b J o h hf; have := h.2.2.1.2.2.2.2.2.2.2; omega
  | succ f ih =>
    intro P b J o h hf
    have hb := lx_b h.2.2.1 hO
    have w := s_isWord' hT hO h.2.2.1 (hts J h.1 8 (by decide) (by decide))
    have he : J q 1 = pE P := h.2.2.2.2.2.1
    have heb := h.2.2.2.1.2.1
    rw [he] at heb
    by_cases hw : isW B n b 8
    · rw [wdS_y hw] at w
      have hk1 : tkK B n b = 1 := hw.1
      have htk := hb.2.2.2.2.2 (by omega)
      have eg : gLp B n 8 (gEv B n) (f + 1) P b = bnd (gEv B n P b) fun x => gLp B n 8 (gEv B n) f x.1 x.2 := by simp only [gLp, wdS_y hw]; rfl
      rw [eg]
      by_cases h40 : 40 ≤ pE P
      · obtain ⟨K, j1, j2⟩ := s_fail (g := g) (c := -5) hT h.2.2.1
        refine Or.inl ⟨_, K, by unfold gEv; rw [if_pos h40]; rfl, ?_, h.er hd j2⟩
        simp (maxSteps := 2000000) (disch := first | assumption | omega) only [aft_v, aft_n, aft_t, Nat.add_assoc, Nat.reduceAdd, if_true, if_false, not_true_eq_false, not_false_eq_true, Classical.not_not, Int.reduceAdd, Int.reduceSub, Int.reduceMul, Int.reduceNeg, Int.reduceLT, Int.reduceLE, Int.reduceEq, Int.add_zero, Int.zero_add, Int.sub_zero, w_78_1, w_78_2, w_78_3, w_78_4, w_78_5, w_78_6, w, o1, he, show ¬ 40 < pE P by omega, show ¬ pE P < 40 by omega, j1]
      have eg2 : gEv B n P b = bnd (gKl B n 3 0 20 (fun _ => 0) (tkE B n b)) fun x1 => bnd (gRe B n x1.2.2) fun x2 => bnd (gFg B n x1.1 x2.2) fun x3 => bnd (gSe B n x3.2) fun b4 => .inr (paV P x1.1 x2.1 x1.2.1 x3.1, b4) := by unfold gEv; rw [if_neg h40]
      rw [eg2]
      obtain ⟨K, j1, j2, _⟩ := s_scan2 hT hO h.2.2.1
      have hK := h.ok hd j2
      have ke : K q 1 = pE P := by rw [j2.1 q (by omega)]; exact he
      have op := s_openPlace (g := g) (I := K) (q := q) (e := pE P) hq (by rw [ke]; omega) (by rw [ke]; omega)
      rw [ke, opE_0] at op
      have hE := ev_open hd hK (by omega)
      obtain ⟨L, hL⟩ : ∃ L, L = upd2 (upd2 (upd2 K (q + 2) (pE P) 0) (q + 4) (pE P) 0) q 1 (pE P + 1) := ⟨_, rfl⟩
      rw [← hL] at op hE
      have le : L q 1 = pE P + 1 := hE.2.2.2.2.1.2.1
      have start : rn 78 1 [some (.ref t), some (.ref q), some (.int (iI (pE P))), o] [] (mk g J) = aft rn 78 10 [some (.ref t), some (.ref q), some (.int (iI (pE P))), some (.int (iI (pE P)))] [] (some []) (cl 79 [.ref t, .ref q, .int (iI (pE P))] (mk g L)) := by
        simp (maxSteps := 2000000) (disch := first | assumption | omega) only [aft_v, aft_n, aft_t, Nat.add_assoc, Nat.reduceAdd, if_true, if_false, not_true_eq_false, not_false_eq_true, Classical.not_not, Int.reduceAdd, Int.reduceSub, Int.reduceMul, Int.reduceNeg, Int.reduceLT, Int.reduceLE, Int.reduceEq, Int.add_zero, Int.zero_add, Int.sub_zero, w_78_1, w_78_2, w_78_3, w_78_4, w_78_7, w_78_8, w, o1, he, show ¬ 40 < pE P by omega, show pE P < 40 by omega, j1, ke, op]
        refine (w_78_9 (by first | assumption | omega) (by first | assumption | omega)).trans ?_
        rw [le, show pE P + 1 - 1 = pE P by omega]
      rw [start]
      rcases s_readKeys hT hq hO hd (by omega) hE with ⟨e, M, g1, m1, m2⟩ | ⟨x, M, g1, hb1, m1, hM⟩
      · refine Or.inl ⟨e, M, by rw [g1]; rfl, ?_, m2⟩
        rw [m1]
        simp (maxSteps := 2000000) (disch := first | assumption | omega) only [aft_v, aft_n, aft_t, Nat.add_assoc, Nat.reduceAdd, if_true, if_false, not_true_eq_false, not_false_eq_true, Classical.not_not, Int.reduceAdd, Int.reduceSub, Int.reduceMul, Int.reduceNeg, Int.reduceLT, Int.reduceLE, Int.reduceEq, Int.add_zero, Int.zero_add, Int.sub_zero, w_78_10, w_78_17]
      rw [m1, g1]
      have hx1 := (gKl_ok 3 0 20 (fun _ => 0) _ x (by decide) (by decide) (fun i i0 i1 => by omega) (fun i i0 i1 => by omega) (fun z => absurd z (by decide)) g1).1
      rcases s_readRest hT hq hO hd (by omega) hs hx hM with ⟨e, N, g2, n1, n2⟩ | ⟨r, c, N, g2, hb2, hr, n1, hN⟩
      · refine Or.inl ⟨e, N, by show bnd (bnd (gRe B n x.2.2) _) _ = _; rw [g2]; rfl, ?_, n2⟩
        simp (maxSteps := 2000000) (disch := first | assumption | omega) only [aft_v, aft_n, aft_t, Nat.add_assoc, Nat.reduceAdd, if_true, if_false, not_true_eq_false, not_false_eq_true, Classical.not_not, Int.reduceAdd, Int.reduceSub, Int.reduceMul, Int.reduceNeg, Int.reduceLT, Int.reduceLE, Int.reduceEq, Int.add_zero, Int.zero_add, Int.sub_zero, w_78_10, w_78_11, w_78_12, w_78_17, o1, n1]
      rcases s_readFingers hT hq hO hd (by omega) hx1 hs hx hN with ⟨e, R, g3, r1, r2⟩ | ⟨s, d, R, g3, hb3, r1, hR⟩
      · refine Or.inl ⟨e, R, by show bnd (bnd (gRe B n x.2.2) _) _ = _; rw [g2]; show bnd (bnd (gFg B n x.1 c) _) _ = _; rw [g3]; rfl, ?_, r2⟩
        simp (maxSteps := 2000000) (disch := first | assumption | omega) only [aft_v, aft_n, aft_t, Nat.add_assoc, Nat.reduceAdd, if_true, if_false, not_true_eq_false, not_false_eq_true, Classical.not_not, Int.reduceAdd, Int.reduceSub, Int.reduceMul, Int.reduceNeg, Int.reduceLT, Int.reduceLE, Int.reduceEq, Int.add_zero, Int.zero_add, Int.sub_zero, w_78_10, w_78_11, w_78_12, w_78_13, w_78_14, w_78_17, o1, n1, r1]
      rcases s_takeSemicolon hT hO hR.2.2.1 with ⟨e, S, g4, s1, s2⟩ | ⟨b4, S, g4, hb4, s1, s2⟩
      · refine Or.inl ⟨e, S, by show bnd (bnd (gRe B n x.2.2) _) _ = _; rw [g2]; show bnd (bnd (gFg B n x.1 c) _) _ = _; rw [g3]; show bnd (bnd (gSe B n d) _) _ = _; rw [g4]; rfl, ?_, hR.er hd s2⟩
        simp (maxSteps := 2000000) (disch := first | assumption | omega) only [aft_v, aft_n, aft_t, Nat.add_assoc, Nat.reduceAdd, if_true, if_false, not_true_eq_false, not_false_eq_true, Classical.not_not, Int.reduceAdd, Int.reduceSub, Int.reduceMul, Int.reduceNeg, Int.reduceLT, Int.reduceLE, Int.reduceEq, Int.add_zero, Int.zero_add, Int.sub_zero, w_78_10, w_78_11, w_78_12, w_78_13, w_78_14, w_78_15, w_78_16, w_78_17, o1, n1, r1, s1]
      have hS := hR.ok hd s2
      have hS2 : pst B n t q (paV P x.1 r x.2.1 s) b4 I S := ⟨hS.1, hS.2.1, hS.2.2.1, hS.2.2.2.1, ev_Agr hx1.2 hS.2.2.2.2.1 hS.2.2.2.2.2⟩
      refine (ih (paV P x.1 r x.2.1 s) b4 S (some (.int (iI (pE P)))) hS2 (by omega)).eq (by show bnd (bnd (gRe B n x.2.2) _) _ = _; rw [g2]; show bnd (bnd (gFg B n x.1 c) _) _ = _; rw [g3]; show bnd (bnd (gSe B n d) _) _ = _; rw [g4]; rfl) ?_
      show _ = rn 78 1 [some (.ref t), some (.ref q), some (.int (iI (pE P + 1))), some (.int (iI (pE P)))] [] (mk g S)
      simp (maxSteps := 2000000) (disch := first | assumption | omega) only [aft_v, aft_n, aft_t, Nat.add_assoc, Nat.reduceAdd, if_true, if_false, not_true_eq_false, not_false_eq_true, Classical.not_not, Int.reduceAdd, Int.reduceSub, Int.reduceMul, Int.reduceNeg, Int.reduceLT, Int.reduceLE, Int.reduceEq, Int.add_zero, Int.zero_add, Int.sub_zero, w_78_10, w_78_11, w_78_12, w_78_13, w_78_14, w_78_15, w_78_16, w_78_18, o1, n1, r1, s1]
    · rw [wdS_n hw] at w
      refine Or.inr ⟨P, b, J, by simp only [gLp, wdS_n hw]; rfl, ?_, h⟩
      simp (maxSteps := 2000000) (disch := first | assumption | omega) only [aft_v, aft_n, aft_t, Nat.add_assoc, Nat.reduceAdd, if_true, if_false, not_true_eq_false, not_false_eq_true, Classical.not_not, Int.reduceAdd, Int.reduceSub, Int.reduceMul, Int.reduceNeg, Int.reduceLT, Int.reduceLE, Int.reduceEq, Int.add_zero, Int.zero_add, Int.sub_zero, w_78_1, w_78_2, w_78_3, w_78_19, show ¬ 40 < pE P by omega, w]
theorem s_readEvents (hT : isTx g t) (hq : isPc g q) (hO : txB B n) (hd : q + 17 ≤ t) (hs : ∀ p, 3 ≤ p → p ≤ 20 → isTs g I p) (hx : 64 ≤ q) (h0 : pE P = 0) (h : pst B n t q P b I J) : pan B n t q g I (gLo B n 8 (gEv B n) P b) (cl 78 [.ref t, .ref q] (mk g J)) := by
  have hb := h.2.2.1.2.2.2.2.2.2.1
  have hn := hO.1.2
  refine (l_readEvents hT hq hO hd hs hx 601 P b J none h (by omega)).eq rfl ?_
  rw [h0]
  simp (maxSteps := 2000000) (disch := first | assumption | omega) only [aft_v, aft_n, aft_t, Nat.add_assoc, Nat.reduceAdd, if_true, if_false, not_true_eq_false, not_false_eq_true, Classical.not_not, Int.reduceAdd, Int.reduceSub, Int.reduceMul, Int.reduceNeg, Int.reduceLT, Int.reduceLE, Int.reduceEq, Int.add_zero, Int.zero_add, Int.sub_zero, c_78, w_78_0]
end RF
