/-! costOfTold and faultOfTold of the class. -/
section CO
variable {g : Gm} {I J : Mm} {x : Nat} {P : PT} {F : Int → Int → Int} {B : Int → Int} {n : Int}
theorem s_toldRead (hH : isH g x) (hO : txB B n) (hP : P = pv I (x + 1)) (hW : Wf P) (h2 : I (x + 75 + 2) = B) (h1 : I (x + 75) 1 = n) :
    (∃ e K, gTl B n P = .inl e ∧ cl 72 [.ref (x + 75), .ref (x + 1), .ref (x + 78)] (mk g I) = some (.inl (some (.int (iI 0))), mk g K) ∧ teI (x + 75) (x + 78) e I K) ∨
    ∃ F K, gTl B n P = .inr F ∧ cl 72 [.ref (x + 75), .ref (x + 1), .ref (x + 78)] (mk g I) = some (.inl (some (.int (iI 1))), mk g K) ∧ (∀ p, ¬ p = x + 75 → ¬ p = x + 79 → K p = I p) ∧ K (x + 75) 3 = -1 ∧ tOk P F ∧ tRow K x P F := by
  rcases s_readFingering (g := g) (I := I) (t := x + 75) (q := x + 1) (R := x + 78) (B := B) (n := n) (P := P) hH.2.2.2.2.2.1 hH.2.1 hH.2.2.2.2.2.2.1 hO (by omega) (by omega) hP hW h2 h1 with h | ⟨F, K, a, b, c, d, e⟩
  · exact Or.inl h
  · exact Or.inr ⟨F, K, a, b, c, d, fun i k i0 i1 k0 k1 => (e i k i0 i1 k0 k1).2, fun i k i0 i1 k0 k1 => (e i k i0 i1 k0 k1).1⟩
theorem l_cost (hH : isH g x) (hG : gd J (x + 1)) (hP : P = pv J (x + 1)) (hW : Wf P) (hF : tOk P F) (hR : tRow J x P F) {w : Int} : rn 111 4 [some (.ref x), some (.int (iI w)), some (.int (iI 0)), some (.int (iI 0)), none] [] (mk g J) = some (.inl (some (.int (iI (tcV P F)))), mk g J) := by
  have qE := fun e e0 e1 => s_toldEvent (e := e) hH hG hP hW hF hR e0 e1
  have qP := fun e e0 e1 => s_toldPassage (e := e) hH hG hP hW hF hR e0 e1
  obtain ⟨h_0, h_1, h_18, h_35, h_55, h_75, h_78, h_80, h_82, h_84⟩ := hH
  have h1 : g.1 (x + 1) = sX0 (x + 1) := h_1.1
  have hE : J (x + 1) 1 = pE P := by rw [hP]; rfl
  have he := hW.2.1
  -- up to the first fault
  have key : ∀ L : Int, 0 ≤ L → L ≤ pE P → (∀ e, 0 ≤ e → e < L → ¬ (tcE P F e = -1 ∨ tcP P F e = -1)) → ∃ o, rn 111 4 [some (.ref x), some (.int (iI w)), some (.int (iI 0)), some (.int (iI 0)), none] [] (mk g J) = rn 111 4 [some (.ref x), some (.int (iI w)), some (.int (iI (sumN (fun e => tcE P F e + tcP P F e) L.toNat))), some (.int (iI L)), o] [] (mk g J) := fun L L0 L1 hL => by
    obtain ⟨s, k1, k2⟩ := loop_up (σ := Int × Option Value) (head := fun i s => rn 111 4 [some (.ref x), some (.int (iI w)), some (.int (iI s.1)), some (.int (iI i)), s.2] [] (mk g J)) (Inv := fun i s => 0 ≤ i ∧ s.1 = sumN (fun e => tcE P F e + tcP P F e) i.toNat) (n := L) (by
      rintro i ⟨s, o⟩ i1 ⟨i0, hs⟩
      have hn := hL i i0 i1
      have bE := tcE_b hW hF i0 (by omega)
      have bP := tcP_b hW hF i0 (by omega)
      have qs := s_sumOf (g := g) (I := J) (a := tcE P F i) (b := tcP P F i) (by omega) (by omega)
      have es : sumS (tcE P F i) (tcP P F i) = tcE P F i + tcP P F i := if_neg hn
      rw [es] at qs
      refine ⟨(s + (tcE P F i + tcP P F i), some (.int (iI (tcE P F i + tcP P F i)))), ?_, by omega, ?_⟩
      · show rn _ _ _ _ _ = rn _ _ _ _ _
        refine (w_111_4 (by first | omega | assumption) (by first | omega | assumption) (by first | omega | assumption) (by first | omega | assumption) (by first | omega | assumption) (by first | omega | assumption)).trans ?_
        rw [hE]
        refine (if_neg (by omega)).trans ?_
        refine (w_111_5 (by first | omega | assumption)).trans ?_
        rw [qE i i0 (by omega), aft_v]
        refine (w_111_6 (by first | omega | assumption)).trans ?_
        rw [qP i i0 (by omega), aft_v]
        refine (w_111_7).trans ?_
        rw [qs, aft_v]
        refine (w_111_8 (by first | omega | assumption) (by first | omega | assumption)).trans ?_
        refine (if_pos (by omega)).trans ?_
        simp (maxSteps := 2000000) (disch := first | assumption | omega) only [aft_v, aft_n, aft_t, Nat.add_assoc, Nat.reduceAdd, if_true, if_false, not_true_eq_false, not_false_eq_true, Classical.not_not, Int.reduceAdd, Int.reduceSub, Int.reduceMul, Int.reduceNeg, Int.reduceLT, Int.reduceLE, Int.reduceEq, Int.add_zero, Int.zero_add, Int.sub_zero, w_111_10]
      · have hs : s = sumN (fun e => tcE P F e + tcP P F e) i.toNat := hs
        rw [show (i + 1).toNat = i.toNat + 1 by omega]
        show s + _ = sumN (fun e => tcE P F e + tcP P F e) i.toNat + (tcE P F (i.toNat : Int) + tcP P F (i.toNat : Int))
        rw [show ((i.toNat : Nat) : Int) = i by omega, hs]) 0 (0, none) L0 ⟨Int.le_refl _, rfl⟩
    obtain ⟨s, o⟩ := s
    have k2 : s = sumN (fun e => tcE P F e + tcP P F e) L.toNat := k2.2
    refine ⟨o, ?_⟩
    rw [← k2]
    exact k1
  unfold tcV
  rcases tf_b (P := P) (F := F) hW with ⟨a, c⟩ | ⟨a, c, d⟩
  · obtain ⟨o, k⟩ := key (pE P) he.1 (Int.le_refl _) c
    rw [k, a, if_pos (by decide)]
    refine (w_111_4 (by first | omega | assumption) (by first | omega | assumption) (by first | omega | assumption) (by first | omega | assumption) (by first | omega | assumption) (by first | omega | assumption)).trans ?_
    rw [hE]
    refine (if_pos (by omega)).trans ?_
    exact w_111_11
  · obtain ⟨o, k⟩ := key (tfL P F) a.1 (by omega) d
    obtain ⟨i, hi⟩ : ∃ i, i = tfL P F := ⟨_, rfl⟩
    rw [← hi] at k a c ⊢
    rw [k, if_neg (by omega)]
    have bE := tcE_b hW hF a.1 a.2
    have bP := tcP_b hW hF a.1 a.2
    have qs := s_sumOf (g := g) (I := J) (a := tcE P F i) (b := tcP P F i) (by omega) (by omega)
    have es : sumS (tcE P F i) (tcP P F i) = -1 := if_pos c
    rw [es] at qs
    refine (w_111_4 (by first | omega | assumption) (by first | omega | assumption) (by first | omega | assumption) (by first | omega | assumption) (by first | omega | assumption) (by first | omega | assumption)).trans ?_
    rw [hE]
    refine (if_neg (by omega)).trans ?_
    refine (w_111_5 (by first | omega | assumption)).trans ?_
    rw [qE i a.1 a.2, aft_v]
    refine (w_111_6 (by first | omega | assumption)).trans ?_
    rw [qP i a.1 a.2, aft_v]
    refine (w_111_7).trans ?_
    rw [qs, aft_v]
    refine (w_111_8 (by first | omega | assumption) (by first | omega | assumption)).trans ?_
    refine (if_neg (by omega)).trans ?_
    simp (maxSteps := 2000000) (disch := first | assumption | omega) only [aft_v, aft_n, aft_t, Nat.add_assoc, Nat.reduceAdd, if_true, if_false, not_true_eq_false, not_false_eq_true, Classical.not_not, Int.reduceAdd, Int.reduceSub, Int.reduceMul, Int.reduceNeg, Int.reduceLT, Int.reduceLE, Int.reduceEq, Int.add_zero, Int.zero_add, Int.sub_zero, w_111_9]
theorem l_fault (hH : isH g x) (hG : gd J (x + 1)) (hP : P = pv J (x + 1)) (hW : Wf P) (hF : tOk P F) (hR : tRow J x P F) {w : Int} : rn 112 4 [some (.ref x), some (.int (iI w)), some (.int (iI 0))] [] (mk g J) = some (.inl (some (.int (iI (if tfV P F = -1 then -10 else tfV P F)))), mk g J) := by
  have qE := fun e e0 e1 => s_toldEvent (e := e) hH hG hP hW hF hR e0 e1
  have qP := fun e e0 e1 => s_toldPassage (e := e) hH hG hP hW hF hR e0 e1
  obtain ⟨h_0, h_1, h_18, h_35, h_55, h_75, h_78, h_80, h_82, h_84⟩ := hH
  have h1 : g.1 (x + 1) = sX0 (x + 1) := h_1.1
  have hE : J (x + 1) 1 = pE P := by rw [hP]; rfl
  have he := hW.2.1
  have key := loop_find (σ := Unit) (head := fun i _ => rn 112 4 [some (.ref x), some (.int (iI w)), some (.int (iI i))] [] (mk g J)) (p := fun e => tcE P F e = -1 ∨ tcP P F e = -1) (n := pE P) (res := fun i => some (.inl (some (.int (iI (if tcE P F i = -1 then 10 * i + 1 else 10 * i + 2)))), mk g J)) (re := some (.inl (some (.int (iI (-10)))), mk g J))
    (fun i _ i0 i1 hp => by
      have bE := tcE_b hW hF i0 i1
      have bP := tcP_b hW hF i0 i1
      show rn _ _ _ _ _ = _
      refine (w_112_4 (by first | omega | assumption) (by first | omega | assumption) (by first | omega | assumption) (by first | omega | assumption) (by first | omega | assumption) (by first | omega | assumption)).trans ?_
      rw [hE]
      refine (if_neg (by omega)).trans ?_
      refine (w_112_5 (by first | omega | assumption)).trans ?_
      rw [qE i i0 i1, aft_v]
      refine (w_112_6 (by first | omega | assumption) (by first | omega | assumption)).trans ?_
      by_cases h : tcE P F i = -1
      · rw [if_pos h, if_neg (by omega)]
        simp (maxSteps := 2000000) (disch := first | assumption | omega) only [aft_v, aft_n, aft_t, Nat.add_assoc, Nat.reduceAdd, if_true, if_false, not_true_eq_false, not_false_eq_true, Classical.not_not, Int.reduceAdd, Int.reduceSub, Int.reduceMul, Int.reduceNeg, Int.reduceLT, Int.reduceLE, Int.reduceEq, Int.add_zero, Int.zero_add, Int.sub_zero, w_112_7]
      · rw [if_neg h, if_pos h]
        have h' := hp.resolve_left h
        refine (w_112_8 (by first | omega | assumption)).trans ?_
        rw [qP i i0 i1, aft_v]
        refine (w_112_9 (by first | omega | assumption) (by first | omega | assumption)).trans ?_
        refine (if_neg (by omega)).trans ?_
        simp (maxSteps := 2000000) (disch := first | assumption | omega) only [aft_v, aft_n, aft_t, Nat.add_assoc, Nat.reduceAdd, if_true, if_false, not_true_eq_false, not_false_eq_true, Classical.not_not, Int.reduceAdd, Int.reduceSub, Int.reduceMul, Int.reduceNeg, Int.reduceLT, Int.reduceLE, Int.reduceEq, Int.add_zero, Int.zero_add, Int.sub_zero, w_112_10])
    (fun i _ i0 i1 hp => by
      have bE := tcE_b hW hF i0 i1
      have bP := tcP_b hW hF i0 i1
      refine ⟨(), ?_⟩
      show rn _ _ _ _ _ = rn _ _ _ _ _
      refine (w_112_4 (by first | omega | assumption) (by first | omega | assumption) (by first | omega | assumption) (by first | omega | assumption) (by first | omega | assumption) (by first | omega | assumption)).trans ?_
      rw [hE]
      refine (if_neg (by omega)).trans ?_
      refine (w_112_5 (by first | omega | assumption)).trans ?_
      rw [qE i i0 i1, aft_v]
      refine (w_112_6 (by first | omega | assumption) (by first | omega | assumption)).trans ?_
      refine (if_pos (by omega)).trans ?_
      refine (w_112_8 (by first | omega | assumption)).trans ?_
      rw [qP i i0 i1, aft_v]
      refine (w_112_9 (by first | omega | assumption) (by first | omega | assumption)).trans ?_
      refine (if_pos (by omega)).trans ?_
      exact w_112_11)
    (fun _ => by
      show rn _ _ _ _ _ = _
      refine (w_112_4 (by first | omega | assumption) (by first | omega | assumption) (by first | omega | assumption) (by first | omega | assumption) (by first | omega | assumption) (by first | omega | assumption)).trans ?_
      rw [hE]
      refine (if_pos (by omega)).trans ?_
      simp (maxSteps := 2000000) (disch := first | assumption | omega) only [aft_v, aft_n, aft_t, Nat.add_assoc, Nat.reduceAdd, if_true, if_false, not_true_eq_false, not_false_eq_true, Classical.not_not, Int.reduceAdd, Int.reduceSub, Int.reduceMul, Int.reduceNeg, Int.reduceLT, Int.reduceLE, Int.reduceEq, Int.add_zero, Int.zero_add, Int.sub_zero, w_112_12]) he.1 ()
  have key : rn 112 4 [some (.ref x), some (.int (iI w)), some (.int (iI 0))] [] (mk g J) = _ := key
  rw [key]
  obtain ⟨i, hi⟩ : ∃ i, i = tfL P F := ⟨_, rfl⟩
  have ev : tfV P F = if i < 0 then -1 else if tcE P F i = -1 then 10 * i + 1 else 10 * i + 2 := by rw [hi]; rfl
  have ek : (if fnd (fun e => tcE P F e = -1 ∨ tcP P F e = -1) (pE P) < 0 then (some (.inl (some (.int (iI (-10)))), mk g J) : Option Rs) else (fun i => (some (.inl (some (.int (iI (if tcE P F i = -1 then 10 * i + 1 else 10 * i + 2)))), mk g J) : Option Rs)) (fnd (fun e => tcE P F e = -1 ∨ tcP P F e = -1) (pE P))) = if i < 0 then some (.inl (some (.int (iI (-10)))), mk g J) else some (.inl (some (.int (iI (if tcE P F i = -1 then 10 * i + 1 else 10 * i + 2)))), mk g J) := by rw [hi]; rfl
  refine ek.trans ?_
  rcases tf_b (P := P) (F := F) hW with ⟨a, _⟩ | ⟨a, _⟩
  · rw [← hi] at a
    have hl : i < 0 := by omega
    rw [if_pos hl] at ev
    rw [if_pos hl, ev]
    rfl
  · rw [← hi] at a
    have hl : ¬ i < 0 := by omega
    rw [if_neg hl] at ev
    rw [if_neg hl]
    by_cases h : tcE P F i = -1
    · rw [if_pos h] at ev
      rw [if_pos h, ev, if_neg (show ¬ 10 * i + 1 = -1 by omega)]
    · rw [if_neg h] at ev
      rw [if_neg h, ev, if_neg (show ¬ 10 * i + 2 = -1 by omega)]
/-- what telling fingers leaves behind in the class -/
def tdI (x : Nat) (v : Int) (I J : Mm) : Prop := (∀ p, ¬ p = x + 75 → ¬ p = x + 79 → J p = I p) ∧ J (x + 75) 1 = 0 ∧ J (x + 75) 3 = v
theorem s_hcostOfTold (hH : isH g x) (hO : txB B n) (hG : gd I (x + 1)) (hP : P = pv I (x + 1)) (hW : Wf P) (h2 : I (x + 75 + 2) = B) (h1 : I (x + 75) 1 = n) :
    (∃ e J, gTl B n P = .inl e ∧ cl 111 [.ref x] (mk g I) = some (.inl (some (.int (iI e.1))), mk g J) ∧ tdI x e.2 I J) ∨ ∃ F J, gTl B n P = .inr F ∧ cl 111 [.ref x] (mk g I) = some (.inl (some (.int (iI (tcV P F)))), mk g J) ∧ tdI x (-1) I J := by
  have hH' := hH
  have hr := s_toldRead (g := g) hH hO hP hW h2 h1
  obtain ⟨h_0, h_1, h_18, h_35, h_55, h_75, h_78, h_80, h_82, h_84⟩ := hH
  have t4 := h_75.1
  have o1 : ¬ (1 : Int) = 0 := by decide
  rcases hr with ⟨e, K, g1, k1, k2⟩ | ⟨F, K, g1, k1, k2, k3, k4, k5⟩
  · have u2 : upd2 K (x + 75) 1 0 (x + 75) 2 = e.1 := by rw [upd2_i (by decide)]; exact k2.2.1
    refine Or.inl ⟨e, upd2 K (x + 75) 1 0, g1, ?_, fun p a c => by rw [← k2.1 p a c]; funext i; exact upd2_p a, upd2_at, by rw [upd2_i (by decide)]; exact k2.2.2⟩
    simp (maxSteps := 2000000) (disch := first | assumption | omega) only [aft_v, aft_n, aft_t, Nat.add_assoc, Nat.reduceAdd, if_true, if_false, not_true_eq_false, not_false_eq_true, Classical.not_not, Int.reduceAdd, Int.reduceSub, Int.reduceMul, Int.reduceNeg, Int.reduceLT, Int.reduceLE, Int.reduceEq, Int.add_zero, Int.zero_add, Int.sub_zero, c_111, w_111_0, w_111_1, w_111_2, k1, u2]
  · obtain ⟨L, hL⟩ : ∃ L, L = upd2 K (x + 75) 1 0 := ⟨_, rfl⟩
    have lp : ∀ p, ¬ p = x + 75 → L p = K p := fun p hp => by rw [hL]; funext i; exact upd2_p hp
    have hc : ∀ p, x + 1 ≤ p → p ≤ x + 1 + 16 → L p = I p := fun p a c => by rw [lp p (by omega), k2 p (by omega) (by omega)]
    have lc := l_cost (g := g) (J := L) (P := P) (F := F) (w := 1) hH' (gd_c hc hG) (by rw [pv_c hc]; exact hP) hW k4 (fun e i e0 e1 i0 i1 => by rw [lp _ (by omega)]; exact k5 e i e0 e1 i0 i1)
    refine Or.inr ⟨F, L, g1, ?_, fun p a c => by rw [lp p a, k2 p a c], by rw [hL, upd2_at], by rw [hL, upd2_i (by decide)]; exact k3⟩
    simp (maxSteps := 2000000) (disch := first | assumption | omega) only [aft_v, aft_n, aft_t, Nat.add_assoc, Nat.reduceAdd, if_true, if_false, not_true_eq_false, not_false_eq_true, Classical.not_not, Int.reduceAdd, Int.reduceSub, Int.reduceMul, Int.reduceNeg, Int.reduceLT, Int.reduceLE, Int.reduceEq, Int.add_zero, Int.zero_add, Int.sub_zero, c_111, w_111_0, w_111_1, w_111_3, k1, o1, ← hL]
    exact lc
theorem s_hfaultOfTold (hH : isH g x) (hO : txB B n) (hG : gd I (x + 1)) (hP : P = pv I (x + 1)) (hW : Wf P) (h2 : I (x + 75 + 2) = B) (h1 : I (x + 75) 1 = n) :
    (∃ e J, gTl B n P = .inl e ∧ cl 112 [.ref x] (mk g I) = some (.inl (some (.int (iI e.1))), mk g J) ∧ tdI x e.2 I J) ∨ ∃ F J, gTl B n P = .inr F ∧ cl 112 [.ref x] (mk g I) = some (.inl (some (.int (iI (if tfV P F = -1 then -10 else tfV P F)))), mk g J) ∧ tdI x (-1) I J := by
  have hH' := hH
  have hr := s_toldRead (g := g) hH hO hP hW h2 h1
  obtain ⟨h_0, h_1, h_18, h_35, h_55, h_75, h_78, h_80, h_82, h_84⟩ := hH
  have t4 := h_75.1
  have o1 : ¬ (1 : Int) = 0 := by decide
  rcases hr with ⟨e, K, g1, k1, k2⟩ | ⟨F, K, g1, k1, k2, k3, k4, k5⟩
  · have u2 : upd2 K (x + 75) 1 0 (x + 75) 2 = e.1 := by rw [upd2_i (by decide)]; exact k2.2.1
    refine Or.inl ⟨e, upd2 K (x + 75) 1 0, g1, ?_, fun p a c => by rw [← k2.1 p a c]; funext i; exact upd2_p a, upd2_at, by rw [upd2_i (by decide)]; exact k2.2.2⟩
    simp (maxSteps := 2000000) (disch := first | assumption | omega) only [aft_v, aft_n, aft_t, Nat.add_assoc, Nat.reduceAdd, if_true, if_false, not_true_eq_false, not_false_eq_true, Classical.not_not, Int.reduceAdd, Int.reduceSub, Int.reduceMul, Int.reduceNeg, Int.reduceLT, Int.reduceLE, Int.reduceEq, Int.add_zero, Int.zero_add, Int.sub_zero, c_112, w_112_0, w_112_1, w_112_2, k1, u2]
  · obtain ⟨L, hL⟩ : ∃ L, L = upd2 K (x + 75) 1 0 := ⟨_, rfl⟩
    have lp : ∀ p, ¬ p = x + 75 → L p = K p := fun p hp => by rw [hL]; funext i; exact upd2_p hp
    have hc : ∀ p, x + 1 ≤ p → p ≤ x + 1 + 16 → L p = I p := fun p a c => by rw [lp p (by omega), k2 p (by omega) (by omega)]
    have lc := l_fault (g := g) (J := L) (P := P) (F := F) (w := 1) hH' (gd_c hc hG) (by rw [pv_c hc]; exact hP) hW k4 (fun e i e0 e1 i0 i1 => by rw [lp _ (by omega)]; exact k5 e i e0 e1 i0 i1)
    refine Or.inr ⟨F, L, g1, ?_, fun p a c => by rw [lp p a, k2 p a c], by rw [hL, upd2_at], by rw [hL, upd2_i (by decide)]; exact k3⟩
    simp (maxSteps := 2000000) (disch := first | assumption | omega) only [aft_v, aft_n, aft_t, Nat.add_assoc, Nat.reduceAdd, if_true, if_false, not_true_eq_false, not_false_eq_true, Classical.not_not, Int.reduceAdd, Int.reduceSub, Int.reduceMul, Int.reduceNeg, Int.reduceLT, Int.reduceLE, Int.reduceEq, Int.add_zero, Int.zero_add, Int.sub_zero, c_112, w_112_0, w_112_1, w_112_3, k1, o1, ← hL]
    exact lc
end CO
