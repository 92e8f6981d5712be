/-! The class: changes. -/
def rmO (I : Mm) (x : Nat) : Int := if I x 10 = 8 then (I x 9 + 1) % 8 else I x 9
def rmU (I : Mm) (x : Nat) : Int := if I x 10 = 8 then 7 else I x 10
def rmT (I : Mm) (x : Nat) : Int := (rmO I x + rmU I x) % 8
/-- room on a shelf's place: a piece that lies there, or the next one to be made -/
def rmOk (g : Gm) (I : Mm) (x s : Nat) (i : Int) : Prop := (∃ A, g.2.2.2.1 (s + 1) i.toNat = some A ∧ isPc g A ∧ pB I A ∧ x + 86 ≤ A) ∨ (g.2.2.2.1 (s + 1) i.toNat = none ∧ isPc g (gnx g) ∧ (∀ j : Nat, j ≤ 16 → ∀ i, I (gnx g + j) i = 0) ∧ isSt g I ∧ 2 ≤ gnx g ∧ x + 86 ≤ gnx g)
/-- what remembering does -/
def rmF (x : Nat) (g g' : Gm) (I I' : Mm) (A : Nat) : Prop := ((g.2.2.2.1 (x + 82 + 1) (rmT I x).toNat = some A ∧ g' = g) ∨ (g.2.2.2.1 (x + 82 + 1) (rmT I x).toNat = none ∧ A = gnx g ∧ g' = gQ (gC g 17 423) (x + 82 + 1) (rmT I x).toNat A)) ∧ x + 86 ≤ A ∧ (∀ p, ¬ p = x → ¬ p = x + 35 → p < A ∨ A + 16 < p → I' p = I p) ∧ I' x 9 = rmO I x ∧ I' x 10 = rmU I x + 1 ∧ (∀ i, ¬ i = 9 → ¬ i = 10 → I' x i = I x i) ∧ I' (x + 35) 0 = 0 ∧ (∀ i, ¬ i = 0 → I' (x + 35) i = I (x + 35) i) ∧ Agr (pv I' A) (pv I (x + 1)) ∧ pB I' A
theorem pB_c {I J : Mm} {q : Nat} (h : ∀ p, q ≤ p → p ≤ q + 16 → J p = I p) (hB : pB I q) : pB J q := by
  unfold pB at hB ⊢
  rw [h q (by omega) (by omega), h (q + 2) (by omega) (by omega), h (q + 4) (by omega) (by omega), h (q + 6) (by omega) (by omega), h (q + 8) (by omega) (by omega), h (q + 10) (by omega) (by omega), h (q + 12) (by omega) (by omega), h (q + 14) (by omega) (by omega), h (q + 16) (by omega) (by omega)]
  exact hB
theorem pv_c {I J : Mm} {q : Nat} (h : ∀ p, q ≤ p → p ≤ q + 16 → J p = I p) : pv J q = pv I q := by
  unfold pv
  rw [h q (by omega) (by omega), h (q + 2) (by omega) (by omega), h (q + 4) (by omega) (by omega), h (q + 6) (by omega) (by omega), h (q + 8) (by omega) (by omega), h (q + 10) (by omega) (by omega), h (q + 12) (by omega) (by omega), h (q + 14) (by omega) (by omega), h (q + 16) (by omega) (by omega)]
theorem gd_c {I J : Mm} {q : Nat} (h : ∀ p, q ≤ p → p ≤ q + 16 → J p = I p) (hG : gd I q) : gd J q := by
  refine ⟨pB_c h hG.1, ?_⟩
  rw [h q (by omega) (by omega), h (q + 2) (by omega) (by omega), h (q + 6) (by omega) (by omega)]
  exact hG.2
theorem isSt_c {g : Gm} {I J : Mm} (h0 : J 0 = I 0) (h1 : J 1 = I 1) (h : isSt g I) : isSt g J := by
  obtain ⟨t0, n0, t1, n1, hw, hs⟩ := h
  exact ⟨t0, n0, t1, n1, by rw [h0]; exact hw, by rw [h1]; exact hs⟩
theorem isPc_e {g g' : Gm} (h : g'.1 = g.1) {q : Nat} (hp : isPc g q) : isPc g' q := by
  obtain ⟨a, b⟩ := g
  obtain ⟨a', b'⟩ := g'
  have h : a' = a := h
  subst h
  exact hp
theorem isPl_e {g g' : Gm} (h : g'.1 = g.1) {q : Nat} (hp : isPl g q) : isPl g' q := by
  obtain ⟨a, b⟩ := g
  obtain ⟨a', b'⟩ := g'
  have h : a' = a := h
  subst h
  exact hp
theorem isH_e {g g' : Gm} (h : g'.1 = g.1) {q : Nat} (hp : isH g q) : isH g' q := by
  obtain ⟨a, b⟩ := g
  obtain ⟨a', b'⟩ := g'
  have h : a' = a := h
  subst h
  exact hp
theorem isM_e {g g' : Gm} (h : g'.1 = g.1) {q : Nat} (hp : isM g q) : isM g' q := by
  obtain ⟨a, b⟩ := g
  obtain ⟨a', b'⟩ := g'
  have h : a' = a := h
  subst h
  exact hp
theorem rmF.e {x : Nat} {g g' : Gm} {I I' : Mm} {A : Nat} (h : rmF x g g' I I' A) : g'.1 = g.1 := by
  rcases h.1 with ⟨_, h⟩ | ⟨_, _, h⟩ <;> rw [h] <;> rfl
section HC
variable {g : Gm} {I : Mm} {x : Nat}
theorem rmT_b (h9 : 0 ≤ I x 9 ∧ I x 9 < 8) (h10 : 0 ≤ I x 10 ∧ I x 10 ≤ 8) : 0 ≤ rmT I x ∧ rmT I x < 8 := by
  unfold rmT
  omega
theorem s_remember (hH : isH g x) (hB : pB I (x + 1)) (h9 : 0 ≤ I x 9 ∧ I x 9 < 8) (h10 : 0 ≤ I x 10 ∧ I x 10 ≤ 8) (hx2 : 2 ≤ x) (hk : rmOk g I x (x + 82) (rmT I x)) :
    ∃ g' I' A, cl 138 [.ref x] (mk g I) = some (.inl none, mk g' I') ∧ rmF x g g' I I' A := by
  obtain ⟨h_0, h_1, h_18, h_35, h_55, h_75, h_78, h_80, h_82, h_84⟩ := hH
  have h82 : g.1 (x + 82) = sX3 (x + 82) := h_82.1
  have h351 : g.1 (x + 35) = sX1 (x + 35) := h_35.1
  obtain ⟨J, hJ⟩ : ∃ J, J = (if I x 10 = 8 then upd2 (upd2 I x 9 ((I x 9 + 1) % 8)) x 10 7 else I) := ⟨_, rfl⟩
  have j9 : J x 9 = rmO I x := by
    rw [hJ]; unfold rmO
    split
    · rw [upd2_i (by decide), upd2_at]
    · rfl
  have j10 : J x 10 = rmU I x := by
    rw [hJ]; unfold rmU
    split
    · rw [upd2_at]
    · rfl
  have ji : ∀ i, ¬ i = 9 → ¬ i = 10 → J x i = I x i := fun i a b => by
    rw [hJ]
    split
    · rw [upd2_i b, upd2_i a]
    · rfl
  have jp : ∀ p, ¬ p = x → J p = I p := fun p hp => by
    rw [hJ]
    split
    · funext i; rw [upd2_p hp, upd2_p hp]
    · rfl
  have start : cl 138 [.ref x] (mk g I) = rn 138 2 [some (.ref x)] [] (mk g J) := by
    rw [hJ]
    refine (c_138).trans ?_
    by_cases h8 : I x 10 = 8
    · rw [if_pos h8]
      have e1 : Int.tmod (I x 9 + 1) 8 = (I x 9 + 1) % 8 := tm_nn (by omega)
      have e2 : upd2 I x 9 ((I x 9 + 1) % 8) x 10 = 8 := by rw [upd2_i (by decide)]; exact h8
      refine (w_138_0 (by first | omega | assumption) (by first | omega | assumption) (by first | omega | assumption)).trans ?_
      refine (if_neg (by omega)).trans ?_
      simp (maxSteps := 2000000) (disch := first | assumption | omega) only [aft_v, aft_n, aft_t, Nat.add_assoc, Nat.reduceAdd, if_true, if_false, not_true_eq_false, not_false_eq_true, Classical.not_not, Int.reduceAdd, Int.reduceSub, Int.reduceMul, Int.reduceNeg, Int.reduceLT, Int.reduceLE, Int.reduceEq, Int.add_zero, Int.zero_add, Int.sub_zero, w_138_1, e1, e2]
    · rw [if_neg h8]
      refine (w_138_0 (by first | omega | assumption) (by first | omega | assumption) (by first | omega | assumption)).trans ?_
      refine (if_pos (by omega)).trans ?_
      rfl
  have tb := rmT_b h9 h10
  have et : Int.tmod (rmO I x + rmU I x) 8 = rmT I x := by
    unfold rmT
    refine tm_nn ?_
    unfold rmO rmU
    split <;> omega
  have rb : 0 ≤ rmO I x ∧ rmO I x ≤ 7 ∧ 0 ≤ rmU I x ∧ rmU I x ≤ 7 := by
    unfold rmO rmU
    (repeat' split) <;> omega
  have hBJ : pB J (x + 1) := pB_c (fun p a b => jp p (by omega)) hB
  have hpl : (∃ A, g.2.2.2.1 (x + 82 + 1) (rmT I x).toNat = some A ∧ isPc g A ∧ pB J A ∧ (x + 1 + 17 ≤ A ∨ A + 17 ≤ x + 1)) ∨ (g.2.2.2.1 (x + 82 + 1) (rmT I x).toNat = none ∧ isPc g (gnx g) ∧ (∀ j : Nat, j ≤ 16 → ∀ i, J (gnx g + j) i = 0) ∧ isSt g J ∧ 2 ≤ gnx g ∧ x + 1 + 17 ≤ gnx g ∧ x + 82 + 1 < gnx g) := by
    rcases hk with ⟨A, a1, a2, a3, a4⟩ | ⟨a1, a2, a3, a4, a5, a6⟩
    · exact Or.inl ⟨A, a1, a2, pB_c (fun p a b => jp p (by omega)) a3, by omega⟩
    · exact Or.inr ⟨a1, a2, fun j hj i => by rw [jp _ (by omega)]; exact a3 j hj i, isSt_c (jp 0 (by omega)) (jp 1 (by omega)) a4, a5, by omega, by omega⟩
  obtain ⟨g', K, A, e, p1, p2, p3, p4⟩ := s_putIn (g := g) (I := J) (s := x + 82) (q := x + 1) (i := rmT I x) (n := 8) h_82 tb.1 (by omega) (by decide) h_1 hBJ hpl
  have hA : x + 86 ≤ A := by
    rcases hk with ⟨A', a1, a2, a3, a4⟩ | ⟨a1, a2, a3, a4, a5, a6⟩
    · rcases p1 with ⟨b1, _⟩ | ⟨b1, _⟩
      · rw [a1] at b1; have := Option.some.inj b1; omega
      · rw [a1] at b1; cases b1
    · rcases p1 with ⟨b1, _⟩ | ⟨_, b1, _⟩
      · rw [a1] at b1; cases b1
      · omega
  have ge : g'.1 = g.1 := by rcases p1 with ⟨_, h⟩ | ⟨_, _, h⟩ <;> rw [h] <;> rfl
  have kx : K x = J x := p2 x (by omega)
  have k10 : K x 10 = rmU I x := by rw [kx, j10]
  obtain ⟨K2, hK2⟩ : ∃ K2, K2 = upd2 K x 10 (rmU I x + 1) := ⟨_, rfl⟩
  have hf := s_forget (g := g') (I := K2) (l := x + 35) (by rw [ge]; exact h351)
  have h0' : g'.1 x = sX5 x := by rw [ge]; exact h_0
  have h351' : g'.1 (x + 35) = sX1 (x + 35) := by rw [ge]; exact h351
  refine ⟨g', upd2 K2 (x + 35) 0 0, A, ?_, ?_⟩
  · rw [start]
    simp (maxSteps := 2000000) (disch := first | assumption | omega) only [aft_v, aft_n, aft_t, Nat.add_assoc, Nat.reduceAdd, if_true, if_false, not_true_eq_false, not_false_eq_true, Classical.not_not, Int.reduceAdd, Int.reduceSub, Int.reduceMul, Int.reduceNeg, Int.reduceLT, Int.reduceLE, Int.reduceEq, Int.add_zero, Int.zero_add, Int.sub_zero, w_138_2, j9, j10, et, e]
    refine (w_138_3 (by first | assumption | omega) (by first | assumption | omega)).trans ?_
    rw [k10, ← hK2, hf, aft_n]
    simp (maxSteps := 2000000) (disch := first | assumption | omega) only [aft_v, aft_n, aft_t, Nat.add_assoc, Nat.reduceAdd, if_true, if_false, not_true_eq_false, not_false_eq_true, Classical.not_not, Int.reduceAdd, Int.reduceSub, Int.reduceMul, Int.reduceNeg, Int.reduceLT, Int.reduceLE, Int.reduceEq, Int.add_zero, Int.zero_add, Int.sub_zero, w_138_4]
  · refine ⟨p1, hA, fun p a b c => ?_, ?_, ?_, fun i a b => ?_, upd2_at, fun i a => ?_, ?_, ?_⟩
    · rw [show upd2 K2 (x + 35) 0 0 p = K2 p from funext fun j => upd2_p b, hK2, show upd2 K x 10 (rmU I x + 1) p = K p from funext fun j => upd2_p a, p2 p c, jp p a]
    · rw [upd2_p (by omega), hK2, upd2_i (by decide), kx, j9]
    · rw [upd2_p (by omega), hK2, upd2_at]
    · rw [upd2_p (by omega), hK2, upd2_i b, kx, ji i a b]
    · rw [upd2_i a, hK2, upd2_p (by omega), p2 _ (by omega), jp _ (by omega)]
    · have : pv (upd2 K2 (x + 35) 0 0) A = pv K A := pv_c (fun p a b => by rw [show upd2 K2 (x + 35) 0 0 p = K2 p from funext fun j => upd2_p (by omega), hK2]; exact funext fun j => upd2_p (by omega))
      rw [this]
      have e2 : pv J (x + 1) = pv I (x + 1) := pv_c (fun p a b => jp p (by omega))
      rw [← e2]; exact p3
    · exact pB_c (fun p a b => by rw [show upd2 K2 (x + 35) 0 0 p = K2 p from funext fun j => upd2_p (by omega), hK2]; exact funext fun j => upd2_p (by omega)) p4
theorem s_hundo {A : Nat} (hH : isH g x) (h9 : 0 ≤ I x 9 ∧ I x 9 < 8) (h10 : 1 ≤ I x 10 ∧ I x 10 ≤ 8) (hA : g.2.2.2.1 (x + 82 + 1) ((I x 9 + (I x 10 - 1)) % 8).toNat = some A) (hpA : isPc g A) (hge : x + 86 ≤ A) (h01 : I A 0 = 0 ∨ I A 0 = 1) :
    cl 126 [.ref x] (mk g I) = some (.inl (some (.int (iI (I x 10 - 1)))), mk g (upd2 (cpP (upd2 I x 10 (I x 10 - 1)) (x + 1) A) (x + 35) 0 0)) := by
  obtain ⟨h_0, h_1, h_18, h_35, h_55, h_75, h_78, h_80, h_82, h_84⟩ := hH
  have h82 : g.1 (x + 82) = sX3 (x + 82) := h_82.1
  have h351 : g.1 (x + 35) = sX1 (x + 35) := h_35.1
  obtain ⟨J, hJ⟩ : ∃ J, J = upd2 I x 10 (I x 10 - 1) := ⟨_, rfl⟩
  have j9 : J x 9 = I x 9 := by rw [hJ, upd2_i (by decide)]
  have u9 : upd2 I x 10 (I x 10 - 1) x 9 = I x 9 := upd2_i (by decide)
  have u10 : upd2 I x 10 (I x 10 - 1) x 10 = I x 10 - 1 := upd2_at
  have j10 : J x 10 = I x 10 - 1 := by rw [hJ, upd2_at]
  have et : Int.tmod (I x 9 + (I x 10 - 1)) 8 = (I x 9 + (I x 10 - 1)) % 8 := tm_nn (by omega)
  have c := s_takeOut (g := g) (I := J) (s := x + 82) (q := x + 1) (i := (I x 9 + (I x 10 - 1)) % 8) (n := 8) h_82 (by omega) (by omega) (by decide) hA h_1 hpA (by omega) (by rw [hJ, upd2_p (by omega)]; exact h01)
  have hf := s_forget (g := g) (I := cpP J (x + 1) A) (l := x + 35) h351
  have x10 : upd2 (cpP J (x + 1) A) (x + 35) 0 0 x 10 = I x 10 - 1 := by rw [upd2_p (by omega), cp_o (by omega), j10]
  refine (c_126).trans ?_
  refine (w_126_0 (by first | omega | assumption) (by first | omega | assumption) (by first | omega | assumption)).trans ?_
  refine (if_pos (by omega)).trans ?_
  refine (w_126_2 (by first | assumption | omega) (by first | assumption | omega) (by first | assumption | omega) (by first | assumption | omega)).trans ?_
  rw [← hJ, j9, j10, et, c, aft_n]
  refine (w_126_3 (by first | assumption | omega) (by first | assumption | omega)).trans ?_
  rw [hf, aft_n]
  simp (maxSteps := 2000000) (disch := first | assumption | omega) only [aft_v, aft_n, aft_t, Nat.add_assoc, Nat.reduceAdd, if_true, if_false, not_true_eq_false, not_false_eq_true, Classical.not_not, Int.reduceAdd, Int.reduceSub, Int.reduceMul, Int.reduceNeg, Int.reduceLT, Int.reduceLE, Int.reduceEq, Int.add_zero, Int.zero_add, Int.sub_zero, w_126_4, x10]
theorem s_hundoBad (h_0 : g.1 x = sX5 x) (h10 : I x 10 = 0) : cl 126 [.ref x] (mk g I) = some (.inr "java/lang/IllegalStateException", mk (gexc g) I) := by
  simp (maxSteps := 2000000) (disch := first | assumption | omega) only [aft_v, aft_n, aft_t, Nat.add_assoc, Nat.reduceAdd, if_true, if_false, not_true_eq_false, not_false_eq_true, Classical.not_not, Int.reduceAdd, Int.reduceSub, Int.reduceMul, Int.reduceNeg, Int.reduceLT, Int.reduceLE, Int.reduceEq, Int.add_zero, Int.zero_add, Int.sub_zero, c_126, w_126_0, w_126_1, h10]
theorem s_needSlot {s : Int} (hs : 0 ≤ s ∧ s ≤ 1) : cl 135 [.ref x, .int (iI s)] (mk g I) = some (.inl none, mk g I) := by
  have q := s_isWithin (g := g) (I := I) (a := s) (b := 0) (c := 1) (by omega) (by omega) (by omega)
  rw [if_pos hs] at q
  simp (maxSteps := 2000000) (disch := first | assumption | omega) only [aft_v, aft_n, aft_t, Nat.add_assoc, Nat.reduceAdd, if_true, if_false, not_true_eq_false, not_false_eq_true, Classical.not_not, Int.reduceAdd, Int.reduceSub, Int.reduceMul, Int.reduceNeg, Int.reduceLT, Int.reduceLE, Int.reduceEq, Int.add_zero, Int.zero_add, Int.sub_zero, c_135, w_135_0, w_135_1, w_135_2, w_135_3, q, show ¬ (1 : Int) = 0 by decide]
theorem s_needSlotBad {s : Int} (hr : (-2147483648 ≤ s ∧ s < 2147483648)) (hs : ¬ (0 ≤ s ∧ s ≤ 1)) : cl 135 [.ref x, .int (iI s)] (mk g I) = some (.inr "java/lang/IndexOutOfBoundsException", mk (gexc g) I) := by
  have q := s_isWithin (g := g) (I := I) (a := s) (b := 0) (c := 1) (by omega) (by omega) (by omega)
  rw [if_neg hs] at q
  simp (maxSteps := 2000000) (disch := first | assumption | omega) only [aft_v, aft_n, aft_t, Nat.add_assoc, Nat.reduceAdd, if_true, if_false, not_true_eq_false, not_false_eq_true, Classical.not_not, Int.reduceAdd, Int.reduceSub, Int.reduceMul, Int.reduceNeg, Int.reduceLT, Int.reduceLE, Int.reduceEq, Int.add_zero, Int.zero_add, Int.sub_zero, c_135, w_135_0, w_135_1, w_135_2, q]
theorem s_hsave {s : Int} (hH : isH g x) (hB : pB I (x + 1)) (hs : 0 ≤ s ∧ s ≤ 1) (hk : rmOk g I x (x + 84) s) :
    ∃ g' I' A, cl 127 [.ref x, .int (iI s)] (mk g I) = some (.inl none, mk g' I') ∧ ptI (x + 84) (x + 1) s g g' I I' A ∧ x + 86 ≤ A := by
  obtain ⟨h_0, h_1, h_18, h_35, h_55, h_75, h_78, h_80, h_82, h_84⟩ := hH
  have h84 : g.1 (x + 84) = sX3 (x + 84) := h_84.1
  have q := s_needSlot (g := g) (I := I) (x := x) hs
  have hpl : (∃ A, g.2.2.2.1 (x + 84 + 1) s.toNat = some A ∧ isPc g A ∧ pB I A ∧ (x + 1 + 17 ≤ A ∨ A + 17 ≤ x + 1)) ∨ (g.2.2.2.1 (x + 84 + 1) s.toNat = none ∧ isPc g (gnx g) ∧ (∀ j : Nat, j ≤ 16 → ∀ i, I (gnx g + j) i = 0) ∧ isSt g I ∧ 2 ≤ gnx g ∧ x + 1 + 17 ≤ gnx g ∧ x + 84 + 1 < gnx g) := by
    rcases hk with ⟨A, a1, a2, a3, a4⟩ | ⟨a1, a2, a3, a4, a5, a6⟩
    · exact Or.inl ⟨A, a1, a2, a3, by omega⟩
    · exact Or.inr ⟨a1, a2, a3, a4, a5, by omega, by omega⟩
  obtain ⟨g', K, A, e, p⟩ := s_putIn (g := g) (I := I) (s := x + 84) (q := x + 1) (i := s) (n := 2) h_84 hs.1 (by omega) (by decide) h_1 hB hpl
  refine ⟨g', K, A, ?_, p, ?_⟩
  · simp (maxSteps := 2000000) (disch := first | assumption | omega) only [aft_v, aft_n, aft_t, Nat.add_assoc, Nat.reduceAdd, if_true, if_false, not_true_eq_false, not_false_eq_true, Classical.not_not, Int.reduceAdd, Int.reduceSub, Int.reduceMul, Int.reduceNeg, Int.reduceLT, Int.reduceLE, Int.reduceEq, Int.add_zero, Int.zero_add, Int.sub_zero, c_127, w_127_0, w_127_1, w_127_2, q, e]
  · rcases hk with ⟨A', a1, a2, a3, a4⟩ | ⟨a1, a2, a3, a4, a5, a6⟩
    · rcases p.1 with ⟨b1, _⟩ | ⟨b1, _⟩
      · rw [a1] at b1; have := Option.some.inj b1; omega
      · rw [a1] at b1; cases b1
    · rcases p.1 with ⟨b1, _⟩ | ⟨_, b1, _⟩
      · rw [a1] at b1; cases b1
      · omega
theorem s_hsaveBad {s : Int} (h_0 : g.1 x = sX5 x) (hr : (-2147483648 ≤ s ∧ s < 2147483648)) (hs : ¬ (0 ≤ s ∧ s ≤ 1)) : cl 127 [.ref x, .int (iI s)] (mk g I) = some (.inr "java/lang/IndexOutOfBoundsException", mk (gexc g) I) := by
  have q := s_needSlotBad (g := g) (I := I) (x := x) hr hs
  simp (maxSteps := 2000000) (disch := first | assumption | omega) only [aft_v, aft_n, aft_t, Nat.add_assoc, Nat.reduceAdd, if_true, if_false, not_true_eq_false, not_false_eq_true, Classical.not_not, Int.reduceAdd, Int.reduceSub, Int.reduceMul, Int.reduceNeg, Int.reduceLT, Int.reduceLE, Int.reduceEq, Int.add_zero, Int.zero_add, Int.sub_zero, c_127, w_127_0, q]
theorem s_hrestore {s : Int} {A2 : Nat} (hH : isH g x) (hB : pB I (x + 1)) (h9 : 0 ≤ I x 9 ∧ I x 9 < 8) (h10 : 0 ≤ I x 10 ∧ I x 10 ≤ 8) (hx2 : 2 ≤ x) (hk : rmOk g I x (x + 82) (rmT I x)) (hs : 0 ≤ s ∧ s ≤ 1)
    (hA : g.2.2.2.1 (x + 84 + 1) s.toNat = some A2) (hpA : isPc g A2) (hge : x + 86 ≤ A2) (hlt : A2 + 17 ≤ gnx g) (hB2 : pB I A2) (hd : ∀ A, g.2.2.2.1 (x + 82 + 1) (rmT I x).toNat = some A → A + 17 ≤ A2 ∨ A2 + 17 ≤ A) :
    ∃ g' I1 A, cl 128 [.ref x, .int (iI s)] (mk g I) = some (.inl (some (.int (iI (I A2 1)))), mk g' (cpP I1 (x + 1) A2)) ∧ rmF x g g' I I1 A ∧ (A + 17 ≤ A2 ∨ A2 + 17 ≤ A) := by
  have q := s_needSlot (g := g) (I := I) (x := x) hs
  obtain ⟨g', I1, A, e, f⟩ := s_remember hH hB h9 h10 hx2 hk
  have ge := f.e
  have hH' := isH_e ge hH
  have hpA' := isPc_e ge hpA
  obtain ⟨h_0, h_1, h_18, h_35, h_55, h_75, h_78, h_80, h_82, h_84⟩ := hH
  have qh := s_holds (g := g) (I := I) (s := x + 84) (i := s) (n := 2) h_84 hs.1 (by omega) (by decide)
  rw [hA, if_neg (by intro h; cases h)] at qh
  have hdA : A + 17 ≤ A2 ∨ A2 + 17 ≤ A := by
    rcases f.1 with ⟨a, _⟩ | ⟨_, a, _⟩
    · exact hd A a
    · exact Or.inr (by omega)
  have i2 : ∀ p, A2 ≤ p → p ≤ A2 + 16 → I1 p = I p := fun p a b => f.2.2.1 p (by omega) (by omega) (by omega)
  have hA' : g'.2.2.2.1 (x + 84 + 1) s.toNat = some A2 := by
    rcases f.1 with ⟨_, a⟩ | ⟨_, _, a⟩
    · rw [a]; exact hA
    · rw [a]
      show (if x + 84 + 1 = x + 82 + 1 ∧ _ then _ else _) = _
      rw [if_neg (by omega)]; exact hA
  have hB2' : pB I1 A2 := pB_c i2 hB2
  have c := s_takeOut (g := g') (I := I1) (s := x + 84) (q := x + 1) (i := s) (n := 2) hH'.2.2.2.2.2.2.2.2.2 hs.1 (by omega) (by decide) hA' hH'.2.1 hpA' (by omega) hB2'.1
  have h84 : g.1 (x + 84) = sX3 (x + 84) := h_84.1
  have h84' : g'.1 (x + 84) = sX3 (x + 84) := by rw [ge]; exact h84
  have h0' : g'.1 x = sX5 x := by rw [ge]; exact h_0
  have h1' : g'.1 (x + 1) = sX0 (x + 1) := by rw [ge]; exact h_1.1
  have e1 : cpP I1 (x + 1) A2 (x + 1) 1 = I A2 1 := by rw [cp_01, i2 A2 (Nat.le_refl _) (by omega)]
  refine ⟨g', I1, A, ?_, f, hdA⟩
  simp (maxSteps := 2000000) (disch := first | assumption | omega) only [aft_v, aft_n, aft_t, Nat.add_assoc, Nat.reduceAdd, if_true, if_false, not_true_eq_false, not_false_eq_true, Classical.not_not, Int.reduceAdd, Int.reduceSub, Int.reduceMul, Int.reduceNeg, Int.reduceLT, Int.reduceLE, Int.reduceEq, Int.add_zero, Int.zero_add, Int.sub_zero, c_128, w_128_0, w_128_1, w_128_2, w_128_4, w_128_5, w_128_6, q, qh, e, c, e1, show ¬ (1 : Int) = 0 by decide]
theorem s_hrestoreBad {s : Int} (h_0 : g.1 x = sX5 x) (hr : (-2147483648 ≤ s ∧ s < 2147483648)) (hs : ¬ (0 ≤ s ∧ s ≤ 1)) : cl 128 [.ref x, .int (iI s)] (mk g I) = some (.inr "java/lang/IndexOutOfBoundsException", mk (gexc g) I) := by
  have q := s_needSlotBad (g := g) (I := I) (x := x) hr hs
  simp (maxSteps := 2000000) (disch := first | assumption | omega) only [aft_v, aft_n, aft_t, Nat.add_assoc, Nat.reduceAdd, if_true, if_false, not_true_eq_false, not_false_eq_true, Classical.not_not, Int.reduceAdd, Int.reduceSub, Int.reduceMul, Int.reduceNeg, Int.reduceLT, Int.reduceLE, Int.reduceEq, Int.add_zero, Int.zero_add, Int.sub_zero, c_128, w_128_0, q]
theorem s_hrestoreNo {s : Int} (hH : isH g x) (hs : 0 ≤ s ∧ s ≤ 1) (hA : g.2.2.2.1 (x + 84 + 1) s.toNat = none) : cl 128 [.ref x, .int (iI s)] (mk g I) = some (.inr "java/lang/IllegalStateException", mk (gexc g) I) := by
  have q := s_needSlot (g := g) (I := I) (x := x) hs
  obtain ⟨h_0, h_1, h_18, h_35, h_55, h_75, h_78, h_80, h_82, h_84⟩ := hH
  have h84 : g.1 (x + 84) = sX3 (x + 84) := h_84.1
  have qh := s_holds (g := g) (I := I) (s := x + 84) (i := s) (n := 2) h_84 hs.1 (by omega) (by decide)
  rw [hA, if_pos rfl] at qh
  simp (maxSteps := 2000000) (disch := first | assumption | omega) only [aft_v, aft_n, aft_t, Nat.add_assoc, Nat.reduceAdd, if_true, if_false, not_true_eq_false, not_false_eq_true, Classical.not_not, Int.reduceAdd, Int.reduceSub, Int.reduceMul, Int.reduceNeg, Int.reduceLT, Int.reduceLE, Int.reduceEq, Int.add_zero, Int.zero_add, Int.sub_zero, c_128, w_128_0, w_128_1, w_128_2, w_128_3, q, qh]
end HC
