/-! Loops over all notes; the class: parts, costs with a finger, how far, uses, sure notes. -/
/-- sums over all notes: an outer loop over the events, an inner one over the notes -/
theorem loop_sum2 {O : Int → Int → Option Value → Option Rs} {N : Int → Int → Int → Option Rs} {f : Int → Int → Int} {sz : Int → Int} {n : Int} (hn : 0 ≤ n ∧ n ≤ 40) (hs : ∀ e, 0 ≤ e → e < n → 0 ≤ sz e ∧ sz e ≤ 3) (hf : ∀ e k, 0 ≤ e → e < n → 0 ≤ k → k < sz e → 0 ≤ f e k ∧ f e k ≤ 1)
    (h1 : ∀ e a o, 0 ≤ e → e < n → 0 ≤ a → a ≤ 200 → O e a o = N e 0 a)
    (h2 : ∀ e k a, 0 ≤ e → e < n → 0 ≤ k → k < sz e → 0 ≤ a → a ≤ 200 → N e k a = N e (k + 1) (a + f e k))
    (h3 : ∀ e a, 0 ≤ e → e < n → 0 ≤ a → a ≤ 200 → N e (sz e) a = O (e + 1) a (some (.int (iI (sz e))))) (o : Option Value) :
    ∃ o', O 0 0 o = O n (sumI (fun e => sumI (f e) (sz e)) n) o' := by
  have bi : ∀ e k, 0 ≤ e → e < n → 0 ≤ k → k ≤ sz e → 0 ≤ sumI (f e) k ∧ sumI (f e) k ≤ k := by
    intro e k e0 e1 k0 k1
    have := sumI_b (f := f e) (A := 0) (B := 1) (n := k) k0 (fun i i0 i1 => hf e i e0 e1 i0 (by omega))
    omega
  have bo : ∀ e, 0 ≤ e → e ≤ n → 0 ≤ sumI (fun e => sumI (f e) (sz e)) e ∧ sumI (fun e => sumI (f e) (sz e)) e ≤ 120 := by
    intro e e0 e1
    have := sumI_b (f := fun e => sumI (f e) (sz e)) (A := 0) (B := 3) (n := e) e0 (fun i i0 i1 => by
      have := bi i (sz i) i0 (by omega) (hs i i0 (by omega)).1 (Int.le_refl _)
      have := hs i i0 (by omega)
      exact ⟨by omega, by omega⟩)
    omega
  have key := loop_up (σ := Option Value) (head := fun e o => O e (sumI (fun e => sumI (f e) (sz e)) e) o) (Inv := fun e _ => 0 ≤ e) (n := n) (by
    intro e o e1 e0
    have hb := bo e e0 (by omega)
    have hz := hs e e0 e1
    refine ⟨some (.int (iI (sz e))), ?_, by omega⟩
    have inner := loop_up (σ := Unit) (head := fun k _ => N e k (sumI (fun e => sumI (f e) (sz e)) e + sumI (f e) k)) (Inv := fun k _ => 0 ≤ k) (n := sz e) (by
      intro k s k1 k0
      have := bi e k e0 e1 k0 (by omega)
      refine ⟨(), ?_, by omega⟩
      show N _ _ _ = N _ _ _
      rw [h2 e k _ e0 e1 k0 k1 (by omega) (by omega), sumI_s k0, Int.add_assoc]) 0 () hz.1 (Int.le_refl _)
    obtain ⟨-, ie, -⟩ := inner
    have ie : N e 0 (sumI (fun e => sumI (f e) (sz e)) e + 0) = N e (sz e) (sumI (fun e => sumI (f e) (sz e)) e + sumI (f e) (sz e)) := ie
    rw [Int.add_zero] at ie
    have := bi e (sz e) e0 e1 hz.1 (Int.le_refl _)
    show O _ _ _ = O _ _ _
    rw [h1 e _ o e0 e1 (by omega) (by omega), ie, h3 e _ e0 e1 (by omega) (by omega), sumI_s e0]) 0 o hn.1 (Int.le_refl _)
  obtain ⟨o', ke, -⟩ := key
  exact ⟨o', ke⟩
theorem gd_fr {l q : Nat} {I I' : Mm} (hf : frP l I I') (hq : q + 17 ≤ l ∨ l + 20 ≤ q) (hG : gd I q) : gd I' q := by
  refine ⟨frPB hf hq hG.1, ?_⟩
  rw [hf q (by omega), hf (q + 2) (by omega), hf (q + 6) (by omega)]
  exact hG.2
/-- a part of the cost of the first cheapest fingering -/
noncomputable def ptS (P : PT) (e w : Int) : Int := if w = 0 then ownS P 0 e (fsS P e) else if e = 0 then 0 else if w = 1 then stepS P (e - 1) (fsS P (e - 1)) (fsS P e) else crossS P (e - 1) (fgP P (e - 1) (fsS P (e - 1))) (fgP P e (fsS P e))
/-- how often a finger plays -/
noncomputable def usS (P : PT) (f : Int) : Int := sumI (fun e => sumI (fun k => if fgP P e (fsS P e) k = f then 1 else 0) (pSz P e)) (pE P)
/-- notes played by one finger alone -/
noncomputable def suS (P : PT) : Int := sumI (fun e => sumI (fun k => if bcI (chS P e k) = 1 then 1 else 0) (pSz P e)) (pE P)
noncomputable def rcS (P : PT) : Int := if fnd (fun e => ¬ rchS P e) (pE P) < 0 then pE P else fnd (fun e => ¬ rchS P e) (pE P)
section HQ3
variable {g : Gm} {I : Mm} {x : Nat}
theorem s_hfingerBad {e k : Int} (hx : isHn g x) (hB : gd I (x + 1)) (hr : (-2147483648 ≤ e ∧ e < 2147483648)) (hr2 : (-2147483648 ≤ k ∧ k < 2147483648)) (h : ¬ ((0 ≤ e ∧ e < I (x + 1) 1) ∧ 0 ≤ k ∧ k < I (x + 1 + 2) e)) : cl 103 [.ref x, .int (iI e), .int (iI k)] (mk g I) = some (.inr "java/lang/IndexOutOfBoundsException", mk (gexc g) I) := by
  have q := s_needNoteBad hx hB hr hr2 h
  obtain ⟨h5, hp⟩ := hx
  simp (maxSteps := 2000000) (disch := first | assumption | omega) only [aft_v, aft_n, aft_t, Nat.add_assoc, Nat.reduceAdd, if_true, if_false, not_true_eq_false, not_false_eq_true, Classical.not_not, Int.reduceAdd, Int.reduceSub, Int.reduceMul, Int.reduceNeg, Int.reduceLT, Int.reduceLE, Int.reduceEq, Int.add_zero, Int.zero_add, Int.sub_zero, c_103, w_103_0, q]
theorem s_hfingerNo {e k : Int} (hx : isHn g x) (hl : isPl g (x + 35)) (hB : gd I (x + 1)) (ho : plOk x I) (he : 0 ≤ e ∧ e < I (x + 1) 1) (hk : 0 ≤ k ∧ k < I (x + 1 + 2) e) (hz : lsS (pv I (x + 1)) 0 = -1) :
    ∃ I', cl 103 [.ref x, .int (iI e), .int (iI k)] (mk g I) = some (.inr "java/util/NoSuchElementException", mk (gexc g) I') ∧ frP (x + 35) I I' ∧ Sol (pv I (x + 1)) (x + 35) I' := by
  obtain ⟨I', e1, f, s⟩ := s_needFingering hx hl hB ho
  rw [if_pos hz] at e1
  refine ⟨I', ?_, f, s⟩
  have q := s_needNote hx hB he hk
  obtain ⟨h5, hp⟩ := hx
  simp (maxSteps := 2000000) (disch := first | assumption | omega) only [aft_v, aft_n, aft_t, Nat.add_assoc, Nat.reduceAdd, if_true, if_false, not_true_eq_false, not_false_eq_true, Classical.not_not, Int.reduceAdd, Int.reduceSub, Int.reduceMul, Int.reduceNeg, Int.reduceLT, Int.reduceLE, Int.reduceEq, Int.add_zero, Int.zero_add, Int.sub_zero, c_103, w_103_0, w_103_1, q, e1]
theorem s_hpart {e w : Int} (hx : isHn g x) (hl : isPl g (x + 35)) (hB : gd I (x + 1)) (ho : plOk x I) (he : 0 ≤ e ∧ e < I (x + 1) 1) (hw : 0 ≤ w ∧ w ≤ 2) (hz : ¬ lsS (pv I (x + 1)) 0 = -1) :
    ∃ I', cl 104 [.ref x, .int (iI e), .int (iI w)] (mk g I) = some (.inl (some (.int (iI (ptS (pv I (x + 1)) e w)))), mk g I') ∧ frP (x + 35) I I' ∧ Sol (pv I (x + 1)) (x + 35) I' := by
  obtain ⟨I', e1, f, s⟩ := s_needFingering hx hl hB ho
  rw [if_neg hz] at e1
  refine ⟨I', ?_, f, s⟩
  have b1 := hB.1.2.1
  have q := s_needEvent (g := g) (I := I) hx (by omega) b1 he
  have qw := s_isWithin (g := g) (I := I) (a := w) (b := 0) (c := 2) (by omega) (by omega) (by omega)
  rw [if_pos hw] at qw
  have hbd := gd_bd hB
  have pJ : pv I' (x + 1) = pv I (x + 1) := frP_pv f (by omega)
  have gJ := gd_fr f (q := x + 1) (by omega) hB
  obtain ⟨h5, hp⟩ := hx
  have h1 : g.1 (x + 35) = sX1 (x + 35) := hl.1
  unfold ptS
  rcases (show w = 0 ∨ w = 1 ∨ w = 2 by omega) with rfl | rfl | rfl
  · rw [if_pos rfl]
    have q2 := s_firstEventCost (g := g) (I := I') hl hbd s hz he
    simp (maxSteps := 2000000) (disch := first | assumption | omega) only [aft_v, aft_n, aft_t, Nat.add_assoc, Nat.reduceAdd, if_true, if_false, not_true_eq_false, not_false_eq_true, Classical.not_not, Int.reduceAdd, Int.reduceSub, Int.reduceMul, Int.reduceNeg, Int.reduceLT, Int.reduceLE, Int.reduceEq, Int.add_zero, Int.zero_add, Int.sub_zero, c_104, w_104_0, w_104_1, w_104_2, w_104_3, w_104_4, w_104_5, w_104_6, w_104_7, q, qw, e1, q2, show ¬ (1 : Int) = 0 by decide]
  · rw [if_neg (by decide)]
    by_cases h0 : e = 0
    · subst h0
      simp (maxSteps := 2000000) (disch := first | assumption | omega) only [aft_v, aft_n, aft_t, Nat.add_assoc, Nat.reduceAdd, if_true, if_false, not_true_eq_false, not_false_eq_true, Classical.not_not, Int.reduceAdd, Int.reduceSub, Int.reduceMul, Int.reduceNeg, Int.reduceLT, Int.reduceLE, Int.reduceEq, Int.add_zero, Int.zero_add, Int.sub_zero, c_104, w_104_0, w_104_1, w_104_2, w_104_3, w_104_4, w_104_5, w_104_8, w_104_9, q, qw, e1, show ¬ (1 : Int) = 0 by decide]
    · rw [if_neg h0, if_pos rfl]
      have q2 := s_firstPassageCost (g := g) (I := I') (e := e - 1) hl hbd s hz ⟨by omega, by show e - 1 + 1 < I (x + 1) 1; omega⟩
      rw [show e - 1 + 1 = e by omega] at q2
      simp (maxSteps := 2000000) (disch := first | assumption | omega) only [aft_v, aft_n, aft_t, Nat.add_assoc, Nat.reduceAdd, if_true, if_false, not_true_eq_false, not_false_eq_true, Classical.not_not, Int.reduceAdd, Int.reduceSub, Int.reduceMul, Int.reduceNeg, Int.reduceLT, Int.reduceLE, Int.reduceEq, Int.add_zero, Int.zero_add, Int.sub_zero, c_104, w_104_0, w_104_1, w_104_2, w_104_3, w_104_4, w_104_5, w_104_8, w_104_9, w_104_10, w_104_11, w_104_12, w_104_13, w_104_14, q, qw, e1, q2, h0, show ¬ (1 : Int) = 0 by decide]
  · rw [if_neg (by decide)]
    by_cases h0 : e = 0
    · subst h0
      simp (maxSteps := 2000000) (disch := first | assumption | omega) only [aft_v, aft_n, aft_t, Nat.add_assoc, Nat.reduceAdd, if_true, if_false, not_true_eq_false, not_false_eq_true, Classical.not_not, Int.reduceAdd, Int.reduceSub, Int.reduceMul, Int.reduceNeg, Int.reduceLT, Int.reduceLE, Int.reduceEq, Int.add_zero, Int.zero_add, Int.sub_zero, c_104, w_104_0, w_104_1, w_104_2, w_104_3, w_104_4, w_104_5, w_104_8, w_104_9, q, qw, e1, show ¬ (1 : Int) = 0 by decide, show ¬ (2 : Int) = 0 by decide]
    · rw [if_neg h0, if_neg (by decide)]
      have q2 := s_firstCrossings (g := g) (I := I') (q := x + 1) (e := e - 1) hp hl gJ pJ.symm s hz ⟨by omega, by show e - 1 + 1 < I (x + 1) 1; omega⟩
      rw [show e - 1 + 1 = e by omega] at q2
      simp (maxSteps := 2000000) (disch := first | assumption | omega) only [aft_v, aft_n, aft_t, Nat.add_assoc, Nat.reduceAdd, if_true, if_false, not_true_eq_false, not_false_eq_true, Classical.not_not, Int.reduceAdd, Int.reduceSub, Int.reduceMul, Int.reduceNeg, Int.reduceLT, Int.reduceLE, Int.reduceEq, Int.add_zero, Int.zero_add, Int.sub_zero, c_104, w_104_0, w_104_1, w_104_2, w_104_3, w_104_4, w_104_5, w_104_8, w_104_9, w_104_10, w_104_11, w_104_12, w_104_13, w_104_14, q, qw, e1, q2, h0, show ¬ (1 : Int) = 0 by decide, show ¬ (2 : Int) = 0 by decide, show ¬ (2 : Int) = 1 by decide]
theorem s_hpartBad {e w : Int} (hx : isHn g x) (hB : gd I (x + 1)) (hr : (-2147483648 ≤ e ∧ e < 2147483648)) (hc : ¬ (0 ≤ e ∧ e < I (x + 1) 1)) : cl 104 [.ref x, .int (iI e), .int (iI w)] (mk g I) = some (.inr "java/lang/IndexOutOfBoundsException", mk (gexc g) I) := by
  have q := s_needEventBad (g := g) (I := I) hx hr hB.1.2.1 hc
  obtain ⟨h5, hp⟩ := hx
  simp (maxSteps := 2000000) (disch := first | assumption | omega) only [aft_v, aft_n, aft_t, Nat.add_assoc, Nat.reduceAdd, if_true, if_false, not_true_eq_false, not_false_eq_true, Classical.not_not, Int.reduceAdd, Int.reduceSub, Int.reduceMul, Int.reduceNeg, Int.reduceLT, Int.reduceLE, Int.reduceEq, Int.add_zero, Int.zero_add, Int.sub_zero, c_104, w_104_0, q]
theorem s_hpartBadW {e w : Int} (hx : isHn g x) (hB : gd I (x + 1)) (he : 0 ≤ e ∧ e < I (x + 1) 1) (hrw : (-2147483648 ≤ w ∧ w < 2147483648)) (hw : ¬ (0 ≤ w ∧ w ≤ 2)) : cl 104 [.ref x, .int (iI e), .int (iI w)] (mk g I) = some (.inr "java/lang/IllegalArgumentException", mk (gexc g) I) := by
  have b1 := hB.1.2.1
  have q := s_needEvent (g := g) (I := I) hx (by omega) b1 he
  have qw := s_isWithin (g := g) (I := I) (a := w) (b := 0) (c := 2) (by omega) (by omega) (by omega)
  rw [if_neg hw] at qw
  obtain ⟨h5, hp⟩ := hx
  simp (maxSteps := 2000000) (disch := first | assumption | omega) only [aft_v, aft_n, aft_t, Nat.add_assoc, Nat.reduceAdd, if_true, if_false, not_true_eq_false, not_false_eq_true, Classical.not_not, Int.reduceAdd, Int.reduceSub, Int.reduceMul, Int.reduceNeg, Int.reduceLT, Int.reduceLE, Int.reduceEq, Int.add_zero, Int.zero_add, Int.sub_zero, c_104, w_104_0, w_104_1, w_104_2, w_104_3, q, qw]
theorem s_hpartNo {e w : Int} (hx : isHn g x) (hl : isPl g (x + 35)) (hB : gd I (x + 1)) (ho : plOk x I) (he : 0 ≤ e ∧ e < I (x + 1) 1) (hw : 0 ≤ w ∧ w ≤ 2) (hz : lsS (pv I (x + 1)) 0 = -1) :
    ∃ I', cl 104 [.ref x, .int (iI e), .int (iI w)] (mk g I) = some (.inr "java/util/NoSuchElementException", mk (gexc g) I') ∧ frP (x + 35) I I' ∧ Sol (pv I (x + 1)) (x + 35) I' := by
  obtain ⟨I', e1, f, s⟩ := s_needFingering hx hl hB ho
  rw [if_pos hz] at e1
  refine ⟨I', ?_, f, s⟩
  have b1 := hB.1.2.1
  have q := s_needEvent (g := g) (I := I) hx (by omega) b1 he
  have qw := s_isWithin (g := g) (I := I) (a := w) (b := 0) (c := 2) (by omega) (by omega) (by omega)
  rw [if_pos hw] at qw
  obtain ⟨h5, hp⟩ := hx
  simp (maxSteps := 2000000) (disch := first | assumption | omega) only [aft_v, aft_n, aft_t, Nat.add_assoc, Nat.reduceAdd, if_true, if_false, not_true_eq_false, not_false_eq_true, Classical.not_not, Int.reduceAdd, Int.reduceSub, Int.reduceMul, Int.reduceNeg, Int.reduceLT, Int.reduceLE, Int.reduceEq, Int.add_zero, Int.zero_add, Int.sub_zero, c_104, w_104_0, w_104_1, w_104_2, w_104_3, w_104_4, q, qw, e1, show ¬ (1 : Int) = 0 by decide]
theorem s_hcostWith {e k f : Int} (hx : isHn g x) (hl : isPl g (x + 35)) (hB : gd I (x + 1)) (ho : plOk x I) (he : 0 ≤ e ∧ e < I (x + 1) 1) (hk : 0 ≤ k ∧ k < I (x + 1 + 2) e) (hf : 1 ≤ f ∧ f ≤ 5) :
    ∃ I', cl 106 [.ref x, .int (iI e), .int (iI k), .int (iI f)] (mk g I) = some (.inl (some (.int (iI (lwS (pv I (x + 1)) e k f)))), mk g I') ∧ frP (x + 35) I I' ∧ Sol (pv I (x + 1)) (x + 35) I' := by
  obtain ⟨I', e1, fr, s⟩ := s_hsolve hx hl hB ho
  refine ⟨I', ?_, fr, s⟩
  have q := s_needNote hx hB he hk
  have q1 := s_needFinger (g := g) (I := I) (x := x) (w := f) (by omega) hf
  have q2 := s_leastWith (g := g) (I := I') (k := k) (f := f) hl (gd_bd hB) s he hk (by omega)
  obtain ⟨h5, hp⟩ := hx
  have h1 : g.1 (x + 35) = sX1 (x + 35) := hl.1
  simp (maxSteps := 2000000) (disch := first | assumption | omega) only [aft_v, aft_n, aft_t, Nat.add_assoc, Nat.reduceAdd, if_true, if_false, not_true_eq_false, not_false_eq_true, Classical.not_not, Int.reduceAdd, Int.reduceSub, Int.reduceMul, Int.reduceNeg, Int.reduceLT, Int.reduceLE, Int.reduceEq, Int.add_zero, Int.zero_add, Int.sub_zero, c_106, w_106_0, w_106_1, w_106_2, w_106_3, w_106_4, q, q1, e1, q2]
theorem s_hcostWithBad {e k f : Int} (hx : isHn g x) (hB : gd I (x + 1)) (hr : (-2147483648 ≤ e ∧ e < 2147483648)) (hr2 : (-2147483648 ≤ k ∧ k < 2147483648)) (hr3 : (-2147483648 ≤ f ∧ f < 2147483648)) (h : ¬ (((0 ≤ e ∧ e < I (x + 1) 1) ∧ 0 ≤ k ∧ k < I (x + 1 + 2) e) ∧ 1 ≤ f ∧ f ≤ 5)) : cl 106 [.ref x, .int (iI e), .int (iI k), .int (iI f)] (mk g I) = some (.inr "java/lang/IndexOutOfBoundsException", mk (gexc g) I) := by
  by_cases h1 : (0 ≤ e ∧ e < I (x + 1) 1) ∧ 0 ≤ k ∧ k < I (x + 1 + 2) e
  · have q := s_needNote hx hB h1.1 h1.2
    have q1 := s_needFingerBad (g := g) (I := I) (x := x) (w := f) hr3 (fun z => h ⟨h1, z⟩)
    obtain ⟨h5, hp⟩ := hx
    simp (maxSteps := 2000000) (disch := first | assumption | omega) only [aft_v, aft_n, aft_t, Nat.add_assoc, Nat.reduceAdd, if_true, if_false, not_true_eq_false, not_false_eq_true, Classical.not_not, Int.reduceAdd, Int.reduceSub, Int.reduceMul, Int.reduceNeg, Int.reduceLT, Int.reduceLE, Int.reduceEq, Int.add_zero, Int.zero_add, Int.sub_zero, c_106, w_106_0, w_106_1, q, q1]
  · have q := s_needNoteBad hx hB hr hr2 h1
    obtain ⟨h5, hp⟩ := hx
    simp (maxSteps := 2000000) (disch := first | assumption | omega) only [aft_v, aft_n, aft_t, Nat.add_assoc, Nat.reduceAdd, if_true, if_false, not_true_eq_false, not_false_eq_true, Classical.not_not, Int.reduceAdd, Int.reduceSub, Int.reduceMul, Int.reduceNeg, Int.reduceLT, Int.reduceLE, Int.reduceEq, Int.add_zero, Int.zero_add, Int.sub_zero, c_106, w_106_0, q]
theorem s_hreaches (hx : isHn g x) (hl : isPl g (x + 35)) (hB : gd I (x + 1)) (ho : plOk x I) :
    ∃ I', cl 107 [.ref x] (mk g I) = some (.inl (some (.int (iI (rcS (pv I (x + 1)))))), mk g I') ∧ frP (x + 35) I I' ∧ Sol (pv I (x + 1)) (x + 35) I' := by
  obtain ⟨I', e1, fr, s⟩ := s_hsolve hx hl hB ho
  refine ⟨I', ?_, fr, s⟩
  have q2 := s_eventsReached (g := g) (I := I') hl (gd_bd hB) s
  obtain ⟨h5, hp⟩ := hx
  have h1 : g.1 (x + 35) = sX1 (x + 35) := hl.1
  unfold rcS
  simp (maxSteps := 2000000) (disch := first | assumption | omega) only [aft_v, aft_n, aft_t, Nat.add_assoc, Nat.reduceAdd, if_true, if_false, not_true_eq_false, not_false_eq_true, Classical.not_not, Int.reduceAdd, Int.reduceSub, Int.reduceMul, Int.reduceNeg, Int.reduceLT, Int.reduceLE, Int.reduceEq, Int.add_zero, Int.zero_add, Int.sub_zero, c_107, w_107_0, w_107_1, w_107_2, e1, q2]
theorem s_huses {f : Int} (hx : isHn g x) (hl : isPl g (x + 35)) (hB : gd I (x + 1)) (ho : plOk x I) (hf : 1 ≤ f ∧ f ≤ 5) (hz : ¬ lsS (pv I (x + 1)) 0 = -1) :
    ∃ I', cl 108 [.ref x, .int (iI f)] (mk g I) = some (.inl (some (.int (iI (usS (pv I (x + 1)) f)))), mk g I') ∧ frP (x + 35) I I' ∧ Sol (pv I (x + 1)) (x + 35) I' := by
  obtain ⟨I', e1, fr, s⟩ := s_needFingering hx hl hB ho
  rw [if_neg hz] at e1
  refine ⟨I', ?_, fr, s⟩
  have q := s_needFinger (g := g) (I := I) (x := x) (w := f) (by omega) hf
  have hbd := gd_bd hB
  have gJ := gd_fr fr (q := x + 1) (by omega) hB
  obtain ⟨h5, hp⟩ := hx
  obtain ⟨p_0, ⟨p_1, q_1, p_2⟩, ⟨p_3, q_3, p_4⟩, ⟨p_5, q_5, p_6⟩, ⟨p_7, q_7, p_8⟩, ⟨p_9, q_9, p_10⟩, ⟨p_11, q_11, p_12⟩, ⟨p_13, q_13, p_14⟩, ⟨p_15, q_15, p_16⟩⟩ := hp
  have h1 : g.1 (x + 35) = sX1 (x + 35) := hl.1
  have b1 := hB.1.2.1
  have i1 : I' (x + 1) = I (x + 1) := fr _ (by omega)
  have i3 : I' (x + 3) = I (x + 3) := fr _ (by omega)
  obtain ⟨P, hP⟩ : ∃ P, P = pv I (x + 1) := ⟨_, rfl⟩
  rw [← hP] at s hbd hz ⊢
  have eP : pE P = I (x + 1) 1 := by rw [hP]; rfl
  have eZ : ∀ e, pSz P e = I (x + 3) e := fun e => by rw [hP]; rfl
  have i11 : I' (x + 1) 1 = pE P := by rw [i1, ← eP]
  have key := loop_sum2 (O := fun e a o => rn 108 3 [some (.ref x), some (.int (iI f)), some (.int (iI a)), some (.int (iI e)), o] [] (mk g I')) (N := fun e k a => rn 108 5 [some (.ref x), some (.int (iI f)), some (.int (iI a)), some (.int (iI e)), some (.int (iI k))] [] (mk g I')) (f := fun e k => if fgP P e (fsS P e) k = f then 1 else 0) (sz := pSz P) (n := pE P) hbd.2.1 (fun e e0 e1 => by have := (hbd.2.2.1 e e0 e1).1; omega) (fun e k _ _ _ _ => by split <;> omega)
    (fun e a o e0 e1 a0 a1 => by
      show rn _ _ _ _ _ = rn _ _ _ _ _
      refine (w_108_3 (by first | assumption | omega) (by first | assumption | omega) (by first | assumption | omega) (by first | assumption | omega) (by first | assumption | omega) (by first | assumption | omega)).trans ?_
      rw [i11]
      refine (if_neg (by omega)).trans ?_
      simp (maxSteps := 2000000) (disch := first | assumption | omega) only [aft_v, aft_n, aft_t, Nat.add_assoc, Nat.reduceAdd, if_true, if_false, not_true_eq_false, not_false_eq_true, Classical.not_not, Int.reduceAdd, Int.reduceSub, Int.reduceMul, Int.reduceNeg, Int.reduceLT, Int.reduceLE, Int.reduceEq, Int.add_zero, Int.zero_add, Int.sub_zero, w_108_4])
    (fun e k a e0 e1 k0 k1 a0 a1 => by
      have n0 := hbd.2.2.1 e e0 e1
      have c0 := fsS_b hbd hz e0 e1
      have q0 : cl 62 [.ref (x + 2), .int (iI e)] (mk g I') = some (.inl (some (.int (iI (pSz P e)))), mk g I') := by
        rw [eZ e, ← i3]; exact s_row_get (p := x + 1 + 1) p_1 e0 (by omega)
      have q1 := s_firstFinger (g := g) (I := I') (l := x + 35) (e := e) (k := k) hl hbd s hz ⟨e0, e1⟩ ⟨k0, k1⟩
      have bF := fgP_b (P := P) (e := e) (c := fsS P e) (k := k) n0.1
      show rn _ _ _ _ _ = rn _ _ _ _ _
      refine (w_108_5 (by first | assumption | omega) (by first | assumption | omega) (by first | assumption | omega)).trans ?_
      by_cases hff : fgP P e (fsS P e) k = f
      · rw [if_pos hff]
        rw [hff] at q1
        simp (maxSteps := 2000000) (disch := first | assumption | omega) only [aft_v, aft_n, aft_t, Nat.add_assoc, Nat.reduceAdd, if_true, if_false, not_true_eq_false, not_false_eq_true, Classical.not_not, Int.reduceAdd, Int.reduceSub, Int.reduceMul, Int.reduceNeg, Int.reduceLT, Int.reduceLE, Int.reduceEq, Int.add_zero, Int.zero_add, Int.sub_zero, w_108_6, w_108_7, w_108_8, w_108_9, w_108_11, q0, q1, if_neg (show ¬ pSz P e ≤ k by omega)]
      · rw [if_neg hff]
        simp (maxSteps := 2000000) (disch := first | assumption | omega) only [aft_v, aft_n, aft_t, Nat.add_assoc, Nat.reduceAdd, if_true, if_false, not_true_eq_false, not_false_eq_true, Classical.not_not, Int.reduceAdd, Int.reduceSub, Int.reduceMul, Int.reduceNeg, Int.reduceLT, Int.reduceLE, Int.reduceEq, Int.add_zero, Int.zero_add, Int.sub_zero, w_108_6, w_108_7, w_108_8, w_108_10, w_108_11, q0, q1, hff, if_neg (show ¬ pSz P e ≤ k by omega)])
    (fun e a e0 e1 a0 a1 => by
      have n0 := hbd.2.2.1 e e0 e1
      have q0 : cl 62 [.ref (x + 2), .int (iI e)] (mk g I') = some (.inl (some (.int (iI (pSz P e)))), mk g I') := by
        rw [eZ e, ← i3]; exact s_row_get (p := x + 1 + 1) p_1 e0 (by omega)
      show rn _ _ _ _ _ = rn _ _ _ _ _
      refine (w_108_5 (by first | assumption | omega) (by first | assumption | omega) (by first | assumption | omega)).trans ?_
      simp (maxSteps := 2000000) (disch := first | assumption | omega) only [aft_v, aft_n, aft_t, Nat.add_assoc, Nat.reduceAdd, if_true, if_false, not_true_eq_false, not_false_eq_true, Classical.not_not, Int.reduceAdd, Int.reduceSub, Int.reduceMul, Int.reduceNeg, Int.reduceLT, Int.reduceLE, Int.reduceEq, Int.add_zero, Int.zero_add, Int.sub_zero, w_108_6, w_108_12, q0, if_pos (Int.le_refl (pSz P e))]) none
  obtain ⟨o', key⟩ := key
  have key : rn 108 3 [some (.ref x), some (.int (iI f)), some (.int (iI 0)), some (.int (iI 0)), none] [] (mk g I') = rn 108 3 [some (.ref x), some (.int (iI f)), some (.int (iI (usS P f))), some (.int (iI (pE P))), o'] [] (mk g I') := key
  simp (maxSteps := 2000000) (disch := first | assumption | omega) only [aft_v, aft_n, aft_t, Nat.add_assoc, Nat.reduceAdd, if_true, if_false, not_true_eq_false, not_false_eq_true, Classical.not_not, Int.reduceAdd, Int.reduceSub, Int.reduceMul, Int.reduceNeg, Int.reduceLT, Int.reduceLE, Int.reduceEq, Int.add_zero, Int.zero_add, Int.sub_zero, c_108, w_108_0, w_108_1, w_108_2, q, e1]
  rw [key]
  refine (w_108_3 (by first | assumption | omega) (by first | assumption | omega) (by first | assumption | omega) (by first | assumption | omega) (by first | assumption | omega) (by first | assumption | omega)).trans ?_
  rw [i11]
  refine (if_pos (by omega)).trans ?_
  simp (maxSteps := 2000000) (disch := first | assumption | omega) only [aft_v, aft_n, aft_t, Nat.add_assoc, Nat.reduceAdd, if_true, if_false, not_true_eq_false, not_false_eq_true, Classical.not_not, Int.reduceAdd, Int.reduceSub, Int.reduceMul, Int.reduceNeg, Int.reduceLT, Int.reduceLE, Int.reduceEq, Int.add_zero, Int.zero_add, Int.sub_zero, w_108_13]
theorem s_husesBad {f : Int} (hx : isHn g x) (hr : (-2147483648 ≤ f ∧ f < 2147483648)) (hf : ¬ (1 ≤ f ∧ f ≤ 5)) : cl 108 [.ref x, .int (iI f)] (mk g I) = some (.inr "java/lang/IndexOutOfBoundsException", mk (gexc g) I) := by
  have q := s_needFingerBad (g := g) (I := I) (x := x) (w := f) hr hf
  obtain ⟨h5, hp⟩ := hx
  simp (maxSteps := 2000000) (disch := first | assumption | omega) only [aft_v, aft_n, aft_t, Nat.add_assoc, Nat.reduceAdd, if_true, if_false, not_true_eq_false, not_false_eq_true, Classical.not_not, Int.reduceAdd, Int.reduceSub, Int.reduceMul, Int.reduceNeg, Int.reduceLT, Int.reduceLE, Int.reduceEq, Int.add_zero, Int.zero_add, Int.sub_zero, c_108, w_108_0, q]
theorem s_husesNo {f : Int} (hx : isHn g x) (hl : isPl g (x + 35)) (hB : gd I (x + 1)) (ho : plOk x I) (hf : 1 ≤ f ∧ f ≤ 5) (hz : lsS (pv I (x + 1)) 0 = -1) :
    ∃ I', cl 108 [.ref x, .int (iI f)] (mk g I) = some (.inr "java/util/NoSuchElementException", mk (gexc g) I') ∧ frP (x + 35) I I' ∧ Sol (pv I (x + 1)) (x + 35) I' := by
  obtain ⟨I', e1, fr, s⟩ := s_needFingering hx hl hB ho
  rw [if_pos hz] at e1
  refine ⟨I', ?_, fr, s⟩
  have q := s_needFinger (g := g) (I := I) (x := x) (w := f) (by omega) hf
  obtain ⟨h5, hp⟩ := hx
  simp (maxSteps := 2000000) (disch := first | assumption | omega) only [aft_v, aft_n, aft_t, Nat.add_assoc, Nat.reduceAdd, if_true, if_false, not_true_eq_false, not_false_eq_true, Classical.not_not, Int.reduceAdd, Int.reduceSub, Int.reduceMul, Int.reduceNeg, Int.reduceLT, Int.reduceLE, Int.reduceEq, Int.add_zero, Int.zero_add, Int.sub_zero, c_108, w_108_0, w_108_1, q, e1]
theorem chS_b {P : PT} (hbd : bdP P) {e k : Int} (he : 0 ≤ e) (he1 : e < pE P) : 0 ≤ chS P e k ∧ chS P e k ≤ 31 := by
  have n0 := hbd.2.2.1 e he he1
  unfold chS
  refine itI_ind (fun _ a => 0 ≤ a ∧ a ≤ 31) (by decide) ?_ n0.2.1
  intro i a i0 i1 ha
  try dsimp only
  split
  · have bF := fgP_b (P := P) (e := e) (c := i) (k := k) n0.1
    have := bit_b bF
    exact or_b ha (by omega)
  · exact ha
theorem s_hsure (hx : isHn g x) (hl : isPl g (x + 35)) (hB : gd I (x + 1)) (ho : plOk x I) (hz : ¬ lsS (pv I (x + 1)) 0 = -1) :
    ∃ I', cl 109 [.ref x] (mk g I) = some (.inl (some (.int (iI (suS (pv I (x + 1)))))), mk g I') ∧ frP (x + 35) I I' ∧ Sol (pv I (x + 1)) (x + 35) I' := by
  obtain ⟨I', e1, fr, s⟩ := s_needFingering hx hl hB ho
  rw [if_neg hz] at e1
  refine ⟨I', ?_, fr, s⟩
  have hbd := gd_bd hB
  have gJ := gd_fr fr (q := x + 1) (by omega) hB
  obtain ⟨h5, hp⟩ := hx
  obtain ⟨p_0, ⟨p_1, q_1, p_2⟩, ⟨p_3, q_3, p_4⟩, ⟨p_5, q_5, p_6⟩, ⟨p_7, q_7, p_8⟩, ⟨p_9, q_9, p_10⟩, ⟨p_11, q_11, p_12⟩, ⟨p_13, q_13, p_14⟩, ⟨p_15, q_15, p_16⟩⟩ := hp
  have h1 : g.1 (x + 35) = sX1 (x + 35) := hl.1
  have b1 := hB.1.2.1
  have i1 : I' (x + 1) = I (x + 1) := fr _ (by omega)
  have i3 : I' (x + 3) = I (x + 3) := fr _ (by omega)
  obtain ⟨P, hP⟩ : ∃ P, P = pv I (x + 1) := ⟨_, rfl⟩
  rw [← hP] at s hbd hz ⊢
  have eP : pE P = I (x + 1) 1 := by rw [hP]; rfl
  have eZ : ∀ e, pSz P e = I (x + 3) e := fun e => by rw [hP]; rfl
  have i11 : I' (x + 1) 1 = pE P := by rw [i1, ← eP]
  have key := loop_sum2 (O := fun e a o => rn 109 2 [some (.ref x), some (.int (iI a)), some (.int (iI e)), o] [] (mk g I')) (N := fun e k a => rn 109 4 [some (.ref x), some (.int (iI a)), some (.int (iI e)), some (.int (iI k))] [] (mk g I')) (f := fun e k => if bcI (chS P e k) = 1 then 1 else 0) (sz := pSz P) (n := pE P) hbd.2.1 (fun e e0 e1 => by have := (hbd.2.2.1 e e0 e1).1; omega) (fun e k _ _ _ _ => by split <;> omega)
    (fun e a o e0 e1 a0 a1 => by
      show rn _ _ _ _ _ = rn _ _ _ _ _
      refine (w_109_2 (by first | assumption | omega) (by first | assumption | omega) (by first | assumption | omega) (by first | assumption | omega) (by first | assumption | omega) (by first | assumption | omega)).trans ?_
      rw [i11]
      refine (if_neg (by omega)).trans ?_
      simp (maxSteps := 2000000) (disch := first | assumption | omega) only [aft_v, aft_n, aft_t, Nat.add_assoc, Nat.reduceAdd, if_true, if_false, not_true_eq_false, not_false_eq_true, Classical.not_not, Int.reduceAdd, Int.reduceSub, Int.reduceMul, Int.reduceNeg, Int.reduceLT, Int.reduceLE, Int.reduceEq, Int.add_zero, Int.zero_add, Int.sub_zero, w_109_3])
    (fun e k a e0 e1 k0 k1 a0 a1 => by
      have n0 := hbd.2.2.1 e e0 e1
      have q0 : cl 62 [.ref (x + 2), .int (iI e)] (mk g I') = some (.inl (some (.int (iI (pSz P e)))), mk g I') := by
        rw [eZ e, ← i3]; exact s_row_get (p := x + 1 + 1) p_1 e0 (by omega)
      have q1 := s_cheapestFingers (g := g) (I := I') (l := x + 35) (e := e) (k := k) hl hbd s ⟨e0, e1⟩ ⟨k0, k1⟩
      have q2 := s_bitCount (g := g) (I := I') (x := chS P e k)
      have hcb := (bc_1 (chS_b hbd (k := k) e0 e1)).2.2
      show rn _ _ _ _ _ = rn _ _ _ _ _
      refine (w_109_4 (by first | assumption | omega) (by first | assumption | omega) (by first | assumption | omega)).trans ?_
      by_cases hff : bcI (chS P e k) = 1
      · rw [if_pos hff]
        rw [hff] at q2
        simp (maxSteps := 2000000) (disch := first | assumption | omega) only [aft_v, aft_n, aft_t, Nat.add_assoc, Nat.reduceAdd, if_true, if_false, not_true_eq_false, not_false_eq_true, Classical.not_not, Int.reduceAdd, Int.reduceSub, Int.reduceMul, Int.reduceNeg, Int.reduceLT, Int.reduceLE, Int.reduceEq, Int.add_zero, Int.zero_add, Int.sub_zero, w_109_5, w_109_6, w_109_7, w_109_8, w_109_9, w_109_11, q0, q1, q2, if_neg (show ¬ pSz P e ≤ k by omega)]
      · rw [if_neg hff]
        simp (maxSteps := 2000000) (disch := first | assumption | omega) only [aft_v, aft_n, aft_t, Nat.add_assoc, Nat.reduceAdd, if_true, if_false, not_true_eq_false, not_false_eq_true, Classical.not_not, Int.reduceAdd, Int.reduceSub, Int.reduceMul, Int.reduceNeg, Int.reduceLT, Int.reduceLE, Int.reduceEq, Int.add_zero, Int.zero_add, Int.sub_zero, w_109_5, w_109_6, w_109_7, w_109_8, w_109_10, w_109_11, q0, q1, q2, hff, if_neg (show ¬ pSz P e ≤ k by omega)])
    (fun e a e0 e1 a0 a1 => by
      have n0 := hbd.2.2.1 e e0 e1
      have q0 : cl 62 [.ref (x + 2), .int (iI e)] (mk g I') = some (.inl (some (.int (iI (pSz P e)))), mk g I') := by
        rw [eZ e, ← i3]; exact s_row_get (p := x + 1 + 1) p_1 e0 (by omega)
      show rn _ _ _ _ _ = rn _ _ _ _ _
      refine (w_109_4 (by first | assumption | omega) (by first | assumption | omega) (by first | assumption | omega)).trans ?_
      simp (maxSteps := 2000000) (disch := first | assumption | omega) only [aft_v, aft_n, aft_t, Nat.add_assoc, Nat.reduceAdd, if_true, if_false, not_true_eq_false, not_false_eq_true, Classical.not_not, Int.reduceAdd, Int.reduceSub, Int.reduceMul, Int.reduceNeg, Int.reduceLT, Int.reduceLE, Int.reduceEq, Int.add_zero, Int.zero_add, Int.sub_zero, w_109_5, w_109_12, q0, if_pos (Int.le_refl (pSz P e))]) none
  obtain ⟨o', key⟩ := key
  have key : rn 109 2 [some (.ref x), some (.int (iI 0)), some (.int (iI 0)), none] [] (mk g I') = rn 109 2 [some (.ref x), some (.int (iI (suS P))), some (.int (iI (pE P))), o'] [] (mk g I') := key
  simp (maxSteps := 2000000) (disch := first | assumption | omega) only [aft_v, aft_n, aft_t, Nat.add_assoc, Nat.reduceAdd, if_true, if_false, not_true_eq_false, not_false_eq_true, Classical.not_not, Int.reduceAdd, Int.reduceSub, Int.reduceMul, Int.reduceNeg, Int.reduceLT, Int.reduceLE, Int.reduceEq, Int.add_zero, Int.zero_add, Int.sub_zero, c_109, w_109_0, w_109_1, e1]
  rw [key]
  refine (w_109_2 (by first | assumption | omega) (by first | assumption | omega) (by first | assumption | omega) (by first | assumption | omega) (by first | assumption | omega) (by first | assumption | omega)).trans ?_
  rw [i11]
  refine (if_pos (by omega)).trans ?_
  simp (maxSteps := 2000000) (disch := first | assumption | omega) only [aft_v, aft_n, aft_t, Nat.add_assoc, Nat.reduceAdd, if_true, if_false, not_true_eq_false, not_false_eq_true, Classical.not_not, Int.reduceAdd, Int.reduceSub, Int.reduceMul, Int.reduceNeg, Int.reduceLT, Int.reduceLE, Int.reduceEq, Int.add_zero, Int.zero_add, Int.sub_zero, w_109_13]
theorem s_hsureNo (hx : isHn g x) (hl : isPl g (x + 35)) (hB : gd I (x + 1)) (ho : plOk x I) (hz : lsS (pv I (x + 1)) 0 = -1) :
    ∃ I', cl 109 [.ref x] (mk g I) = some (.inr "java/util/NoSuchElementException", mk (gexc g) I') ∧ frP (x + 35) I I' ∧ Sol (pv I (x + 1)) (x + 35) I' := by
  obtain ⟨I', e1, fr, s⟩ := s_needFingering hx hl hB ho
  rw [if_pos hz] at e1
  refine ⟨I', ?_, fr, s⟩
  obtain ⟨h5, hp⟩ := hx
  simp (maxSteps := 2000000) (disch := first | assumption | omega) only [aft_v, aft_n, aft_t, Nat.add_assoc, Nat.reduceAdd, if_true, if_false, not_true_eq_false, not_false_eq_true, Classical.not_not, Int.reduceAdd, Int.reduceSub, Int.reduceMul, Int.reduceNeg, Int.reduceLT, Int.reduceLE, Int.reduceEq, Int.add_zero, Int.zero_add, Int.sub_zero, c_109, w_109_0, e1]
end HQ3
