/-! The class: changes of its piece. -/
/-- what a change needs -/
def chOk (g : Gm) (I : Mm) (x : Nat) : Prop := isH g x ∧ gd I (x + 1) ∧ Wf (pv I (x + 1)) ∧ (0 ≤ I x 9 ∧ I x 9 < 8) ∧ (0 ≤ I x 10 ∧ I x 10 ≤ 8) ∧ 2 ≤ x ∧ rmOk g I x (x + 82) (rmT I x)
def ltS (s f may : Int) : Int := if may = 0 then andI s (xorI (bitF f) (-1)) else orI s (bitF f)
/-- a note put into an event -/
def pnI (I : Mm) (q : Nat) (e k v : Int) : Mm := upd2 (upd2 (upd2 I (q + 6) (e * 3 + k) v) (q + 8) (e * 3 + k) 31) (q + 2) e (k + 1)
/-- an event put into its place -/
def plI (I : Mm) (q : Nat) (e a b c r : Int) : Mm :=
  upd2 (if c = 0 then (if b = 0 then pnI (upd2 (upd2 (upd2 (opE I q e (I q 1)) (q + 2) e 0) (q + 4) e 0) q 1 (I q 1 + 1)) q e 0 a else pnI (pnI (upd2 (upd2 (upd2 (opE I q e (I q 1)) (q + 2) e 0) (q + 4) e 0) q 1 (I q 1 + 1)) q e 0 a) q e 1 b)
    else pnI (if b = 0 then pnI (upd2 (upd2 (upd2 (opE I q e (I q 1)) (q + 2) e 0) (q + 4) e 0) q 1 (I q 1 + 1)) q e 0 a else pnI (pnI (upd2 (upd2 (upd2 (opE I q e (I q 1)) (q + 2) e 0) (q + 4) e 0) q 1 (I q 1 + 1)) q e 0 a) q e 1 b) q e 2 c) (q + 4) e r
section HS
variable {g : Gm} {I : Mm} {x : Nat}
/-- remembered: the piece is as it was -/
theorem rm_piece {g' : Gm} {I' : Mm} {A : Nat} (hf : rmF x g g' I I' A) : ∀ p, x + 1 ≤ p → p ≤ x + 17 → I' p = I p := fun p a b => hf.2.2.1 p (by omega) (by omega) (by have := hf.2.1; omega)
theorem rm_go (h : chOk g I x) : ∃ g' I1 A, cl 138 [.ref x] (mk g I) = some (.inl none, mk g' I1) ∧ rmF x g g' I I1 A ∧ isH g' x ∧ gd I1 (x + 1) ∧ pv I1 (x + 1) = pv I (x + 1) := by
  obtain ⟨hH, hB, hW, h9, h10, hx2, hk⟩ := h
  obtain ⟨g', I1, A, e, f⟩ := s_remember hH hB.1 h9 h10 hx2 hk
  exact ⟨g', I1, A, e, f, isH_e f.e hH, gd_c (fun p a b => rm_piece f p a (by omega)) hB, pv_c (fun p a b => rm_piece f p a (by omega))⟩
theorem s_hsetRest {e r : Int} (h : chOk g I x) (he : 0 ≤ e ∧ e < I (x + 1) 1) (hr : 0 ≤ r ∧ r ≤ 9) :
    ∃ g' I1 A, cl 119 [.ref x, .int (iI e), .int (iI r)] (mk g I) = some (.inl (some (.int (iI (I (x + 5) e)))), mk g' (upd2 I1 (x + 5) e r)) ∧ rmF x g g' I I1 A := by
  obtain ⟨g', I1, A, e1, f, hH', hB', hv'⟩ := rm_go h
  have hx := h.1.hn
  have hx' := hH'.hn
  have b1 := h.2.1.1.2.1
  have q := s_needEvent (g := g) (I := I) hx (by omega) b1 he
  have qw := s_isWithin (g := g) (I := I) (a := r) (b := 0) (c := 9) (by omega) (by omega) (by omega)
  rw [if_pos hr] at qw
  have h_0 := hx.1
  obtain ⟨h5, hp⟩ := hx'
  obtain ⟨p_0, ⟨p_1, q_1, p_2⟩, ⟨p_3, q_3, p_4⟩, ⟨p_5, q_5, p_6⟩, ⟨p_7, q_7, p_8⟩, ⟨p_9, q_9, p_10⟩, ⟨p_11, q_11, p_12⟩, ⟨p_13, q_13, p_14⟩, ⟨p_15, q_15, p_16⟩⟩ := hp
  have i5 : I1 (x + 5) = I (x + 5) := rm_piece f _ (by omega) (by omega)
  have q1 : cl 62 [.ref (x + 4), .int (iI e)] (mk g' I1) = some (.inl (some (.int (iI (I (x + 5) e)))), mk g' I1) := by
    rw [← i5]; exact s_row_get (p := x + 1 + 3) p_3 he.1 (by omega)
  have q2 : cl 63 [.ref (x + 4), .int (iI e), .int (iI r)] (mk g' I1) = some (.inl none, mk g' (upd2 I1 (x + 5) e r)) := s_row_put (p := x + 1 + 3) p_3 he.1 (by omega)
  refine ⟨g', I1, A, ?_, f⟩
  simp (maxSteps := 2000000) (disch := first | assumption | omega) only [aft_v, aft_n, aft_t, Nat.add_assoc, Nat.reduceAdd, if_true, if_false, not_true_eq_false, not_false_eq_true, Classical.not_not, Int.reduceAdd, Int.reduceSub, Int.reduceMul, Int.reduceNeg, Int.reduceLT, Int.reduceLE, Int.reduceEq, Int.add_zero, Int.zero_add, Int.sub_zero, c_119, w_119_0, w_119_1, w_119_2, w_119_4, w_119_5, w_119_6, w_119_7, q, qw, e1, q1, q2, show ¬ (1 : Int) = 0 by decide]
theorem s_hsetRestBad {e r : Int} (hx : isHn g x) (hB : gd I (x + 1)) (hr : (-2147483648 ≤ e ∧ e < 2147483648)) (hc : ¬ (0 ≤ e ∧ e < I (x + 1) 1)) : cl 119 [.ref x, .int (iI e), .int (iI r)] (mk g I) = some (.inr "java/lang/IndexOutOfBoundsException", mk (gexc g) I) := by
  have q := s_needEventBad (g := g) (I := I) hx hr hB.1.2.1 hc
  obtain ⟨h5, hp⟩ := hx
  simp (maxSteps := 2000000) (disch := first | assumption | omega) only [aft_v, aft_n, aft_t, Nat.add_assoc, Nat.reduceAdd, if_true, if_false, not_true_eq_false, not_false_eq_true, Classical.not_not, Int.reduceAdd, Int.reduceSub, Int.reduceMul, Int.reduceNeg, Int.reduceLT, Int.reduceLE, Int.reduceEq, Int.add_zero, Int.zero_add, Int.sub_zero, c_119, w_119_0, q]
theorem s_hsetRestBadR {e r : Int} (hx : isHn g x) (hB : gd I (x + 1)) (he : 0 ≤ e ∧ e < I (x + 1) 1) (hrr : (-2147483648 ≤ r ∧ r < 2147483648)) (hr : ¬ (0 ≤ r ∧ r ≤ 9)) : cl 119 [.ref x, .int (iI e), .int (iI r)] (mk g I) = some (.inr "java/lang/IllegalArgumentException", mk (gexc g) I) := by
  have b1 := hB.1.2.1
  have q := s_needEvent (g := g) (I := I) hx (by omega) b1 he
  have qw := s_isWithin (g := g) (I := I) (a := r) (b := 0) (c := 9) (by omega) (by omega) (by omega)
  rw [if_neg hr] at qw
  obtain ⟨h5, hp⟩ := hx
  simp (maxSteps := 2000000) (disch := first | assumption | omega) only [aft_v, aft_n, aft_t, Nat.add_assoc, Nat.reduceAdd, if_true, if_false, not_true_eq_false, not_false_eq_true, Classical.not_not, Int.reduceAdd, Int.reduceSub, Int.reduceMul, Int.reduceNeg, Int.reduceLT, Int.reduceLE, Int.reduceEq, Int.add_zero, Int.zero_add, Int.sub_zero, c_119, w_119_0, w_119_1, w_119_2, w_119_3, q, qw]
theorem s_hlet {e k f may : Int} (h : chOk g I x) (he : 0 ≤ e ∧ e < I (x + 1) 1) (hk : 0 ≤ k ∧ k < I (x + 1 + 2) e) (hf : 1 ≤ f ∧ f ≤ 5) (hm : may = 0 ∨ may = 1) :
    ∃ g' I1 A, cl 120 [.ref x, .int (iI e), .int (iI k), .int (iI f), .int (iI may)] (mk g I) = some (.inl (some (.int (iI (ltS (I (x + 9) (e * 3 + k)) f may)))), mk g' (upd2 I1 (x + 9) (e * 3 + k) (ltS (I (x + 9) (e * 3 + k)) f may))) ∧ rmF x g g' I I1 A := by
  obtain ⟨g', I1, A, e1, fr, hH', hB', hv'⟩ := rm_go h
  have hx := h.1.hn
  have hx' := hH'.hn
  have hG := h.2.1
  have q := s_needNote (g := g) (I := I) hx hG he hk
  have qf := s_needFinger (g := g) (I := I) (x := x) (w := f) (by omega) hf
  have h_0 := hx.1
  have b1 := hG.1.2.1
  have b2 := hG.1.2.2.1 e
  obtain ⟨h5, hp⟩ := hx'
  obtain ⟨p_0, ⟨p_1, q_1, p_2⟩, ⟨p_3, q_3, p_4⟩, ⟨p_5, q_5, p_6⟩, ⟨p_7, q_7, p_8⟩, ⟨p_9, q_9, p_10⟩, ⟨p_11, q_11, p_12⟩, ⟨p_13, q_13, p_14⟩, ⟨p_15, q_15, p_16⟩⟩ := hp
  have i9 : I1 (x + 9) = I (x + 9) := rm_piece fr _ (by omega) (by omega)
  have q1 : cl 62 [.ref (x + 8), .int (iI (e * 3 + k))] (mk g' I1) = some (.inl (some (.int (iI (I (x + 9) (e * 3 + k))))), mk g' I1) := by
    rw [← i9]; exact s_row_get (p := x + 1 + 7) p_7 (by omega) (by omega)
  obtain ⟨v, hv⟩ : ∃ v, v = ltS (I (x + 9) (e * 3 + k)) f may := ⟨_, rfl⟩
  have q2 : cl 63 [.ref (x + 8), .int (iI (e * 3 + k)), .int (iI v)] (mk g' I1) = some (.inl none, mk g' (upd2 I1 (x + 9) (e * 3 + k) v)) := s_row_put (p := x + 1 + 7) p_7 (by omega) (by omega)
  have u : upd2 I1 (x + 9) (e * 3 + k) v (x + 9) (e * 3 + k) = v := upd2_at
  have q3 : cl 62 [.ref (x + 8), .int (iI (e * 3 + k))] (mk g' (upd2 I1 (x + 9) (e * 3 + k) v)) = some (.inl (some (.int (iI v))), mk g' (upd2 I1 (x + 9) (e * 3 + k) v)) := by
    have := s_row_get (g := g') (I := upd2 I1 (x + 9) (e * 3 + k) v) (p := x + 1 + 7) (i := e * 3 + k) p_7 (by omega) (by omega)
    rw [show x + 1 + 7 + 1 = x + 9 from rfl, u] at this
    exact this
  refine ⟨g', I1, A, ?_, fr⟩
  rw [← hv]
  rcases hm with rfl | rfl
  · have hv : andI (I (x + 9) (e * 3 + k)) (xorI (bitF f) (-1)) = v := by rw [hv]; unfold ltS; rw [if_pos rfl]
    simp (maxSteps := 2000000) (disch := first | assumption | omega) only [aft_v, aft_n, aft_t, Nat.add_assoc, Nat.reduceAdd, if_true, if_false, not_true_eq_false, not_false_eq_true, Classical.not_not, Int.reduceAdd, Int.reduceSub, Int.reduceMul, Int.reduceNeg, Int.reduceLT, Int.reduceLE, Int.reduceEq, Int.add_zero, Int.zero_add, Int.sub_zero, c_120, w_120_0, w_120_1, w_120_2, w_120_3, w_120_4, w_120_5, w_120_8, w_120_9, w_120_10, w_120_11, w_120_12, q, qf, e1, s_placeOf, q1, s_bitOf, hv, q2, q3]
  · have hv : orI (I (x + 9) (e * 3 + k)) (bitF f) = v := by rw [hv]; unfold ltS; rw [if_neg (by decide)]
    simp (maxSteps := 2000000) (disch := first | assumption | omega) only [aft_v, aft_n, aft_t, Nat.add_assoc, Nat.reduceAdd, if_true, if_false, not_true_eq_false, not_false_eq_true, Classical.not_not, Int.reduceAdd, Int.reduceSub, Int.reduceMul, Int.reduceNeg, Int.reduceLT, Int.reduceLE, Int.reduceEq, Int.add_zero, Int.zero_add, Int.sub_zero, c_120, w_120_0, w_120_1, w_120_2, w_120_3, w_120_4, w_120_5, w_120_6, w_120_7, w_120_10, w_120_11, w_120_12, q, qf, e1, s_placeOf, q1, s_bitOf, hv, q2, q3, show ¬ (1 : Int) = 0 by decide]
theorem s_hletBad {e k f may : Int} (hx : isHn g x) (hB : gd I (x + 1)) (hr : (-2147483648 ≤ e ∧ e < 2147483648)) (hr2 : (-2147483648 ≤ k ∧ k < 2147483648)) (hr3 : (-2147483648 ≤ f ∧ f < 2147483648)) (h : ¬ (((0 ≤ e ∧ e < I (x + 1) 1) ∧ 0 ≤ k ∧ k < I (x + 1 + 2) e) ∧ 1 ≤ f ∧ f ≤ 5)) : cl 120 [.ref x, .int (iI e), .int (iI k), .int (iI f), .int (iI may)] (mk g I) = some (.inr "java/lang/IndexOutOfBoundsException", mk (gexc g) I) := by
  by_cases h1 : (0 ≤ e ∧ e < I (x + 1) 1) ∧ 0 ≤ k ∧ k < I (x + 1 + 2) e
  · have q := s_needNote hx hB h1.1 h1.2
    have q1 := s_needFingerBad (g := g) (I := I) (x := x) (w := f) hr3 (fun z => h ⟨h1, z⟩)
    obtain ⟨h5, hp⟩ := hx
    simp (maxSteps := 2000000) (disch := first | assumption | omega) only [aft_v, aft_n, aft_t, Nat.add_assoc, Nat.reduceAdd, if_true, if_false, not_true_eq_false, not_false_eq_true, Classical.not_not, Int.reduceAdd, Int.reduceSub, Int.reduceMul, Int.reduceNeg, Int.reduceLT, Int.reduceLE, Int.reduceEq, Int.add_zero, Int.zero_add, Int.sub_zero, c_120, w_120_0, w_120_1, q, q1]
  · have q := s_needNoteBad hx hB hr hr2 h1
    obtain ⟨h5, hp⟩ := hx
    simp (maxSteps := 2000000) (disch := first | assumption | omega) only [aft_v, aft_n, aft_t, Nat.add_assoc, Nat.reduceAdd, if_true, if_false, not_true_eq_false, not_false_eq_true, Classical.not_not, Int.reduceAdd, Int.reduceSub, Int.reduceMul, Int.reduceNeg, Int.reduceLT, Int.reduceLE, Int.reduceEq, Int.add_zero, Int.zero_add, Int.sub_zero, c_120, w_120_0, q]
theorem s_hsetWeight {w v : Int} (h : chOk g I x) (hw : 0 ≤ w ∧ w ≤ 9) (hv : 0 ≤ v ∧ v ≤ 99) :
    ∃ g' I1 A, cl 121 [.ref x, .int (iI w), .int (iI v)] (mk g I) = some (.inl (some (.int (iI (I (x + 11) w)))), mk g' (upd2 I1 (x + 11) w v)) ∧ rmF x g g' I I1 A := by
  obtain ⟨g', I1, A, e1, f, hH', hB', hv'⟩ := rm_go h
  have hx := h.1.hn
  have hx' := hH'.hn
  have q := s_needWeight (g := g) (I := I) (x := x) (w := w) (by omega) hw
  have qw := s_isWithin (g := g) (I := I) (a := v) (b := 0) (c := 99) (by omega) (by omega) (by omega)
  rw [if_pos hv] at qw
  have h_0 := hx.1
  obtain ⟨h5, hp⟩ := hx'
  obtain ⟨p_0, ⟨p_1, q_1, p_2⟩, ⟨p_3, q_3, p_4⟩, ⟨p_5, q_5, p_6⟩, ⟨p_7, q_7, p_8⟩, ⟨p_9, q_9, p_10⟩, ⟨p_11, q_11, p_12⟩, ⟨p_13, q_13, p_14⟩, ⟨p_15, q_15, p_16⟩⟩ := hp
  have i5 : I1 (x + 11) = I (x + 11) := rm_piece f _ (by omega) (by omega)
  have q1 : cl 62 [.ref (x + 10), .int (iI w)] (mk g' I1) = some (.inl (some (.int (iI (I (x + 11) w)))), mk g' I1) := by
    rw [← i5]; exact s_row_get (p := x + 1 + 9) p_9 hw.1 (by omega)
  have q2 : cl 63 [.ref (x + 10), .int (iI w), .int (iI v)] (mk g' I1) = some (.inl none, mk g' (upd2 I1 (x + 11) w v)) := s_row_put (p := x + 1 + 9) p_9 hw.1 (by omega)
  refine ⟨g', I1, A, ?_, f⟩
  simp (maxSteps := 2000000) (disch := first | assumption | omega) only [aft_v, aft_n, aft_t, Nat.add_assoc, Nat.reduceAdd, if_true, if_false, not_true_eq_false, not_false_eq_true, Classical.not_not, Int.reduceAdd, Int.reduceSub, Int.reduceMul, Int.reduceNeg, Int.reduceLT, Int.reduceLE, Int.reduceEq, Int.add_zero, Int.zero_add, Int.sub_zero, c_121, w_121_0, w_121_1, w_121_2, w_121_4, w_121_5, w_121_6, w_121_7, q, qw, e1, q1, q2, show ¬ (1 : Int) = 0 by decide]
theorem s_hsetWeightBad {w v : Int} (h_0 : g.1 x = sX5 x) (hr : (-2147483648 ≤ w ∧ w < 2147483648)) (hw : ¬ (0 ≤ w ∧ w ≤ 9)) : cl 121 [.ref x, .int (iI w), .int (iI v)] (mk g I) = some (.inr "java/lang/IndexOutOfBoundsException", mk (gexc g) I) := by
  have q := s_needWeightBad (g := g) (I := I) (x := x) (w := w) hr hw
  simp (maxSteps := 2000000) (disch := first | assumption | omega) only [aft_v, aft_n, aft_t, Nat.add_assoc, Nat.reduceAdd, if_true, if_false, not_true_eq_false, not_false_eq_true, Classical.not_not, Int.reduceAdd, Int.reduceSub, Int.reduceMul, Int.reduceNeg, Int.reduceLT, Int.reduceLE, Int.reduceEq, Int.add_zero, Int.zero_add, Int.sub_zero, c_121, w_121_0, q]
theorem s_hsetWeightBadV {w v : Int} (h_0 : g.1 x = sX5 x) (hw : 0 ≤ w ∧ w ≤ 9) (hr : (-2147483648 ≤ v ∧ v < 2147483648)) (hv : ¬ (0 ≤ v ∧ v ≤ 99)) : cl 121 [.ref x, .int (iI w), .int (iI v)] (mk g I) = some (.inr "java/lang/IllegalArgumentException", mk (gexc g) I) := by
  have q := s_needWeight (g := g) (I := I) (x := x) (w := w) (by omega) hw
  have qw := s_isWithin (g := g) (I := I) (a := v) (b := 0) (c := 99) (by omega) (by omega) (by omega)
  rw [if_neg hv] at qw
  simp (maxSteps := 2000000) (disch := first | assumption | omega) only [aft_v, aft_n, aft_t, Nat.add_assoc, Nat.reduceAdd, if_true, if_false, not_true_eq_false, not_false_eq_true, Classical.not_not, Int.reduceAdd, Int.reduceSub, Int.reduceMul, Int.reduceNeg, Int.reduceLT, Int.reduceLE, Int.reduceEq, Int.add_zero, Int.zero_add, Int.sub_zero, c_121, w_121_0, w_121_1, w_121_2, w_121_3, q, qw]
def spOk (a b lo hi li : Int) : Prop := ¬ a = b ∧ (1 ≤ lo ∧ lo ≤ 24) ∧ (lo ≤ hi ∧ hi ≤ 24) ∧ (hi ≤ li ∧ li ≤ 24)
theorem s_hsetSpan {a b lo hi li : Int} (h : chOk g I x) (ha : 1 ≤ a ∧ a ≤ 5) (hb : 1 ≤ b ∧ b ≤ 5) (hs : spOk a b lo hi li) :
    ∃ g' I1 A, cl 122 [.ref x, .int (iI a), .int (iI b), .int (iI lo), .int (iI hi), .int (iI li)] (mk g I) = some (.inl (some (.int (iI (pLi (pv I (x + 1)) a b)))), mk g' (spU I1 (x + 1) a b lo hi li)) ∧ rmF x g g' I I1 A := by
  obtain ⟨hn, h1, h2, h3⟩ := hs
  obtain ⟨g', I1, A, e1, f, hH', hB', hv'⟩ := rm_go h
  have hx := h.1.hn
  have hx' := hH'.hn
  have q := s_needFinger (g := g) (I := I) (x := x) (w := a) (by omega) ha
  have q' := s_needFinger (g := g) (I := I) (x := x) (w := b) (by omega) hb
  have w1 := s_isWithin (g := g) (I := I) (a := lo) (b := 1) (c := 24) (by omega) (by omega) (by omega)
  have w2 := s_isWithin (g := g) (I := I) (a := hi) (b := lo) (c := 24) (by omega) (by omega) (by omega)
  have w3 := s_isWithin (g := g) (I := I) (a := li) (b := hi) (c := 24) (by omega) (by omega) (by omega)
  rw [if_pos h1] at w1
  rw [if_pos h2] at w2
  rw [if_pos h3] at w3
  have h_0 := hx.1
  obtain ⟨h5, hp⟩ := hx'
  have hp' := hp
  obtain ⟨p_0, ⟨p_1, q_1, p_2⟩, ⟨p_3, q_3, p_4⟩, ⟨p_5, q_5, p_6⟩, ⟨p_7, q_7, p_8⟩, ⟨p_9, q_9, p_10⟩, ⟨p_11, q_11, p_12⟩, ⟨p_13, q_13, p_14⟩, ⟨p_15, q_15, p_16⟩⟩ := hp
  have i5 : I1 (x + 17) = I (x + 17) := rm_piece f _ (by omega) (by omega)
  have eL : pLi (pv I (x + 1)) a b = I (x + 17) ((a - 1) * 5 + b - 1) := rfl
  have q1 : cl 62 [.ref (x + 16), .int (iI ((a - 1) * 5 + b - 1))] (mk g' I1) = some (.inl (some (.int (iI (I (x + 17) ((a - 1) * 5 + b - 1))))), mk g' I1) := by
    rw [← i5]; exact s_row_get (p := x + 1 + 15) p_15 (by omega) (by omega)
  have q2 := s_putSpan (g := g') (I := I1) (q := x + 1) (a := a) (b := b) (lo := lo) (hi := hi) (li := li) hp' ha hb
  have q2 : cl 3 [.ref (x + 1), .int (iI a), .int (iI b), .int (iI lo), .int (iI hi), .int (iI li)] (mk g' I1) = some (.inl none, mk g' (spU I1 (x + 1) a b lo hi li)) := q2
  have q3 := s_pairOf (g := g') (I := I1) (a := a) (b := b)
  refine ⟨g', I1, A, ?_, f⟩
  rw [eL]
  simp (maxSteps := 2000000) (disch := first | assumption | omega) only [aft_v, aft_n, aft_t, Nat.add_assoc, Nat.reduceAdd, if_true, if_false, not_true_eq_false, not_false_eq_true, Classical.not_not, Int.reduceAdd, Int.reduceSub, Int.reduceMul, Int.reduceNeg, Int.reduceLT, Int.reduceLE, Int.reduceEq, Int.add_zero, Int.zero_add, Int.sub_zero, c_122, w_122_0, w_122_1, w_122_2, w_122_3, w_122_4, w_122_5, w_122_6, w_122_7, w_122_8, w_122_10, w_122_11, w_122_12, w_122_13, w_122_14, q, q', hn, w1, w2, w3, e1, q3, q1, q2, show ¬ (1 : Int) = 0 by decide]
theorem s_hsetSpanBadF {a b lo hi li : Int} (h_0 : g.1 x = sX5 x) (hra : (-2147483648 ≤ a ∧ a < 2147483648)) (hrb : (-2147483648 ≤ b ∧ b < 2147483648)) (h : ¬ ((1 ≤ a ∧ a ≤ 5) ∧ 1 ≤ b ∧ b ≤ 5)) : cl 122 [.ref x, .int (iI a), .int (iI b), .int (iI lo), .int (iI hi), .int (iI li)] (mk g I) = some (.inr "java/lang/IndexOutOfBoundsException", mk (gexc g) I) := by
  by_cases ha : 1 ≤ a ∧ a ≤ 5
  · have f1 := s_needFinger (g := g) (I := I) (x := x) (w := a) hra ha
    have f2 := s_needFingerBad (g := g) (I := I) (x := x) (w := b) hrb (fun z => h ⟨ha, z⟩)
    simp (maxSteps := 2000000) (disch := first | assumption | omega) only [aft_v, aft_n, aft_t, Nat.add_assoc, Nat.reduceAdd, if_true, if_false, not_true_eq_false, not_false_eq_true, Classical.not_not, Int.reduceAdd, Int.reduceSub, Int.reduceMul, Int.reduceNeg, Int.reduceLT, Int.reduceLE, Int.reduceEq, Int.add_zero, Int.zero_add, Int.sub_zero, c_122, w_122_0, w_122_1, f1, f2]
  · have f1 := s_needFingerBad (g := g) (I := I) (x := x) (w := a) hra ha
    simp (maxSteps := 2000000) (disch := first | assumption | omega) only [aft_v, aft_n, aft_t, Nat.add_assoc, Nat.reduceAdd, if_true, if_false, not_true_eq_false, not_false_eq_true, Classical.not_not, Int.reduceAdd, Int.reduceSub, Int.reduceMul, Int.reduceNeg, Int.reduceLT, Int.reduceLE, Int.reduceEq, Int.add_zero, Int.zero_add, Int.sub_zero, c_122, w_122_0, f1]
theorem s_hsetSpanBadS {a b lo hi li : Int} (h_0 : g.1 x = sX5 x) (ha : 1 ≤ a ∧ a ≤ 5) (hb : 1 ≤ b ∧ b ≤ 5) (r1 : (-2147483648 ≤ lo ∧ lo < 2147483648)) (r2 : (-2147483648 ≤ hi ∧ hi < 2147483648)) (r3 : (-2147483648 ≤ li ∧ li < 2147483648)) (h : ¬ spOk a b lo hi li) : cl 122 [.ref x, .int (iI a), .int (iI b), .int (iI lo), .int (iI hi), .int (iI li)] (mk g I) = some (.inr "java/lang/IllegalArgumentException", mk (gexc g) I) := by
  have q := s_needFinger (g := g) (I := I) (x := x) (w := a) (by omega) ha
  have q' := s_needFinger (g := g) (I := I) (x := x) (w := b) (by omega) hb
  have w1 := s_isWithin (g := g) (I := I) (a := lo) (b := 1) (c := 24) (by omega) (by omega) (by omega)
  have w2 := s_isWithin (g := g) (I := I) (a := hi) (b := lo) (c := 24) (by omega) (by omega) (by omega)
  have w3 := s_isWithin (g := g) (I := I) (a := li) (b := hi) (c := 24) (by omega) (by omega) (by omega)
  unfold spOk at h
  by_cases hn : a = b
  · subst hn
    simp (maxSteps := 2000000) (disch := first | assumption | omega) only [aft_v, aft_n, aft_t, Nat.add_assoc, Nat.reduceAdd, if_true, if_false, not_true_eq_false, not_false_eq_true, Classical.not_not, Int.reduceAdd, Int.reduceSub, Int.reduceMul, Int.reduceNeg, Int.reduceLT, Int.reduceLE, Int.reduceEq, Int.add_zero, Int.zero_add, Int.sub_zero, c_122, w_122_0, w_122_1, w_122_2, w_122_9, q]
  by_cases h1 : 1 ≤ lo ∧ lo ≤ 24
  · rw [if_pos h1] at w1
    by_cases h2 : lo ≤ hi ∧ hi ≤ 24
    · rw [if_pos h2] at w2
      rw [if_neg (fun h3 => h ⟨hn, h1, h2, h3⟩)] at w3
      simp (maxSteps := 2000000) (disch := first | assumption | omega) only [aft_v, aft_n, aft_t, Nat.add_assoc, Nat.reduceAdd, if_true, if_false, not_true_eq_false, not_false_eq_true, Classical.not_not, Int.reduceAdd, Int.reduceSub, Int.reduceMul, Int.reduceNeg, Int.reduceLT, Int.reduceLE, Int.reduceEq, Int.add_zero, Int.zero_add, Int.sub_zero, c_122, w_122_0, w_122_1, w_122_2, w_122_3, w_122_4, w_122_5, w_122_6, w_122_7, w_122_8, w_122_9, q, q', hn, w1, w2, w3, show ¬ (1 : Int) = 0 by decide]
    · rw [if_neg h2] at w2
      simp (maxSteps := 2000000) (disch := first | assumption | omega) only [aft_v, aft_n, aft_t, Nat.add_assoc, Nat.reduceAdd, if_true, if_false, not_true_eq_false, not_false_eq_true, Classical.not_not, Int.reduceAdd, Int.reduceSub, Int.reduceMul, Int.reduceNeg, Int.reduceLT, Int.reduceLE, Int.reduceEq, Int.add_zero, Int.zero_add, Int.sub_zero, c_122, w_122_0, w_122_1, w_122_2, w_122_3, w_122_4, w_122_5, w_122_6, w_122_9, q, q', hn, w1, w2, show ¬ (1 : Int) = 0 by decide]
  · rw [if_neg h1] at w1
    simp (maxSteps := 2000000) (disch := first | assumption | omega) only [aft_v, aft_n, aft_t, Nat.add_assoc, Nat.reduceAdd, if_true, if_false, not_true_eq_false, not_false_eq_true, Classical.not_not, Int.reduceAdd, Int.reduceSub, Int.reduceMul, Int.reduceNeg, Int.reduceLT, Int.reduceLE, Int.reduceEq, Int.add_zero, Int.zero_add, Int.sub_zero, c_122, w_122_0, w_122_1, w_122_2, w_122_3, w_122_4, w_122_9, q, q', hn, w1]
theorem s_hsetHand {r : Int} (h : chOk g I x) (hr : r = 0 ∨ r = 1) :
    ∃ g' I1 I2 A, cl 123 [.ref x, .int (iI r)] (mk g I) = some (.inl (some (.int (iI (lsS (pv (upd2 I1 (x + 1) 0 r) (x + 1)) 0)))), mk g' I2) ∧ rmF x g g' I I1 A ∧ frP (x + 35) (upd2 I1 (x + 1) 0 r) I2 ∧ Sol (pv (upd2 I1 (x + 1) 0 r) (x + 1)) (x + 35) I2 := by
  obtain ⟨g', I1, A, e1, f, hH', hB', hv'⟩ := rm_go h
  have hl := hH'.2.2.2.1
  have h_0 := h.1.1
  obtain ⟨h5, hp⟩ := hH'.hn
  have hG : gd (upd2 I1 (x + 1) 0 r) (x + 1) := by
    obtain ⟨⟨b0, b1, b2, b4, b6, b8, b10, b12, b14, b16⟩, hz⟩ := hB'
    have e0 : upd2 I1 (x + 1) 0 r (x + 1) 0 = r := upd2_at
    have e1 : upd2 I1 (x + 1) 0 r (x + 1) 1 = I1 (x + 1) 1 := upd2_i (by decide)
    have ep : ∀ p, ¬ p = x + 1 → upd2 I1 (x + 1) 0 r p = I1 p := fun p hp => funext fun j => upd2_p hp
    unfold gd pB
    rw [e0, e1, ep (x + 1 + 2) (by omega), ep (x + 1 + 4) (by omega), ep (x + 1 + 6) (by omega), ep (x + 1 + 8) (by omega), ep (x + 1 + 10) (by omega), ep (x + 1 + 12) (by omega), ep (x + 1 + 14) (by omega), ep (x + 1 + 16) (by omega)]
    exact ⟨⟨hr, b1, b2, b4, b6, b8, b10, b12, b14, b16⟩, hz⟩
  have hfl : upd2 I1 (x + 1) 0 r (x + 35) 0 = 0 := by rw [upd2_p (by omega)]; exact f.2.2.2.2.2.2.1
  obtain ⟨I2, e2, f2, s2⟩ := s_solve0 (g := g') (I := upd2 I1 (x + 1) 0 r) (q := x + 1) (l := x + 35) hp hl hG rfl (Or.inl (by omega)) hfl
  have ls2 : I2 (x + 35) 2 = lsS (pv (upd2 I1 (x + 1) 0 r) (x + 1)) 0 := s2.2.2.1
  have h1 : g'.1 (x + 35) = sX1 (x + 35) := hl.1
  obtain ⟨p_0, ⟨p_1, q_1, p_2⟩, ⟨p_3, q_3, p_4⟩, ⟨p_5, q_5, p_6⟩, ⟨p_7, q_7, p_8⟩, ⟨p_9, q_9, p_10⟩, ⟨p_11, q_11, p_12⟩, ⟨p_13, q_13, p_14⟩, ⟨p_15, q_15, p_16⟩⟩ := hp
  refine ⟨g', I1, I2, A, ?_, f, f2, s2⟩
  simp (maxSteps := 2000000) (disch := first | assumption | omega) only [aft_v, aft_n, aft_t, Nat.add_assoc, Nat.reduceAdd, if_true, if_false, not_true_eq_false, not_false_eq_true, Classical.not_not, Int.reduceAdd, Int.reduceSub, Int.reduceMul, Int.reduceNeg, Int.reduceLT, Int.reduceLE, Int.reduceEq, Int.add_zero, Int.zero_add, Int.sub_zero, c_123, w_123_0, w_123_1, w_123_2, e1, e2, ls2]
theorem s_htranspose {d : Int} (h : chOk g I x) (hd : -87 ≤ d ∧ d ≤ 87) (hf : fitS (pv I (x + 1)) d) :
    ∃ g' I1 I2 A, cl 124 [.ref x, .int (iI d)] (mk g I) = some (.inl (some (.int (iI (lsS (pv (shM I1 (x + 1) d (I1 (x + 1) 1 * 3 + 0)) (x + 1)) 0)))), mk g' I2) ∧ rmF x g g' I I1 A ∧ gd (shM I1 (x + 1) d (I1 (x + 1) 1 * 3 + 0)) (x + 1) ∧ frP (x + 35) (shM I1 (x + 1) d (I1 (x + 1) 1 * 3 + 0)) I2 ∧ Sol (pv (shM I1 (x + 1) d (I1 (x + 1) 1 * 3 + 0)) (x + 1)) (x + 35) I2 := by
  obtain ⟨g', I1, A, e1, f, hH', hB', hv'⟩ := rm_go h
  have hW := h.2.2.1
  have q := s_needT (g := g) (I := I) h.1.hn h.2.1 hd hf
  have hl := hH'.2.2.2.1
  have h_0 := h.1.1
  obtain ⟨h5, hp⟩ := hH'.hn
  have q1 := s_shift (g := g') (I := I1) (q := x + 1) (d := d) hp hB'.1
  obtain ⟨K, hK⟩ : ∃ K, K = shM I1 (x + 1) d (I1 (x + 1) 1 * 3 + 0) := ⟨_, rfl⟩
  rw [← hK] at q1
  have kp : ∀ p, ¬ p = x + 7 → K p = I1 p := fun p hp => by rw [hK]; exact funext fun i => shM_p hp
  have hW1 : Wf (pv I1 (x + 1)) := by rw [hv']; exact hW
  have hf1 : fitS (pv I1 (x + 1)) d := by rw [hv']; exact hf
  have hG : gd K (x + 1) := by
    obtain ⟨⟨b0, b1, b2, b4, b6, b8, b10, b12, b14, b16⟩, hz⟩ := hB'
    have hk : ∀ i, K (x + 7) i = I1 (x + 7) i ∨ ((0 ≤ i ∧ i < I1 (x + 1) 1 * 3 + 0) ∧ i % 3 < I1 (x + 3) (i / 3) ∧ K (x + 7) i = I1 (x + 7) i + d) := fun i => by
      rw [hK]
      by_cases hc : (x + 7 = x + 1 + 6 ∧ 0 ≤ i ∧ i < I1 (x + 1) 1 * 3 + 0) ∧ i % 3 < I1 (x + 1 + 2) (i / 3)
      · exact Or.inr ⟨hc.1.2, hc.2, if_pos hc⟩
      · exact Or.inl (if_neg hc)
    refine ⟨?_, ?_⟩
    · unfold pB
      rw [kp (x + 1) (by omega), kp (x + 1 + 2) (by omega), kp (x + 1 + 4) (by omega), kp (x + 1 + 8) (by omega), kp (x + 1 + 10) (by omega), kp (x + 1 + 12) (by omega), kp (x + 1 + 14) (by omega), kp (x + 1 + 16) (by omega)]
      refine ⟨b0, b1, b2, b4, fun i => ?_, b8, b10, b12, b14, b16⟩
      show 0 ≤ K (x + 7) i ∧ K (x + 7) i ≤ 108
      rcases hk i with h | ⟨h1, h2, h3⟩
      · rw [h]; exact b6 i
      · have e0 : 0 ≤ i / 3 := by omega
        have e9 : i / 3 < pE (pv I1 (x + 1)) := by show i / 3 < I1 (x + 1) 1; omega
        have := lk_le hW1 e0 e9 (k := i % 3) (by omega) h2
        have hky : pKy (pv I1 (x + 1)) (i / 3) (i % 3) = I1 (x + 7) i := by
          show I1 (x + 7) (i / 3 * 3 + i % 3) = _
          rw [show i / 3 * 3 + i % 3 = i by omega]
        rw [hky] at this
        rw [h3]
        rcases hf1 with h4 | h4
        · omega
        · omega
    · intro e a b
      rw [kp (x + 1) (by omega)] at b
      rw [kp (x + 1 + 2) (by omega)]
      obtain ⟨z1, z2⟩ := hz e a b
      refine ⟨z1, fun k k0 k1 => ?_⟩
      have z3 := z2 k k0 k1
      have b3 := b2 e
      have kin : ∀ j, 0 ≤ j → j < I1 (x + 1 + 2) e → K (x + 1 + 6) (e * 3 + j) = I1 (x + 1 + 6) (e * 3 + j) + d := fun j j0 j1 => by
        rw [hK]
        refine if_pos ⟨⟨rfl, by omega, by omega⟩, ?_⟩
        rw [show (e * 3 + j) % 3 = j by omega, show (e * 3 + j) / 3 = e by omega]
        exact j1
      rw [kin k k0 (by omega), kin (k + 1) (by omega) k1]
      omega
  have hfl : K (x + 35) 0 = 0 := by rw [kp _ (by omega)]; exact f.2.2.2.2.2.2.1
  obtain ⟨I2, e2, f2, s2⟩ := s_solve0 (g := g') (I := K) (q := x + 1) (l := x + 35) hp hl hG rfl (Or.inl (by omega)) hfl
  have ls2 : I2 (x + 35) 2 = lsS (pv K (x + 1)) 0 := s2.2.2.1
  have h1 : g'.1 (x + 35) = sX1 (x + 35) := hl.1
  obtain ⟨p_0, ⟨p_1, q_1, p_2⟩, ⟨p_3, q_3, p_4⟩, ⟨p_5, q_5, p_6⟩, ⟨p_7, q_7, p_8⟩, ⟨p_9, q_9, p_10⟩, ⟨p_11, q_11, p_12⟩, ⟨p_13, q_13, p_14⟩, ⟨p_15, q_15, p_16⟩⟩ := hp
  refine ⟨g', I1, I2, A, ?_, f, ?_, ?_, ?_⟩ <;> rw [← hK]
  · simp (maxSteps := 2000000) (disch := first | assumption | omega) only [aft_v, aft_n, aft_t, Nat.add_assoc, Nat.reduceAdd, if_true, if_false, not_true_eq_false, not_false_eq_true, Classical.not_not, Int.reduceAdd, Int.reduceSub, Int.reduceMul, Int.reduceNeg, Int.reduceLT, Int.reduceLE, Int.reduceEq, Int.add_zero, Int.zero_add, Int.sub_zero, c_124, w_124_0, w_124_1, w_124_2, w_124_3, w_124_4, q, e1, q1, e2, ls2]
  · exact hG
  · exact f2
  · exact s2
theorem s_htransposeBad {d : Int} (hx : isHn g x) (hB : gd I (x + 1)) (hr : (-2147483648 ≤ d ∧ d < 2147483648)) (h : ¬ ((-87 ≤ d ∧ d ≤ 87) ∧ fitS (pv I (x + 1)) d)) : cl 124 [.ref x, .int (iI d)] (mk g I) = some (.inr "java/lang/IllegalArgumentException", mk (gexc g) I) := by
  have q := s_needTBad hx hB hr h
  obtain ⟨h5, hp⟩ := hx
  simp (maxSteps := 2000000) (disch := first | assumption | omega) only [aft_v, aft_n, aft_t, Nat.add_assoc, Nat.reduceAdd, if_true, if_false, not_true_eq_false, not_false_eq_true, Classical.not_not, Int.reduceAdd, Int.reduceSub, Int.reduceMul, Int.reduceNeg, Int.reduceLT, Int.reduceLE, Int.reduceEq, Int.add_zero, Int.zero_add, Int.sub_zero, c_124, w_124_0, q]
theorem s_hdrop {e : Int} (h : chOk g I x) (he : 0 ≤ e ∧ e < I (x + 1) 1) :
    ∃ g' I1 A, cl 118 [.ref x, .int (iI e)] (mk g I) = some (.inl (some (.int (iI (I (x + 1) 1 - 1)))), mk g' (clE (upd2 I1 (x + 1) 1 (I (x + 1) 1 - 1)) (x + 1) e (I (x + 1) 1 - 1))) ∧ rmF x g g' I I1 A := by
  obtain ⟨g', I1, A, e1, f, hH', hB', hv'⟩ := rm_go h
  have hx := h.1.hn
  have b1 := h.2.1.1.2.1
  have q := s_needEvent (g := g) (I := I) hx (by omega) b1 he
  have h_0 := hx.1
  obtain ⟨h5, hp⟩ := hH'.hn
  have i1 : I1 (x + 1) = I (x + 1) := rm_piece f _ (by omega) (by omega)
  have q1 := s_closePlace (g := g') (I := I1) (q := x + 1) (e := e) hp (by rw [i1]; omega) (by rw [i1]; exact he)
  rw [i1] at q1
  have u : clE (upd2 I1 (x + 1) 1 (I (x + 1) 1 - 1)) (x + 1) e (I (x + 1) 1 - 1) (x + 1) 1 = I (x + 1) 1 - 1 := by
    unfold clE
    (repeat rw [if_neg (by omega)])
    exact upd2_at
  obtain ⟨p_0, ⟨p_1, q_1, p_2⟩, ⟨p_3, q_3, p_4⟩, ⟨p_5, q_5, p_6⟩, ⟨p_7, q_7, p_8⟩, ⟨p_9, q_9, p_10⟩, ⟨p_11, q_11, p_12⟩, ⟨p_13, q_13, p_14⟩, ⟨p_15, q_15, p_16⟩⟩ := hp
  refine ⟨g', I1, A, ?_, f⟩
  simp (maxSteps := 2000000) (disch := first | assumption | omega) only [aft_v, aft_n, aft_t, Nat.add_assoc, Nat.reduceAdd, if_true, if_false, not_true_eq_false, not_false_eq_true, Classical.not_not, Int.reduceAdd, Int.reduceSub, Int.reduceMul, Int.reduceNeg, Int.reduceLT, Int.reduceLE, Int.reduceEq, Int.add_zero, Int.zero_add, Int.sub_zero, c_118, w_118_0, w_118_1, w_118_2, w_118_3, q, e1, q1, u]
theorem s_hdropBad {e : Int} (hx : isHn g x) (hB : gd I (x + 1)) (hr : (-2147483648 ≤ e ∧ e < 2147483648)) (hc : ¬ (0 ≤ e ∧ e < I (x + 1) 1)) : cl 118 [.ref x, .int (iI e)] (mk g I) = some (.inr "java/lang/IndexOutOfBoundsException", mk (gexc g) I) := by
  have q := s_needEventBad (g := g) (I := I) hx hr hB.1.2.1 hc
  obtain ⟨h5, hp⟩ := hx
  simp (maxSteps := 2000000) (disch := first | assumption | omega) only [aft_v, aft_n, aft_t, Nat.add_assoc, Nat.reduceAdd, if_true, if_false, not_true_eq_false, not_false_eq_true, Classical.not_not, Int.reduceAdd, Int.reduceSub, Int.reduceMul, Int.reduceNeg, Int.reduceLT, Int.reduceLE, Int.reduceEq, Int.add_zero, Int.zero_add, Int.sub_zero, c_118, w_118_0, q]
/-- keys as play takes them -/
def kyOk (a b c : Int) : Prop := (21 ≤ a ∧ a ≤ 108) ∧ ((b = 0 ∧ c = 0) ∨ (a < b ∧ b ≤ 108 ∧ (c = 0 ∨ (b < c ∧ c ≤ 108))))
theorem s_hplay {e a b c r : Int} (h : chOk g I x) (he : 0 ≤ e ∧ e ≤ I (x + 1) 1) (hn : I (x + 1) 1 < 40) (hk : kyOk a b c) (hr : 0 ≤ r ∧ r ≤ 9) :
    ∃ g' I1 A, cl 117 [.ref x, .int (iI e), .int (iI a), .int (iI b), .int (iI c), .int (iI r)] (mk g I) = some (.inl (some (.int (iI (I (x + 1) 1 + 1)))), mk g' (plI I1 (x + 1) e a b c r)) ∧ rmF x g g' I I1 A := by
  obtain ⟨g', I1, A, e1, f, hH', hB', hv'⟩ := rm_go h
  have hx := h.1.hn
  have b1 := h.2.1.1.2.1
  have h_0 := hx.1
  have h_1 : g.1 (x + 1) = sX0 (x + 1) := hx.2.1
  have kb : (0 ≤ a ∧ a ≤ 108) ∧ (0 ≤ b ∧ b ≤ 108) ∧ (0 ≤ c ∧ c ≤ 108) := by unfold kyOk at hk; omega
  have qw := s_isWithin (g := g) (I := I) (a := e) (b := 0) (c := I (x + 1) 1) (by omega) (by omega) (by omega)
  rw [if_pos he] at qw
  have qk := s_areKeys (g := g) (I := I) (a := a) (b := b) (c := c) (by omega) (by omega) (by omega)
  rw [if_pos (show (21 ≤ a ∧ a ≤ 108) ∧ ((b = 0 ∧ c = 0) ∨ (a < b ∧ b ≤ 108 ∧ (c = 0 ∨ (b < c ∧ c ≤ 108)))) from hk)] at qk
  have qr := s_isWithin (g := g) (I := I) (a := r) (b := 0) (c := 9) (by omega) (by omega) (by omega)
  rw [if_pos hr] at qr
  obtain ⟨h5, hp⟩ := hH'.hn
  have hp' := hp
  have i1 : I1 (x + 1) = I (x + 1) := rm_piece f _ (by omega) (by omega)
  have qo := s_openPlace (g := g') (I := I1) (q := x + 1) (e := e) hp (by rw [i1]; omega) (by rw [i1]; exact he)
  obtain ⟨O, hO⟩ : ∃ O, O = upd2 (upd2 (upd2 (opE I1 (x + 1) e (I1 (x + 1) 1)) (x + 1 + 2) e 0) (x + 1 + 4) e 0) (x + 1) 1 (I1 (x + 1) 1 + 1) := ⟨_, rfl⟩
  rw [← hO] at qo
  have pn : ∀ (J : Mm) (k v : Int), 0 ≤ k ∧ k < 3 → cl 7 [.ref (x + 1), .int (iI e), .int (iI k), .int (iI v)] (mk g' J) = some (.inl none, mk g' (pnI J (x + 1) e k v)) := fun J k v hk => s_putNote hp' (by omega) hk
  have oE : O (x + 1) 1 = I (x + 1) 1 + 1 := by rw [hO, upd2_at, i1]
  have pE : ∀ (J : Mm) (k v : Int), pnI J (x + 1) e k v (x + 1) 1 = J (x + 1) 1 := fun J k v => by unfold pnI; rw [upd2_p (by omega), upd2_p (by omega), upd2_p (by omega)]
  obtain ⟨p_0, ⟨p_1, q_1, p_2⟩, ⟨p_3, q_3, p_4⟩, ⟨p_5, q_5, p_6⟩, ⟨p_7, q_7, p_8⟩, ⟨p_9, q_9, p_10⟩, ⟨p_11, q_11, p_12⟩, ⟨p_13, q_13, p_14⟩, ⟨p_15, q_15, p_16⟩⟩ := hp
  have pr : ∀ J : Mm, cl 63 [.ref (x + 4), .int (iI e), .int (iI r)] (mk g' J) = some (.inl none, mk g' (upd2 J (x + 5) e r)) := fun J => s_row_put (p := x + 1 + 3) p_3 he.1 (by omega)
  have p0 := pn O 0 a (by decide)
  have uE : ∀ J : Mm, upd2 J (x + 5) e r (x + 1) 1 = J (x + 1) 1 := fun J => upd2_p (by omega)
  refine ⟨g', I1, A, ?_, f⟩
  unfold plI
  rw [← hO]
  by_cases hb : b = 0
  · have hc : c = 0 := by unfold kyOk at hk; omega
    rw [if_pos hc, if_pos hb]
    subst hb hc
    simp (maxSteps := 2000000) (disch := first | assumption | omega) only [aft_v, aft_n, aft_t, Nat.add_assoc, Nat.reduceAdd, if_true, if_false, not_true_eq_false, not_false_eq_true, Classical.not_not, Int.reduceAdd, Int.reduceSub, Int.reduceMul, Int.reduceNeg, Int.reduceLT, Int.reduceLE, Int.reduceEq, Int.add_zero, Int.zero_add, Int.sub_zero, c_117, w_117_0, w_117_1, w_117_3, w_117_4, w_117_5, w_117_6, w_117_8, w_117_10, w_117_11, w_117_12, w_117_13, w_117_15, w_117_17, w_117_18, if_pos hn, qw, qk, qr, e1, qo, p0, pr, uE, pE, oE, show ¬ (1 : Int) = 0 by decide]
  · have p1 := pn (pnI O (x + 1) e 0 a) 1 b (by decide)
    by_cases hc : c = 0
    · rw [if_pos hc, if_neg hb]
      subst hc
      simp (maxSteps := 2000000) (disch := first | assumption | omega) only [aft_v, aft_n, aft_t, Nat.add_assoc, Nat.reduceAdd, if_true, if_false, not_true_eq_false, not_false_eq_true, Classical.not_not, Int.reduceAdd, Int.reduceSub, Int.reduceMul, Int.reduceNeg, Int.reduceLT, Int.reduceLE, Int.reduceEq, Int.add_zero, Int.zero_add, Int.sub_zero, c_117, w_117_0, w_117_1, w_117_3, w_117_4, w_117_5, w_117_6, w_117_8, w_117_10, w_117_11, w_117_12, w_117_13, w_117_14, w_117_15, w_117_17, w_117_18, if_pos hn, qw, qk, qr, e1, qo, p0, p1, pr, uE, pE, oE, hb, show ¬ (1 : Int) = 0 by decide]
    · rw [if_neg hc, if_neg hb]
      have p2 := pn (pnI (pnI O (x + 1) e 0 a) (x + 1) e 1 b) 2 c (by decide)
      simp (maxSteps := 2000000) (disch := first | assumption | omega) only [aft_v, aft_n, aft_t, Nat.add_assoc, Nat.reduceAdd, if_true, if_false, not_true_eq_false, not_false_eq_true, Classical.not_not, Int.reduceAdd, Int.reduceSub, Int.reduceMul, Int.reduceNeg, Int.reduceLT, Int.reduceLE, Int.reduceEq, Int.add_zero, Int.zero_add, Int.sub_zero, c_117, w_117_0, w_117_1, w_117_3, w_117_4, w_117_5, w_117_6, w_117_8, w_117_10, w_117_11, w_117_12, w_117_13, w_117_14, w_117_15, w_117_16, w_117_17, w_117_18, if_pos hn, qw, qk, qr, e1, qo, p0, p1, p2, pr, uE, pE, oE, hb, hc, show ¬ (1 : Int) = 0 by decide]
theorem s_hplayFull {e a b c r : Int} (hx : isHn g x) (hB : gd I (x + 1)) (he : 0 ≤ e ∧ e ≤ I (x + 1) 1) (hn : I (x + 1) 1 = 40) (hk : kyOk a b c) (hr : 0 ≤ r ∧ r ≤ 9) :
    cl 117 [.ref x, .int (iI e), .int (iI a), .int (iI b), .int (iI c), .int (iI r)] (mk g I) = some (.inl (some (.int (iI (-10)))), mk g I) := by
  have b1 := hB.1.2.1
  obtain ⟨h5, hp⟩ := hx
  have kb : (0 ≤ a ∧ a ≤ 108) ∧ (0 ≤ b ∧ b ≤ 108) ∧ (0 ≤ c ∧ c ≤ 108) := by unfold kyOk at hk; omega
  have qw := s_isWithin (g := g) (I := I) (a := e) (b := 0) (c := I (x + 1) 1) (by omega) (by omega) (by omega)
  rw [if_pos he] at qw
  have qk := s_areKeys (g := g) (I := I) (a := a) (b := b) (c := c) (by omega) (by omega) (by omega)
  rw [if_pos (show (21 ≤ a ∧ a ≤ 108) ∧ ((b = 0 ∧ c = 0) ∨ (a < b ∧ b ≤ 108 ∧ (c = 0 ∨ (b < c ∧ c ≤ 108)))) from hk)] at qk
  have qr := s_isWithin (g := g) (I := I) (a := r) (b := 0) (c := 9) (by omega) (by omega) (by omega)
  rw [if_pos hr] at qr
  obtain ⟨p_0, ⟨p_1, q_1, p_2⟩, ⟨p_3, q_3, p_4⟩, ⟨p_5, q_5, p_6⟩, ⟨p_7, q_7, p_8⟩, ⟨p_9, q_9, p_10⟩, ⟨p_11, q_11, p_12⟩, ⟨p_13, q_13, p_14⟩, ⟨p_15, q_15, p_16⟩⟩ := hp
  simp (maxSteps := 2000000) (disch := first | assumption | omega) only [aft_v, aft_n, aft_t, Nat.add_assoc, Nat.reduceAdd, if_true, if_false, not_true_eq_false, not_false_eq_true, Classical.not_not, Int.reduceAdd, Int.reduceSub, Int.reduceMul, Int.reduceNeg, Int.reduceLT, Int.reduceLE, Int.reduceEq, Int.add_zero, Int.zero_add, Int.sub_zero, c_117, w_117_0, w_117_1, w_117_3, w_117_4, w_117_5, w_117_6, w_117_8, w_117_9, qw, qk, qr, if_neg (show ¬ I (x + 1) 1 < 40 by omega), show ¬ (1 : Int) = 0 by decide]
theorem s_hplayBad {e a b c r : Int} (hx : isHn g x) (hB : gd I (x + 1)) (hre : (-2147483648 ≤ e ∧ e < 2147483648)) (he : ¬ (0 ≤ e ∧ e ≤ I (x + 1) 1)) :
    cl 117 [.ref x, .int (iI e), .int (iI a), .int (iI b), .int (iI c), .int (iI r)] (mk g I) = some (.inr "java/lang/IndexOutOfBoundsException", mk (gexc g) I) := by
  have b1 := hB.1.2.1
  obtain ⟨h5, hp⟩ := hx
  have qw := s_isWithin (g := g) (I := I) (a := e) (b := 0) (c := I (x + 1) 1) (by omega) (by omega) (by omega)
  rw [if_neg he] at qw
  obtain ⟨p_0, ⟨p_1, q_1, p_2⟩, ⟨p_3, q_3, p_4⟩, ⟨p_5, q_5, p_6⟩, ⟨p_7, q_7, p_8⟩, ⟨p_9, q_9, p_10⟩, ⟨p_11, q_11, p_12⟩, ⟨p_13, q_13, p_14⟩, ⟨p_15, q_15, p_16⟩⟩ := hp
  simp (maxSteps := 2000000) (disch := first | assumption | omega) only [aft_v, aft_n, aft_t, Nat.add_assoc, Nat.reduceAdd, if_true, if_false, not_true_eq_false, not_false_eq_true, Classical.not_not, Int.reduceAdd, Int.reduceSub, Int.reduceMul, Int.reduceNeg, Int.reduceLT, Int.reduceLE, Int.reduceEq, Int.add_zero, Int.zero_add, Int.sub_zero, c_117, w_117_0, w_117_1, w_117_2, qw]
theorem s_hplayBadK {e a b c r : Int} (hx : isHn g x) (hB : gd I (x + 1)) (he : 0 ≤ e ∧ e ≤ I (x + 1) 1) (hra : (-2147483648 ≤ a ∧ a < 2147483648)) (hrb : (-2147483648 ≤ b ∧ b < 2147483648)) (hrc : (-2147483648 ≤ c ∧ c < 2147483648)) (hrr : (-2147483648 ≤ r ∧ r < 2147483648)) (h : ¬ (kyOk a b c ∧ 0 ≤ r ∧ r ≤ 9)) :
    cl 117 [.ref x, .int (iI e), .int (iI a), .int (iI b), .int (iI c), .int (iI r)] (mk g I) = some (.inr "java/lang/IllegalArgumentException", mk (gexc g) I) := by
  have b1 := hB.1.2.1
  obtain ⟨h5, hp⟩ := hx
  have qw := s_isWithin (g := g) (I := I) (a := e) (b := 0) (c := I (x + 1) 1) (by omega) (by omega) (by omega)
  rw [if_pos he] at qw
  have qk := s_areKeys (g := g) (I := I) (a := a) (b := b) (c := c) (by omega) (by omega) (by omega)
  have qr := s_isWithin (g := g) (I := I) (a := r) (b := 0) (c := 9) (by omega) (by omega) (by omega)
  obtain ⟨p_0, ⟨p_1, q_1, p_2⟩, ⟨p_3, q_3, p_4⟩, ⟨p_5, q_5, p_6⟩, ⟨p_7, q_7, p_8⟩, ⟨p_9, q_9, p_10⟩, ⟨p_11, q_11, p_12⟩, ⟨p_13, q_13, p_14⟩, ⟨p_15, q_15, p_16⟩⟩ := hp
  by_cases hk : kyOk a b c
  · rw [if_pos (show (21 ≤ a ∧ a ≤ 108) ∧ ((b = 0 ∧ c = 0) ∨ (a < b ∧ b ≤ 108 ∧ (c = 0 ∨ (b < c ∧ c ≤ 108)))) from hk)] at qk
    rw [if_neg (fun z => h ⟨hk, z⟩)] at qr
    simp (maxSteps := 2000000) (disch := first | assumption | omega) only [aft_v, aft_n, aft_t, Nat.add_assoc, Nat.reduceAdd, if_true, if_false, not_true_eq_false, not_false_eq_true, Classical.not_not, Int.reduceAdd, Int.reduceSub, Int.reduceMul, Int.reduceNeg, Int.reduceLT, Int.reduceLE, Int.reduceEq, Int.add_zero, Int.zero_add, Int.sub_zero, c_117, w_117_0, w_117_1, w_117_3, w_117_4, w_117_5, w_117_6, w_117_7, qw, qk, qr, show ¬ (1 : Int) = 0 by decide]
  · rw [if_neg (show ¬ ((21 ≤ a ∧ a ≤ 108) ∧ ((b = 0 ∧ c = 0) ∨ (a < b ∧ b ≤ 108 ∧ (c = 0 ∨ (b < c ∧ c ≤ 108))))) from hk)] at qk
    simp (maxSteps := 2000000) (disch := first | assumption | omega) only [aft_v, aft_n, aft_t, Nat.add_assoc, Nat.reduceAdd, if_true, if_false, not_true_eq_false, not_false_eq_true, Classical.not_not, Int.reduceAdd, Int.reduceSub, Int.reduceMul, Int.reduceNeg, Int.reduceLT, Int.reduceLE, Int.reduceEq, Int.add_zero, Int.zero_add, Int.sub_zero, c_117, w_117_0, w_117_1, w_117_3, w_117_4, w_117_7, qw, qk, show ¬ (1 : Int) = 0 by decide]
end HS
