/-! The reference takes tokens. -/
def okM (B : Int → Int) (n : Int) (m : Nat) (b : Int) (I J : Mm) : Prop := tkM m I J ∧ lxM B n m b J
def erM (m : Nat) (e : Int × Int) (I J : Mm) : Prop := (∀ p, ¬ p = m → J p = I p) ∧ (∀ i, ¬ i = 10 → ¬ i = 11 → ¬ i = 12 → ¬ i = 13 → ¬ i = 14 → ¬ i = 15 → J m i = I m i) ∧ J m 14 = e.1 ∧ J m 15 = e.2 ∧ (-5 ≤ e.1 ∧ e.1 < 0) ∧ (0 ≤ J m 10 ∧ J m 10 ≤ 600) ∧ (0 ≤ J m 12 ∧ J m 12 ≤ 3)
theorem okM.w {B : Int → Int} {n : Int} {m : Nat} {b : Int} {I J : Mm} (h : okM B n m b I J) : J m 14 = I m 14 := h.1.2 14 (by decide) (by decide) (by decide) (by decide)
theorem okM.trans {B : Int → Int} {n : Int} {m : Nat} {b c : Int} {I J K : Mm} (h : okM B n m b I J) (h' : okM B n m c J K) : okM B n m c I K := ⟨h.1.trans h'.1, h'.2⟩
theorem okM.er {B : Int → Int} {n : Int} {m : Nat} {b : Int} {e : Int × Int} {I J K : Mm} (h : okM B n m b I J) (h' : erM m e J K) : erM m e I K :=
  ⟨fun p hp => (h'.1 p hp).trans (h.1.1 p hp), fun i a b c d f k => (h'.2.1 i a b c d f k).trans (h.1.2 i a b c d), h'.2.2⟩
section MT
variable {g : Gm} {I : Mm} {m : Nat} {B : Int → Int} {n b : Int}
theorem tkK_3 (h : tkK B n b = 3) : tkS B n b < n ∧ B (tkS B n b) = 59 := by
  unfold tkK at h
  by_cases h0 : n ≤ tkS B n b
  · rw [if_pos h0] at h; exact absurd h (by decide)
  rw [if_neg h0] at h
  by_cases h1 : ltB B n (tkS B n b) = true
  · rw [if_pos h1] at h; exact absurd h (by decide)
  rw [if_neg h1] at h
  by_cases h2 : dgB B n (tkS B n b) = true
  · rw [if_pos h2] at h; exact absurd h (by decide)
  rw [if_neg h2] at h
  by_cases h3 : B (tkS B n b) = 59
  · exact ⟨by omega, h3⟩
  · rw [if_neg h3] at h; exact absurd h (by decide)
theorem tkK_4 (h : tkK B n b = 4) : ¬ B (tkS B n b) = 59 := by
  unfold tkK at h
  by_cases h0 : n ≤ tkS B n b
  · rw [if_pos h0] at h; exact absurd h (by decide)
  rw [if_neg h0] at h
  by_cases h1 : ltB B n (tkS B n b) = true
  · rw [if_pos h1] at h; exact absurd h (by decide)
  rw [if_neg h1] at h
  by_cases h2 : dgB B n (tkS B n b) = true
  · rw [if_pos h2] at h; exact absurd h (by decide)
  rw [if_neg h2] at h
  by_cases h3 : B (tkS B n b) = 59
  · rw [if_pos h3] at h; exact absurd h (by decide)
  · exact h3
theorem mkd_0 : mkd (tkK B n b) = 0 ↔ tkK B n b = 1 := by
  have := tkK_b (B := B) (n := n) (b := b)
  unfold mkd
  (repeat' split) <;> omega
theorem mkd_1 : mkd (tkK B n b) = 1 ↔ tkK B n b = 2 := by
  have := tkK_b (B := B) (n := n) (b := b)
  unfold mkd
  (repeat' split) <;> omega
theorem mkd_2 : mkd (tkK B n b) = 2 ↔ (tkK B n b = 3 ∨ tkK B n b = 4) := by
  have := tkK_b (B := B) (n := n) (b := b)
  unfold mkd
  (repeat' split) <;> omega
theorem mkd_3 : mkd (tkK B n b) = 3 ↔ tkK B n b = 0 := by
  have := tkK_b (B := B) (n := n) (b := b)
  unfold mkd
  (repeat' split) <;> omega
theorem mkd_b {k : Int} : 0 ≤ mkd k ∧ mkd k ≤ 3 := by
  unfold mkd
  (repeat' split) <;> omega
theorem lxM_b (h : lxM B n m b I) (hO : txB B n) : 0 ≤ tkS B n b ∧ tkS B n b ≤ tkE B n b ∧ tkE B n b ≤ n ∧ n ≤ 600 ∧ b ≤ tkS B n b ∧ (¬ tkK B n b = 0 → tkS B n b < tkE B n b) := by
  obtain ⟨_, _, _, _, _, _, h0, h1⟩ := h
  have a := tkS_b (B := B) h1
  have c := tkE_b (B := B) h1
  exact ⟨by omega, c.1, c.2.1, hO.1.2, a.1, c.2.2⟩
theorem s_mnext2 (hm : isM g m) (hO : txB B n) (h : lxM B n m b I) : ∃ J, cl 168 [.ref m] (mk g I) = some (.inl none, mk g J) ∧ okM B n m (tkE B n b) I J := by
  have hb := lxM_b h hO
  obtain ⟨h7, h9, h12, h10, h11, h13, b0, b1⟩ := h
  obtain ⟨J, j1, j2, j3⟩ := s_mnext (g := g) (I := I) hm hO h7 h9 (by rw [h11]; omega)
  rw [h11] at j3
  exact ⟨J, j1, j2, j3⟩
theorem s_fails {c : Int} (hm : isM g m) (hO : txB B n) (hc : -5 ≤ c ∧ c < 0) (hw : I m 14 = 0) (h : lxM B n m b I) : ∃ J, cl 172 [.ref m, .int (iI c)] (mk g I) = some (.inl none, mk g J) ∧ erM m (c, tkS B n b) I J := by
  obtain ⟨t_0, ⟨t_1, d_1, n_1⟩, ⟨t_2, d_2, n_2⟩, ⟨t_3, d_3, n_3⟩, ⟨t_4, d_4, n_4⟩, ⟨t_5, d_5, n_5⟩, ⟨t_6, n_6⟩, ⟨t_7, d_7, n_7⟩, ⟨t_8, d_8, n_8⟩, ⟨t_9, d_9, n_9⟩, ⟨t_10, d_10, n_10⟩, ⟨t_11, d_11, n_11⟩, ⟨t_12, d_12, n_12⟩, ⟨t_13, d_13, n_13⟩, ⟨t_14, d_14, n_14⟩, ⟨t_15, n_15⟩, ⟨t_16, n_16⟩, ⟨t_17, d_17, n_17⟩, ⟨t_18, d_18, n_18⟩⟩ := hm
  have hb := lxM_b h hO
  have hkb := mkd_b (k := tkK B n b)
  have h10 := h.2.2.2.1
  have h12 := h.2.2.1
  refine ⟨upd2 (upd2 I m 14 c) m 15 (tkS B n b), ?_, fun p hp => by funext i; rw [upd2_p hp, upd2_p hp], fun i a b c d e f => by rw [upd2_i f, upd2_i e], by rw [upd2_i (by decide), upd2_at], upd2_at, hc, by rw [upd2_i (by decide), upd2_i (by decide)]; omega, by rw [upd2_i (by decide), upd2_i (by decide)]; omega⟩
  have u : upd2 I m 14 c m 10 = tkS B n b := by rw [upd2_i (by decide)]; exact h10
  simp (maxSteps := 2000000) (disch := first | assumption | omega) only [aft_v, aft_n, aft_t, Nat.add_assoc, Nat.reduceAdd, if_true, if_false, not_true_eq_false, not_false_eq_true, Classical.not_not, Int.reduceAdd, Int.reduceSub, Int.reduceMul, Int.reduceNeg, Int.reduceLT, Int.reduceLE, Int.reduceEq, Int.add_zero, Int.zero_add, Int.sub_zero, c_172, w_172_0, w_172_1, w_172_2, hw, u]
theorem s_failsW {c w : Int} (hm : isM g m) (hw : I m 14 = w) (hw' : ¬ w = 0 ∧ -5 ≤ w ∧ w ≤ 0) : cl 172 [.ref m, .int (iI c)] (mk g I) = some (.inl none, mk g I) := by
  obtain ⟨t_0, ⟨t_1, d_1, n_1⟩, ⟨t_2, d_2, n_2⟩, ⟨t_3, d_3, n_3⟩, ⟨t_4, d_4, n_4⟩, ⟨t_5, d_5, n_5⟩, ⟨t_6, n_6⟩, ⟨t_7, d_7, n_7⟩, ⟨t_8, d_8, n_8⟩, ⟨t_9, d_9, n_9⟩, ⟨t_10, d_10, n_10⟩, ⟨t_11, d_11, n_11⟩, ⟨t_12, d_12, n_12⟩, ⟨t_13, d_13, n_13⟩, ⟨t_14, d_14, n_14⟩, ⟨t_15, n_15⟩, ⟨t_16, n_16⟩, ⟨t_17, d_17, n_17⟩, ⟨t_18, d_18, n_18⟩⟩ := hm
  have hn := hw'.1
  simp (maxSteps := 2000000) (disch := first | assumption | omega) only [aft_v, aft_n, aft_t, Nat.add_assoc, Nat.reduceAdd, if_true, if_false, not_true_eq_false, not_false_eq_true, Classical.not_not, Int.reduceAdd, Int.reduceSub, Int.reduceMul, Int.reduceNeg, Int.reduceLT, Int.reduceLE, Int.reduceEq, Int.add_zero, Int.zero_add, Int.sub_zero, c_172, w_172_0, w_172_1, w_172_2, hw, hn]
theorem s_misWordW {p : Nat} {w : Int} (hm : isM g m) (hw : I m 14 = w) (hw' : ¬ w = 0 ∧ -5 ≤ w ∧ w ≤ 0) : cl 171 [.ref m, .ref p] (mk g I) = some (.inl (some (.int (iI 0))), mk g I) := by
  obtain ⟨t_0, ⟨t_1, d_1, n_1⟩, ⟨t_2, d_2, n_2⟩, ⟨t_3, d_3, n_3⟩, ⟨t_4, d_4, n_4⟩, ⟨t_5, d_5, n_5⟩, ⟨t_6, n_6⟩, ⟨t_7, d_7, n_7⟩, ⟨t_8, d_8, n_8⟩, ⟨t_9, d_9, n_9⟩, ⟨t_10, d_10, n_10⟩, ⟨t_11, d_11, n_11⟩, ⟨t_12, d_12, n_12⟩, ⟨t_13, d_13, n_13⟩, ⟨t_14, d_14, n_14⟩, ⟨t_15, n_15⟩, ⟨t_16, n_16⟩, ⟨t_17, d_17, n_17⟩, ⟨t_18, d_18, n_18⟩⟩ := hm
  have hn := hw'.1
  simp (maxSteps := 2000000) (disch := first | assumption | omega) only [aft_v, aft_n, aft_t, Nat.add_assoc, Nat.reduceAdd, if_true, if_false, not_true_eq_false, not_false_eq_true, Classical.not_not, Int.reduceAdd, Int.reduceSub, Int.reduceMul, Int.reduceNeg, Int.reduceLT, Int.reduceLE, Int.reduceEq, Int.add_zero, Int.zero_add, Int.sub_zero, c_171, w_171_0, w_171_4, hw, hn]
theorem s_misWord {p : Nat} (hm : isM g m) (hO : txB B n) (h : lxM B n m b I) (hw0 : I m 14 = 0) (hp : isTs g I p) : cl 171 [.ref m, .ref p] (mk g I) = some (.inl (some (.int (iI (wdS B n b p)))), mk g I) := by
  have hb := lxM_b h hO
  obtain ⟨t_0, ⟨t_1, d_1, n_1⟩, ⟨t_2, d_2, n_2⟩, ⟨t_3, d_3, n_3⟩, ⟨t_4, d_4, n_4⟩, ⟨t_5, d_5, n_5⟩, ⟨t_6, n_6⟩, ⟨t_7, d_7, n_7⟩, ⟨t_8, d_8, n_8⟩, ⟨t_9, d_9, n_9⟩, ⟨t_10, d_10, n_10⟩, ⟨t_11, d_11, n_11⟩, ⟨t_12, d_12, n_12⟩, ⟨t_13, d_13, n_13⟩, ⟨t_14, d_14, n_14⟩, ⟨t_15, n_15⟩, ⟨t_16, n_16⟩, ⟨t_17, d_17, n_17⟩, ⟨t_18, d_18, n_18⟩⟩ := hm
  obtain ⟨hB, hn, h4, h5, h6, h7, b0, b1⟩ := h
  obtain ⟨p8, p9, pn, pv⟩ := hp
  have hkb := mkd_b (k := tkK B n b)
  have hl := txW_l p
  have hlen := s_strlen (g := g) (I := I) (p := p) p8 p9 (by omega)
  rw [pn] at hlen
  by_cases k1' : tkK B n b = 1
  · have k1 := mkd_0.mpr k1'
    by_cases k2 : tkE B n b - tkS B n b = (txW p).length
    · have key := loop_find (σ := Unit) (head := fun i _ => rn 171 6 [some (.ref m), some (.ref p), some (.int (iI i))] [] (mk g I)) (p := fun j => ¬ B (tkS B n b + j) = (txW p).getD j.toNat 0) (n := (txW p).length) (res := fun _ => some (.inl (some (.int (iI 0))), mk g I)) (re := some (.inl (some (.int (iI 1))), mk g I))
        (fun i _ i0 i1 hne => by
          have cb := txW_b p i.toNat
          have q2 := s_charAt (g := g) (I := I) (p := p) (i := i) p8 p9 i0 (by omega) (by omega) (by rw [pv i i0 i1]; exact cb)
          rw [pv i i0 i1] at q2
          have bb := hO.2 (tkS B n b + i) (by omega) (by omega)
          have e : I (m + 7) (tkS B n b + i) = B (tkS B n b + i) := by rw [hB]
          have eb : 0 ≤ I m 10 + i := by omega
          have eb2 : I m 10 + i < (gn g (m + 7) : Int) := by omega
          show rn _ _ _ _ _ = _
          simp (maxSteps := 2000000) (disch := first | assumption | omega) only [aft_v, aft_n, aft_t, Nat.add_assoc, Nat.reduceAdd, if_true, if_false, not_true_eq_false, not_false_eq_true, Classical.not_not, Int.reduceAdd, Int.reduceSub, Int.reduceMul, Int.reduceNeg, Int.reduceLT, Int.reduceLE, Int.reduceEq, Int.add_zero, Int.zero_add, Int.sub_zero, w_171_6, hlen]
          refine (w_171_7 (by first | omega | assumption) (by first | omega | assumption) (by first | omega | assumption) (by first | omega | assumption)).trans ?_
          refine (if_neg (by omega)).trans ?_
          refine (w_171_8 (by first | omega | assumption) (by first | omega | assumption) (by first | omega | assumption) (by first | omega | assumption) (by first | omega | assumption) (by first | omega | assumption)).trans ?_
          rw [h5, e, q2, aft_v]
          refine (w_171_9 (by first | omega | assumption) (by first | omega | assumption) (by first | omega | assumption) (by first | omega | assumption)).trans ?_
          refine (if_neg hne).trans ?_
          simp (maxSteps := 2000000) (disch := first | assumption | omega) only [aft_v, aft_n, aft_t, Nat.add_assoc, Nat.reduceAdd, if_true, if_false, not_true_eq_false, not_false_eq_true, Classical.not_not, Int.reduceAdd, Int.reduceSub, Int.reduceMul, Int.reduceNeg, Int.reduceLT, Int.reduceLE, Int.reduceEq, Int.add_zero, Int.zero_add, Int.sub_zero, w_171_10])
        (fun i _ i0 i1 hne => by
          have hne := Classical.not_not.mp hne
          have cb := txW_b p i.toNat
          have q2 := s_charAt (g := g) (I := I) (p := p) (i := i) p8 p9 i0 (by omega) (by omega) (by rw [pv i i0 i1]; exact cb)
          rw [pv i i0 i1] at q2
          have e : I (m + 7) (tkS B n b + i) = (txW p).getD i.toNat 0 := by rw [hB]; exact hne
          have eb : 0 ≤ I m 10 + i := by omega
          have eb2 : I m 10 + i < (gn g (m + 7) : Int) := by omega
          refine ⟨(), ?_⟩
          show rn _ _ _ _ _ = rn _ _ _ _ _
          refine (w_171_6 (by first | omega | assumption)).trans ?_
          rw [hlen, aft_v]
          refine (w_171_7 (by first | omega | assumption) (by first | omega | assumption) (by first | omega | assumption) (by first | omega | assumption)).trans ?_
          refine (if_neg (by omega)).trans ?_
          refine (w_171_8 (by first | omega | assumption) (by first | omega | assumption) (by first | omega | assumption) (by first | omega | assumption) (by first | omega | assumption) (by first | omega | assumption)).trans ?_
          rw [h5, e, q2, aft_v]
          refine (w_171_9 (by first | omega | assumption) (by first | omega | assumption) (by first | omega | assumption) (by first | omega | assumption)).trans ?_
          refine (if_pos rfl).trans ?_
          simp (maxSteps := 2000000) (disch := first | assumption | omega) only [aft_v, aft_n, aft_t, Nat.add_assoc, Nat.reduceAdd, if_true, if_false, not_true_eq_false, not_false_eq_true, Classical.not_not, Int.reduceAdd, Int.reduceSub, Int.reduceMul, Int.reduceNeg, Int.reduceLT, Int.reduceLE, Int.reduceEq, Int.add_zero, Int.zero_add, Int.sub_zero, w_171_11])
        (fun _ => by
          show rn _ _ _ _ _ = _
          refine (w_171_6 (by first | omega | assumption)).trans ?_
          rw [hlen, aft_v]
          refine (w_171_7 (by first | omega | assumption) (by first | omega | assumption) (by first | omega | assumption) (by first | omega | assumption)).trans ?_
          refine (if_pos (by omega)).trans ?_
          simp (maxSteps := 2000000) (disch := first | assumption | omega) only [aft_v, aft_n, aft_t, Nat.add_assoc, Nat.reduceAdd, if_true, if_false, not_true_eq_false, not_false_eq_true, Classical.not_not, Int.reduceAdd, Int.reduceSub, Int.reduceMul, Int.reduceNeg, Int.reduceLT, Int.reduceLE, Int.reduceEq, Int.add_zero, Int.zero_add, Int.sub_zero, w_171_12])
        (by omega) ()
      have key : rn 171 6 [some (.ref m), some (.ref p), some (.int (iI 0))] [] (mk g I) = _ := key
      have start : cl 171 [.ref m, .ref p] (mk g I) = rn 171 6 [some (.ref m), some (.ref p), some (.int (iI 0))] [] (mk g I) := by
        simp (maxSteps := 2000000) (disch := first | assumption | omega) only [aft_v, aft_n, aft_t, Nat.add_assoc, Nat.reduceAdd, if_true, if_false, not_true_eq_false, not_false_eq_true, Classical.not_not, Int.reduceAdd, Int.reduceSub, Int.reduceMul, Int.reduceNeg, Int.reduceLT, Int.reduceLE, Int.reduceEq, Int.add_zero, Int.zero_add, Int.sub_zero, c_171, w_171_0, w_171_1, w_171_2, hw0, h4, h5, h6, k1, hlen]
        rw [k2]
        simp (maxSteps := 2000000) (disch := first | assumption | omega) only [aft_v, aft_n, aft_t, Nat.add_assoc, Nat.reduceAdd, if_true, if_false, not_true_eq_false, not_false_eq_true, Classical.not_not, Int.reduceAdd, Int.reduceSub, Int.reduceMul, Int.reduceNeg, Int.reduceLT, Int.reduceLE, Int.reduceEq, Int.add_zero, Int.zero_add, Int.sub_zero, w_171_3, w_171_5]
      rw [start, key]
      rcases fnd_spec (p := fun j => ¬ B (tkS B n b + j) = (txW p).getD j.toNat 0) (n := (txW p).length) (by omega) with ⟨f1, f2⟩ | ⟨f0, f1, f2, f3⟩
      · rw [f1, if_pos (by decide), wdS_y ⟨k1', k2, fun j j0 j1 => Classical.not_not.mp (f2 j j0 j1)⟩]
      · rw [if_neg (by omega), wdS_n (fun z => f2 (z.2.2 _ f0 f1))]
    · rw [wdS_n (fun z => k2 z.2.1)]
      simp (maxSteps := 2000000) (disch := first | assumption | omega) only [aft_v, aft_n, aft_t, Nat.add_assoc, Nat.reduceAdd, if_true, if_false, not_true_eq_false, not_false_eq_true, Classical.not_not, Int.reduceAdd, Int.reduceSub, Int.reduceMul, Int.reduceNeg, Int.reduceLT, Int.reduceLE, Int.reduceEq, Int.add_zero, Int.zero_add, Int.sub_zero, c_171, w_171_0, w_171_1, w_171_2, hw0, h4, h5, h6, k1, hlen]
      simp (maxSteps := 2000000) (disch := first | assumption | omega) only [aft_v, aft_n, aft_t, Nat.add_assoc, Nat.reduceAdd, if_true, if_false, not_true_eq_false, not_false_eq_true, Classical.not_not, Int.reduceAdd, Int.reduceSub, Int.reduceMul, Int.reduceNeg, Int.reduceLT, Int.reduceLE, Int.reduceEq, Int.add_zero, Int.zero_add, Int.sub_zero, w_171_3, w_171_4, k2]
  · rw [wdS_n (fun z => k1' z.1)]
    have k1 : ¬ mkd (tkK B n b) = 0 := fun z => k1' (mkd_0.mp z)
    simp (maxSteps := 2000000) (disch := first | assumption | omega) only [aft_v, aft_n, aft_t, Nat.add_assoc, Nat.reduceAdd, if_true, if_false, not_true_eq_false, not_false_eq_true, Classical.not_not, Int.reduceAdd, Int.reduceSub, Int.reduceMul, Int.reduceNeg, Int.reduceLT, Int.reduceLE, Int.reduceEq, Int.add_zero, Int.zero_add, Int.sub_zero, c_171, w_171_0, w_171_1, w_171_4, hw0, h4, k1]
theorem s_must1 (hm : isM g m) (hO : txB B n) (h : lxM B n m b I) (hw0 : I m 14 = 0) : ∃ J, cl 173 [.ref m, .int (iI 1)] (mk g I) = some (.inl none, mk g J) ∧ okM B n m (tkE B n b) I J := by
  obtain ⟨J, j1, j2⟩ := s_mnext2 hm hO h
  refine ⟨J, ?_, j2⟩
  obtain ⟨t_0, ⟨t_1, d_1, n_1⟩, ⟨t_2, d_2, n_2⟩, ⟨t_3, d_3, n_3⟩, ⟨t_4, d_4, n_4⟩, ⟨t_5, d_5, n_5⟩, ⟨t_6, n_6⟩, ⟨t_7, d_7, n_7⟩, ⟨t_8, d_8, n_8⟩, ⟨t_9, d_9, n_9⟩, ⟨t_10, d_10, n_10⟩, ⟨t_11, d_11, n_11⟩, ⟨t_12, d_12, n_12⟩, ⟨t_13, d_13, n_13⟩, ⟨t_14, d_14, n_14⟩, ⟨t_15, n_15⟩, ⟨t_16, n_16⟩, ⟨t_17, d_17, n_17⟩, ⟨t_18, d_18, n_18⟩⟩ := hm
  simp (maxSteps := 2000000) (disch := first | assumption | omega) only [aft_v, aft_n, aft_t, Nat.add_assoc, Nat.reduceAdd, if_true, if_false, not_true_eq_false, not_false_eq_true, Classical.not_not, Int.reduceAdd, Int.reduceSub, Int.reduceMul, Int.reduceNeg, Int.reduceLT, Int.reduceLE, Int.reduceEq, Int.add_zero, Int.zero_add, Int.sub_zero, c_173, w_173_0, w_173_2, w_173_3, w_173_4, hw0, j1, show ¬ (1 : Int) = 0 by decide]
theorem s_must0 (hm : isM g m) (hO : txB B n) (h : lxM B n m b I) (hw0 : I m 14 = 0) : ∃ J, cl 173 [.ref m, .int (iI 0)] (mk g I) = some (.inl none, mk g J) ∧ erM m (-2, tkS B n b) I J := by
  obtain ⟨J, j1, j2⟩ := s_fails (B := B) (n := n) (b := b) (c := -2) hm hO (by decide) hw0 h
  refine ⟨J, ?_, j2⟩
  have w : J m 14 = -2 := j2.2.2.1
  obtain ⟨t_0, ⟨t_1, d_1, n_1⟩, ⟨t_2, d_2, n_2⟩, ⟨t_3, d_3, n_3⟩, ⟨t_4, d_4, n_4⟩, ⟨t_5, d_5, n_5⟩, ⟨t_6, n_6⟩, ⟨t_7, d_7, n_7⟩, ⟨t_8, d_8, n_8⟩, ⟨t_9, d_9, n_9⟩, ⟨t_10, d_10, n_10⟩, ⟨t_11, d_11, n_11⟩, ⟨t_12, d_12, n_12⟩, ⟨t_13, d_13, n_13⟩, ⟨t_14, d_14, n_14⟩, ⟨t_15, n_15⟩, ⟨t_16, n_16⟩, ⟨t_17, d_17, n_17⟩, ⟨t_18, d_18, n_18⟩⟩ := hm
  simp (maxSteps := 2000000) (disch := first | assumption | omega) only [aft_v, aft_n, aft_t, Nat.add_assoc, Nat.reduceAdd, if_true, if_false, not_true_eq_false, not_false_eq_true, Classical.not_not, Int.reduceAdd, Int.reduceSub, Int.reduceMul, Int.reduceNeg, Int.reduceLT, Int.reduceLE, Int.reduceEq, Int.add_zero, Int.zero_add, Int.sub_zero, c_173, w_173_0, w_173_1, w_173_2, w_173_4, hw0, j1, w, show ¬ (-2 : Int) = 0 by decide]
theorem s_mustW {r w : Int} (hm : isM g m) (hw : I m 14 = w) (hw' : ¬ w = 0 ∧ -5 ≤ w ∧ w ≤ 0) (hr : r = 0 ∨ r = 1) : cl 173 [.ref m, .int (iI r)] (mk g I) = some (.inl none, mk g I) := by
  have q := s_failsW (c := -2) hm hw hw'
  obtain ⟨t_0, ⟨t_1, d_1, n_1⟩, ⟨t_2, d_2, n_2⟩, ⟨t_3, d_3, n_3⟩, ⟨t_4, d_4, n_4⟩, ⟨t_5, d_5, n_5⟩, ⟨t_6, n_6⟩, ⟨t_7, d_7, n_7⟩, ⟨t_8, d_8, n_8⟩, ⟨t_9, d_9, n_9⟩, ⟨t_10, d_10, n_10⟩, ⟨t_11, d_11, n_11⟩, ⟨t_12, d_12, n_12⟩, ⟨t_13, d_13, n_13⟩, ⟨t_14, d_14, n_14⟩, ⟨t_15, n_15⟩, ⟨t_16, n_16⟩, ⟨t_17, d_17, n_17⟩, ⟨t_18, d_18, n_18⟩⟩ := hm
  have hn := hw'.1
  rcases hr with rfl | rfl
  · simp (maxSteps := 2000000) (disch := first | assumption | omega) only [aft_v, aft_n, aft_t, Nat.add_assoc, Nat.reduceAdd, if_true, if_false, not_true_eq_false, not_false_eq_true, Classical.not_not, Int.reduceAdd, Int.reduceSub, Int.reduceMul, Int.reduceNeg, Int.reduceLT, Int.reduceLE, Int.reduceEq, Int.add_zero, Int.zero_add, Int.sub_zero, c_173, w_173_0, w_173_1, w_173_2, w_173_4, hw, q, hn]
  · simp (maxSteps := 2000000) (disch := first | assumption | omega) only [aft_v, aft_n, aft_t, Nat.add_assoc, Nat.reduceAdd, if_true, if_false, not_true_eq_false, not_false_eq_true, Classical.not_not, Int.reduceAdd, Int.reduceSub, Int.reduceMul, Int.reduceNeg, Int.reduceLT, Int.reduceLE, Int.reduceEq, Int.add_zero, Int.zero_add, Int.sub_zero, c_173, w_173_0, w_173_2, w_173_4, hw, hn, show ¬ (1 : Int) = 0 by decide]
theorem s_mustEndW {w : Int} (hm : isM g m) (hO : txB B n) (h7 : I (m + 7) = B) (h9 : I m 9 = n) (h12 : 0 ≤ I m 12 ∧ I m 12 ≤ 3) (h10 : 0 ≤ I m 10 ∧ I m 10 ≤ 600) (hw : I m 14 = w) (hw' : ¬ w = 0 ∧ -5 ≤ w ∧ w ≤ 0) : cl 174 [.ref m] (mk g I) = some (.inl none, mk g I) := by
  have q1 := s_mustW (r := 1) hm hw hw' (Or.inr rfl)
  have q0 := s_mustW (r := 0) hm hw hw' (Or.inl rfl)
  have qs := s_see (g := g) (I := I) (k := I m 10) hm hO h7 h9 h10.1 h10.2
  have sb : -1 ≤ (if n ≤ I m 10 then -1 else B (I m 10)) ∧ (if n ≤ I m 10 then -1 else B (I m 10)) ≤ 255 := by
    by_cases hk : n ≤ I m 10
    · rw [if_pos hk]; decide
    · rw [if_neg hk]
      have := hO.2 (I m 10) h10.1 (by omega)
      omega
  obtain ⟨v, hv⟩ : ∃ v, v = (if n ≤ I m 10 then -1 else B (I m 10)) := ⟨_, rfl⟩
  rw [← hv] at qs sb
  obtain ⟨t_0, ⟨t_1, d_1, n_1⟩, ⟨t_2, d_2, n_2⟩, ⟨t_3, d_3, n_3⟩, ⟨t_4, d_4, n_4⟩, ⟨t_5, d_5, n_5⟩, ⟨t_6, n_6⟩, ⟨t_7, d_7, n_7⟩, ⟨t_8, d_8, n_8⟩, ⟨t_9, d_9, n_9⟩, ⟨t_10, d_10, n_10⟩, ⟨t_11, d_11, n_11⟩, ⟨t_12, d_12, n_12⟩, ⟨t_13, d_13, n_13⟩, ⟨t_14, d_14, n_14⟩, ⟨t_15, n_15⟩, ⟨t_16, n_16⟩, ⟨t_17, d_17, n_17⟩, ⟨t_18, d_18, n_18⟩⟩ := hm
  by_cases k2 : I m 12 = 2
  · by_cases k59 : v = 59
    · rw [k59] at qs
      simp (maxSteps := 2000000) (disch := first | assumption | omega) only [aft_v, aft_n, aft_t, Nat.add_assoc, Nat.reduceAdd, if_true, if_false, not_true_eq_false, not_false_eq_true, Classical.not_not, Int.reduceAdd, Int.reduceSub, Int.reduceMul, Int.reduceNeg, Int.reduceLT, Int.reduceLE, Int.reduceEq, Int.add_zero, Int.zero_add, Int.sub_zero, c_174, w_174_0, w_174_1, w_174_2, w_174_3, w_174_5, w_174_6, k2, qs, q1]
    · simp (maxSteps := 2000000) (disch := first | assumption | omega) only [aft_v, aft_n, aft_t, Nat.add_assoc, Nat.reduceAdd, if_true, if_false, not_true_eq_false, not_false_eq_true, Classical.not_not, Int.reduceAdd, Int.reduceSub, Int.reduceMul, Int.reduceNeg, Int.reduceLT, Int.reduceLE, Int.reduceEq, Int.add_zero, Int.zero_add, Int.sub_zero, c_174, w_174_0, w_174_1, w_174_2, w_174_4, w_174_5, w_174_6, k2, qs, k59, q0]
  · simp (maxSteps := 2000000) (disch := first | assumption | omega) only [aft_v, aft_n, aft_t, Nat.add_assoc, Nat.reduceAdd, if_true, if_false, not_true_eq_false, not_false_eq_true, Classical.not_not, Int.reduceAdd, Int.reduceSub, Int.reduceMul, Int.reduceNeg, Int.reduceLT, Int.reduceLE, Int.reduceEq, Int.add_zero, Int.zero_add, Int.sub_zero, c_174, w_174_0, w_174_4, w_174_5, w_174_6, k2, q0]
theorem s_mustEnd (hm : isM g m) (hO : txB B n) (h : lxM B n m b I) (hw0 : I m 14 = 0) :
    (∃ e J, gSe B n b = .inl e ∧ cl 174 [.ref m] (mk g I) = some (.inl none, mk g J) ∧ erM m e I J) ∨ ∃ b' J, gSe B n b = .inr b' ∧ cl 174 [.ref m] (mk g I) = some (.inl none, mk g J) ∧ okM B n m b' I J := by
  have hb := lxM_b h hO
  have hkb := mkd_b (k := tkK B n b)
  have h12 := h.2.2.1
  have h10 := h.2.2.2.1
  have qs := s_see (g := g) (I := I) (k := tkS B n b) hm hO h.1 h.2.1 (by omega) (by omega)
  by_cases k3 : tkK B n b = 3
  · obtain ⟨J, j1, j2⟩ := s_must1 hm hO h hw0
    obtain ⟨c1, c2⟩ := tkK_3 k3
    rw [if_neg (by omega), c2] at qs
    refine Or.inr ⟨tkE B n b, J, by unfold gSe; rw [if_pos k3], ?_, j2⟩
    have k2 : mkd (tkK B n b) = 2 := mkd_2.mpr (Or.inl k3)
    obtain ⟨t_0, ⟨t_1, d_1, n_1⟩, ⟨t_2, d_2, n_2⟩, ⟨t_3, d_3, n_3⟩, ⟨t_4, d_4, n_4⟩, ⟨t_5, d_5, n_5⟩, ⟨t_6, n_6⟩, ⟨t_7, d_7, n_7⟩, ⟨t_8, d_8, n_8⟩, ⟨t_9, d_9, n_9⟩, ⟨t_10, d_10, n_10⟩, ⟨t_11, d_11, n_11⟩, ⟨t_12, d_12, n_12⟩, ⟨t_13, d_13, n_13⟩, ⟨t_14, d_14, n_14⟩, ⟨t_15, n_15⟩, ⟨t_16, n_16⟩, ⟨t_17, d_17, n_17⟩, ⟨t_18, d_18, n_18⟩⟩ := hm
    simp (maxSteps := 2000000) (disch := first | assumption | omega) only [aft_v, aft_n, aft_t, Nat.add_assoc, Nat.reduceAdd, if_true, if_false, not_true_eq_false, not_false_eq_true, Classical.not_not, Int.reduceAdd, Int.reduceSub, Int.reduceMul, Int.reduceNeg, Int.reduceLT, Int.reduceLE, Int.reduceEq, Int.add_zero, Int.zero_add, Int.sub_zero, c_174, w_174_0, w_174_1, w_174_2, w_174_3, w_174_5, w_174_6, h12, h10, k2, qs, j1]
  · obtain ⟨J, j1, j2⟩ := s_must0 hm hO h hw0
    refine Or.inl ⟨_, J, by unfold gSe; rw [if_neg k3], ?_, j2⟩
    by_cases k2 : mkd (tkK B n b) = 2
    · have k4 : tkK B n b = 4 := (mkd_2.mp k2).resolve_left k3
      have c := tkK_4 k4
      have sb : -1 ≤ (if n ≤ tkS B n b then -1 else B (tkS B n b)) ∧ (if n ≤ tkS B n b then -1 else B (tkS B n b)) ≤ 255 ∧ ¬ (if n ≤ tkS B n b then -1 else B (tkS B n b)) = 59 := by
        by_cases hk : n ≤ tkS B n b
        · rw [if_pos hk]; decide
        · rw [if_neg hk]
          have := hO.2 (tkS B n b) (by omega) (by omega)
          omega
      obtain ⟨v, hv⟩ : ∃ v, v = (if n ≤ tkS B n b then -1 else B (tkS B n b)) := ⟨_, rfl⟩
      rw [← hv] at qs sb
      have s3 := sb.2.2
      obtain ⟨t_0, ⟨t_1, d_1, n_1⟩, ⟨t_2, d_2, n_2⟩, ⟨t_3, d_3, n_3⟩, ⟨t_4, d_4, n_4⟩, ⟨t_5, d_5, n_5⟩, ⟨t_6, n_6⟩, ⟨t_7, d_7, n_7⟩, ⟨t_8, d_8, n_8⟩, ⟨t_9, d_9, n_9⟩, ⟨t_10, d_10, n_10⟩, ⟨t_11, d_11, n_11⟩, ⟨t_12, d_12, n_12⟩, ⟨t_13, d_13, n_13⟩, ⟨t_14, d_14, n_14⟩, ⟨t_15, n_15⟩, ⟨t_16, n_16⟩, ⟨t_17, d_17, n_17⟩, ⟨t_18, d_18, n_18⟩⟩ := hm
      simp (maxSteps := 2000000) (disch := first | assumption | omega) only [aft_v, aft_n, aft_t, Nat.add_assoc, Nat.reduceAdd, if_true, if_false, not_true_eq_false, not_false_eq_true, Classical.not_not, Int.reduceAdd, Int.reduceSub, Int.reduceMul, Int.reduceNeg, Int.reduceLT, Int.reduceLE, Int.reduceEq, Int.add_zero, Int.zero_add, Int.sub_zero, c_174, w_174_0, w_174_1, w_174_2, w_174_4, w_174_5, w_174_6, h12, h10, k2, qs, s3, j1]
    · obtain ⟨t_0, ⟨t_1, d_1, n_1⟩, ⟨t_2, d_2, n_2⟩, ⟨t_3, d_3, n_3⟩, ⟨t_4, d_4, n_4⟩, ⟨t_5, d_5, n_5⟩, ⟨t_6, n_6⟩, ⟨t_7, d_7, n_7⟩, ⟨t_8, d_8, n_8⟩, ⟨t_9, d_9, n_9⟩, ⟨t_10, d_10, n_10⟩, ⟨t_11, d_11, n_11⟩, ⟨t_12, d_12, n_12⟩, ⟨t_13, d_13, n_13⟩, ⟨t_14, d_14, n_14⟩, ⟨t_15, n_15⟩, ⟨t_16, n_16⟩, ⟨t_17, d_17, n_17⟩, ⟨t_18, d_18, n_18⟩⟩ := hm
      simp (maxSteps := 2000000) (disch := first | assumption | omega) only [aft_v, aft_n, aft_t, Nat.add_assoc, Nat.reduceAdd, if_true, if_false, not_true_eq_false, not_false_eq_true, Classical.not_not, Int.reduceAdd, Int.reduceSub, Int.reduceMul, Int.reduceNeg, Int.reduceLT, Int.reduceLE, Int.reduceEq, Int.add_zero, Int.zero_add, Int.sub_zero, c_174, w_174_0, w_174_4, w_174_5, w_174_6, h12, k2, j1]
theorem s_takesW {lo hi fi w : Int} (hm : isM g m) (hw : I m 14 = w) (hw' : ¬ w = 0 ∧ -5 ≤ w ∧ w ≤ 0) : cl 175 [.ref m, .int (iI lo), .int (iI hi), .int (iI fi)] (mk g I) = some (.inl (some (.int (iI 0))), mk g I) := by
  obtain ⟨t_0, ⟨t_1, d_1, n_1⟩, ⟨t_2, d_2, n_2⟩, ⟨t_3, d_3, n_3⟩, ⟨t_4, d_4, n_4⟩, ⟨t_5, d_5, n_5⟩, ⟨t_6, n_6⟩, ⟨t_7, d_7, n_7⟩, ⟨t_8, d_8, n_8⟩, ⟨t_9, d_9, n_9⟩, ⟨t_10, d_10, n_10⟩, ⟨t_11, d_11, n_11⟩, ⟨t_12, d_12, n_12⟩, ⟨t_13, d_13, n_13⟩, ⟨t_14, d_14, n_14⟩, ⟨t_15, n_15⟩, ⟨t_16, n_16⟩, ⟨t_17, d_17, n_17⟩, ⟨t_18, d_18, n_18⟩⟩ := hm
  have hn := hw'.1
  simp (maxSteps := 2000000) (disch := first | assumption | omega) only [aft_v, aft_n, aft_t, Nat.add_assoc, Nat.reduceAdd, if_true, if_false, not_true_eq_false, not_false_eq_true, Classical.not_not, Int.reduceAdd, Int.reduceSub, Int.reduceMul, Int.reduceNeg, Int.reduceLT, Int.reduceLE, Int.reduceEq, Int.add_zero, Int.zero_add, Int.sub_zero, c_175, w_175_0, w_175_3, w_175_7, w_175_10, w_175_12, w_175_13, w_175_15, hw, hn]
theorem s_takes {lo hi fi : Int} (hm : isM g m) (hO : txB B n) (h : lxM B n m b I) (hw0 : I m 14 = 0) (hlo : 0 ≤ lo ∧ lo < 1000) (hhi : 0 ≤ hi ∧ hi < 1000) (hfi : 0 ≤ fi ∧ fi < 1000) :
    (∃ e J, gNu B n lo hi fi b = .inl e ∧ cl 175 [.ref m, .int (iI lo), .int (iI hi), .int (iI fi)] (mk g I) = some (.inl (some (.int (iI 0))), mk g J) ∧ erM m e I J) ∨ ∃ v b' J, gNu B n lo hi fi b = .inr (v, b') ∧ cl 175 [.ref m, .int (iI lo), .int (iI hi), .int (iI fi)] (mk g I) = some (.inl (some (.int (iI v))), mk g J) ∧ okM B n m b' I J := by
  have hb := lxM_b h hO
  have hkb := mkd_b (k := tkK B n b)
  have h12 := h.2.2.1
  have h10 := h.2.2.2.1
  have h13 := h.2.2.2.2.2.1
  have hm' := hm
  obtain ⟨t_0, ⟨t_1, d_1, n_1⟩, ⟨t_2, d_2, n_2⟩, ⟨t_3, d_3, n_3⟩, ⟨t_4, d_4, n_4⟩, ⟨t_5, d_5, n_5⟩, ⟨t_6, n_6⟩, ⟨t_7, d_7, n_7⟩, ⟨t_8, d_8, n_8⟩, ⟨t_9, d_9, n_9⟩, ⟨t_10, d_10, n_10⟩, ⟨t_11, d_11, n_11⟩, ⟨t_12, d_12, n_12⟩, ⟨t_13, d_13, n_13⟩, ⟨t_14, d_14, n_14⟩, ⟨t_15, n_15⟩, ⟨t_16, n_16⟩, ⟨t_17, d_17, n_17⟩, ⟨t_18, d_18, n_18⟩⟩ := hm
  obtain ⟨N, hN⟩ : ∃ N, N = tkN B n 1000 b := ⟨_, rfl⟩
  have hnb := tkN_2 (B := B) (n := n) (b := b)
  rw [← hN] at hnb
  by_cases k2' : tkK B n b = 2
  · have k2 : mkd (tkK B n b) = 1 := mkd_1.mpr k2'
    rw [if_pos k2', ← hN] at h13
    have q := s_isIn (g := g) (I := I) (a := N) (b := lo) (c := hi) (by omega) (by omega) (by omega)
    by_cases hw : lo ≤ N ∧ N ≤ hi
    · rw [if_pos hw] at q
      by_cases hf : fi ≤ N
      · obtain ⟨J, j1, j2⟩ := s_mnext2 hm' hO h
        refine Or.inr ⟨N, tkE B n b, J, by unfold gNu; rw [if_pos k2', ← hN, if_pos hw, if_pos hf], ?_, j2⟩
        simp (maxSteps := 2000000) (disch := first | assumption | omega) only [aft_v, aft_n, aft_t, Nat.add_assoc, Nat.reduceAdd, if_true, if_false, not_true_eq_false, not_false_eq_true, Classical.not_not, Int.reduceAdd, Int.reduceSub, Int.reduceMul, Int.reduceNeg, Int.reduceLT, Int.reduceLE, Int.reduceEq, Int.add_zero, Int.zero_add, Int.sub_zero, c_175, w_175_0, w_175_1, w_175_3, w_175_4, w_175_5, w_175_7, w_175_8, w_175_10, w_175_11, w_175_13, w_175_14, w_175_15, hw0, h12, k2, h13, q, hf, j1, show ¬ (1 : Int) = 0 by decide]
      · obtain ⟨J, j1, j2⟩ := s_fails (B := B) (n := n) (b := b) (c := -4) hm' hO (by decide) hw0 h
        have w : J m 14 = -4 := j2.2.2.1
        refine Or.inl ⟨_, J, by unfold gNu; rw [if_pos k2', ← hN, if_pos hw, if_neg hf], ?_, j2⟩
        simp (maxSteps := 2000000) (disch := first | assumption | omega) only [aft_v, aft_n, aft_t, Nat.add_assoc, Nat.reduceAdd, if_true, if_false, not_true_eq_false, not_false_eq_true, Classical.not_not, Int.reduceAdd, Int.reduceSub, Int.reduceMul, Int.reduceNeg, Int.reduceLT, Int.reduceLE, Int.reduceEq, Int.add_zero, Int.zero_add, Int.sub_zero, c_175, w_175_0, w_175_1, w_175_3, w_175_4, w_175_5, w_175_7, w_175_8, w_175_9, w_175_10, w_175_12, w_175_13, w_175_15, hw0, h12, k2, h13, q, hf, j1, w, show ¬ (1 : Int) = 0 by decide, show ¬ (-4 : Int) = 0 by decide]
    · rw [if_neg hw] at q
      obtain ⟨J, j1, j2⟩ := s_fails (B := B) (n := n) (b := b) (c := -3) hm' hO (by decide) hw0 h
      have w : J m 14 = -3 := j2.2.2.1
      refine Or.inl ⟨_, J, by unfold gNu; rw [if_pos k2', ← hN, if_neg hw], ?_, j2⟩
      simp (maxSteps := 2000000) (disch := first | assumption | omega) only [aft_v, aft_n, aft_t, Nat.add_assoc, Nat.reduceAdd, if_true, if_false, not_true_eq_false, not_false_eq_true, Classical.not_not, Int.reduceAdd, Int.reduceSub, Int.reduceMul, Int.reduceNeg, Int.reduceLT, Int.reduceLE, Int.reduceEq, Int.add_zero, Int.zero_add, Int.sub_zero, c_175, w_175_0, w_175_1, w_175_3, w_175_4, w_175_5, w_175_6, w_175_7, w_175_10, w_175_12, w_175_13, w_175_15, hw0, h12, k2, h13, q, j1, w, show ¬ (-3 : Int) = 0 by decide]
  · have k2 : ¬ mkd (tkK B n b) = 1 := fun z => k2' (mkd_1.mp z)
    obtain ⟨J, j1, j2⟩ := s_fails (B := B) (n := n) (b := b) (c := -2) hm' hO (by decide) hw0 h
    have w : J m 14 = -2 := j2.2.2.1
    refine Or.inl ⟨_, J, by unfold gNu; rw [if_neg k2'], ?_, j2⟩
    simp (maxSteps := 2000000) (disch := first | assumption | omega) only [aft_v, aft_n, aft_t, Nat.add_assoc, Nat.reduceAdd, if_true, if_false, not_true_eq_false, not_false_eq_true, Classical.not_not, Int.reduceAdd, Int.reduceSub, Int.reduceMul, Int.reduceNeg, Int.reduceLT, Int.reduceLE, Int.reduceEq, Int.add_zero, Int.zero_add, Int.sub_zero, c_175, w_175_0, w_175_1, w_175_2, w_175_3, w_175_7, w_175_10, w_175_12, w_175_13, w_175_15, hw0, h12, k2, j1, w, show ¬ (-2 : Int) = 0 by decide]
theorem s_starts (hm : isM g m) (hO : txB B n) (h7 : I (m + 7) = B) (h9 : I m 9 = n) : ∃ J, cl 169 [.ref m] (mk g I) = some (.inl none, mk g J) ∧ (∀ p, ¬ p = m → J p = I p) ∧ (∀ i, ¬ i = 7 → ¬ i = 10 → ¬ i = 11 → ¬ i = 12 → ¬ i = 13 → ¬ i = 14 → J m i = I m i) ∧ J m 7 = 0 ∧ J m 14 = 0 ∧ lxM B n m 0 J := by
  obtain ⟨K, hK⟩ : ∃ K, K = upd2 (upd2 (upd2 I m 7 0) m 11 0) m 14 0 := ⟨_, rfl⟩
  have k11 : K m 11 = 0 := by rw [hK, upd2_i (by decide), upd2_at]
  obtain ⟨J, j1, j2, j3⟩ := s_mnext (g := g) (I := K) (B := B) (n := n) hm hO (by rw [hK]; funext i; rw [upd2_p (by omega), upd2_p (by omega), upd2_p (by omega), h7]) (by rw [hK, upd2_i (by decide), upd2_i (by decide), upd2_i (by decide), h9]) (by rw [k11]; exact ⟨by decide, hO.1.1⟩)
  rw [k11] at j3
  refine ⟨J, ?_, fun p hp => by rw [j2.1 p hp, hK]; funext i; rw [upd2_p hp, upd2_p hp, upd2_p hp], fun i a b c d e f => by rw [j2.2 i b c d e, hK, upd2_i f, upd2_i c, upd2_i a], by rw [j2.2 7 (by decide) (by decide) (by decide) (by decide), hK, upd2_i (by decide), upd2_i (by decide), upd2_at], by rw [j2.2 14 (by decide) (by decide) (by decide) (by decide), hK, upd2_at], j3⟩
  obtain ⟨t_0, ⟨t_1, d_1, n_1⟩, ⟨t_2, d_2, n_2⟩, ⟨t_3, d_3, n_3⟩, ⟨t_4, d_4, n_4⟩, ⟨t_5, d_5, n_5⟩, ⟨t_6, n_6⟩, ⟨t_7, d_7, n_7⟩, ⟨t_8, d_8, n_8⟩, ⟨t_9, d_9, n_9⟩, ⟨t_10, d_10, n_10⟩, ⟨t_11, d_11, n_11⟩, ⟨t_12, d_12, n_12⟩, ⟨t_13, d_13, n_13⟩, ⟨t_14, d_14, n_14⟩, ⟨t_15, n_15⟩, ⟨t_16, n_16⟩, ⟨t_17, d_17, n_17⟩, ⟨t_18, d_18, n_18⟩⟩ := hm
  simp (maxSteps := 2000000) (disch := first | assumption | omega) only [aft_v, aft_n, aft_t, Nat.add_assoc, Nat.reduceAdd, if_true, if_false, not_true_eq_false, not_false_eq_true, Classical.not_not, Int.reduceAdd, Int.reduceSub, Int.reduceMul, Int.reduceNeg, Int.reduceLT, Int.reduceLE, Int.reduceEq, Int.add_zero, Int.zero_add, Int.sub_zero, c_169, w_169_0, w_169_1, ← hK, j1]
theorem s_ends0 (hm : isM g m) (hw : I m 14 = 0) : cl 170 [.ref m] (mk g I) = some (.inl none, mk g (upd2 (upd2 I m 16 (-1)) m 9 0)) := by
  obtain ⟨t_0, ⟨t_1, d_1, n_1⟩, ⟨t_2, d_2, n_2⟩, ⟨t_3, d_3, n_3⟩, ⟨t_4, d_4, n_4⟩, ⟨t_5, d_5, n_5⟩, ⟨t_6, n_6⟩, ⟨t_7, d_7, n_7⟩, ⟨t_8, d_8, n_8⟩, ⟨t_9, d_9, n_9⟩, ⟨t_10, d_10, n_10⟩, ⟨t_11, d_11, n_11⟩, ⟨t_12, d_12, n_12⟩, ⟨t_13, d_13, n_13⟩, ⟨t_14, d_14, n_14⟩, ⟨t_15, n_15⟩, ⟨t_16, n_16⟩, ⟨t_17, d_17, n_17⟩, ⟨t_18, d_18, n_18⟩⟩ := hm
  simp (maxSteps := 2000000) (disch := first | assumption | omega) only [aft_v, aft_n, aft_t, Nat.add_assoc, Nat.reduceAdd, if_true, if_false, not_true_eq_false, not_false_eq_true, Classical.not_not, Int.reduceAdd, Int.reduceSub, Int.reduceMul, Int.reduceNeg, Int.reduceLT, Int.reduceLE, Int.reduceEq, Int.add_zero, Int.zero_add, Int.sub_zero, c_170, w_170_0, w_170_1, w_170_2, w_170_3, hw]
theorem s_endsW {w : Int} (hm : isM g m) (hw : I m 14 = w) (hw' : ¬ w = 0 ∧ -5 ≤ w ∧ w ≤ 0) : cl 170 [.ref m] (mk g I) = some (.inl none, mk g (upd2 (upd2 I m 16 (I m 15)) m 9 0)) := by
  obtain ⟨t_0, ⟨t_1, d_1, n_1⟩, ⟨t_2, d_2, n_2⟩, ⟨t_3, d_3, n_3⟩, ⟨t_4, d_4, n_4⟩, ⟨t_5, d_5, n_5⟩, ⟨t_6, n_6⟩, ⟨t_7, d_7, n_7⟩, ⟨t_8, d_8, n_8⟩, ⟨t_9, d_9, n_9⟩, ⟨t_10, d_10, n_10⟩, ⟨t_11, d_11, n_11⟩, ⟨t_12, d_12, n_12⟩, ⟨t_13, d_13, n_13⟩, ⟨t_14, d_14, n_14⟩, ⟨t_15, n_15⟩, ⟨t_16, n_16⟩, ⟨t_17, d_17, n_17⟩, ⟨t_18, d_18, n_18⟩⟩ := hm
  have hn := hw'.1
  simp (maxSteps := 2000000) (disch := first | assumption | omega) only [aft_v, aft_n, aft_t, Nat.add_assoc, Nat.reduceAdd, if_true, if_false, not_true_eq_false, not_false_eq_true, Classical.not_not, Int.reduceAdd, Int.reduceSub, Int.reduceMul, Int.reduceNeg, Int.reduceLT, Int.reduceLE, Int.reduceEq, Int.add_zero, Int.zero_add, Int.sub_zero, c_170, w_170_0, w_170_1, w_170_2, w_170_3, hw, hn]
theorem s_nameOf {w : Int} (h : 0 ≤ w ∧ w < 10) : cl 176 [.int (iI w)] (mk g I) = some (.inl (some (.ref (11 + w.toNat))), mk g I) := by
  rcases (show w = 0 ∨ w = 1 ∨ w = 2 ∨ w = 3 ∨ w = 4 ∨ w = 5 ∨ w = 6 ∨ w = 7 ∨ w = 8 ∨ w = 9 by omega) with rfl | rfl | rfl | rfl | rfl | rfl | rfl | rfl | rfl | rfl <;> simp (maxSteps := 2000000) (disch := first | assumption | omega) only [aft_v, aft_n, aft_t, Nat.add_assoc, Nat.reduceAdd, if_true, if_false, not_true_eq_false, not_false_eq_true, Classical.not_not, Int.reduceAdd, Int.reduceSub, Int.reduceMul, Int.reduceNeg, Int.reduceLT, Int.reduceLE, Int.reduceEq, Int.add_zero, Int.zero_add, Int.sub_zero, c_176, w_176_0, w_176_1, w_176_2, w_176_3, w_176_4, w_176_5, w_176_6, w_176_7, w_176_8, w_176_9, w_176_10] <;> rfl
end MT
