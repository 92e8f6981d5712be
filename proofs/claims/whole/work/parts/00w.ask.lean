/-! Plan: what it is asked. -/
def MW : Int := 1000000000000000
section ASK
variable {g : Gm} {I : Mm} {q l : Nat} {P : PT}
theorem Sol.cn {e : Int} (h : Sol P l I) (e0 : 0 ≤ e) (e1 : e < pE P) : I (l + 2) e = cntS P e := (h.2.2.2.1 e e0 e1).1
theorem Sol.fg {e c k : Int} (h : Sol P l I) (e0 : 0 ≤ e) (e1 : e < pE P) (c0 : 0 ≤ c) (c1 : c < cntS P e) (k0 : 0 ≤ k) (k1 : k < pSz P e) : I (l + 4) ((e * 10 + c) * 3 + k) = fgP P e c k := ((h.2.2.2.1 e e0 e1).2 c c0 c1).1 k k0 k1
theorem Sol.ow {e c : Int} (h : Sol P l I) (e0 : 0 ≤ e) (e1 : e < pE P) (c0 : 0 ≤ c) (c1 : c < cntS P e) : I (l + 6) (e * 10 + c) = ownS P 0 e c := ((h.2.2.2.1 e e0 e1).2 c c0 c1).2
theorem Sol.st {e c n : Int} (h : Sol P l I) (e0 : 0 ≤ e) (e1 : e + 1 < pE P) (c0 : 0 ≤ c) (c1 : c < cntS P e) (n0 : 0 ≤ n) (n1 : n < cntS P (e + 1)) : I (l + 8) ((e * 10 + c) * 10 + n) = stepS P e c n := h.2.2.2.2.1 e e0 e1 c n c0 c1 n0 n1
theorem Sol.ah {e c : Int} (h : Sol P l I) (e0 : 0 ≤ e) (e1 : e < pE P) (c0 : 0 ≤ c) (c1 : c < cntS P e) : I (l + 10) (e * 10 + c) = ahS P 0 e c := h.2.2.2.2.2.1 e e0 e1 c c0 c1
theorem Sol.bh {e c : Int} (h : Sol P l I) (e0 : 0 ≤ e) (e1 : e < pE P) (c0 : 0 ≤ c) (c1 : c < cntS P e) : I (l + 12) (e * 10 + c) = bhS P e c := h.2.2.2.2.2.2.1 e e0 e1 c c0 c1
theorem Sol.fs {e : Int} (h : Sol P l I) (hn : ¬ lsS P 0 = -1) (e0 : 0 ≤ e) (e1 : e < pE P) : I (l + 14) e = fsS P e := h.2.2.2.2.2.2.2.1 hn e e0 e1
theorem fsS_b (hbd : bdP P) (hn : ¬ lsS P 0 = -1) {e : Int} (e0 : 0 ≤ e) (e1 : e < pE P) : 0 ≤ fsS P e ∧ fsS P e < cntS P e := by
  have := (fs_ok hbd hn e.toNat (by omega)).1
  rw [show ((e.toNat : Nat) : Int) = e by omega] at this
  exact this
theorem st_b (hbd : bdP P) {e c n : Int} (e0 : 0 ≤ e) (e1 : e + 1 < pE P) : -1 ≤ stepS P e c n ∧ stepS P e c n ≤ 21384 := hbd.2.2.2.2.1 e _ c n e0 e1 (hbd.2.2.2.2.2 e e0 (by omega)).1
theorem s_firstFinger {e k : Int} (hl : isPl g l) (hbd : bdP P) (hS : Sol P l I) (hn : ¬ lsS P 0 = -1) (he : 0 ≤ e ∧ e < pE P) (hk : 0 ≤ k ∧ k < pSz P e) :
    cl 47 [.ref l, .int (iI e), .int (iI k)] (mk g I) = some (.inl (some (.int (iI (fgP P e (fsS P e) k)))), mk g I) := by
  obtain ⟨l_0, ⟨l_1, m_1, l_2⟩, ⟨l_3, m_3, l_4⟩, ⟨l_5, m_5, l_6⟩, ⟨l_7, m_7, l_8⟩, ⟨l_9, m_9, l_10⟩, ⟨l_11, m_11, l_12⟩, ⟨l_13, m_13, l_14⟩, ⟨l_15, m_15, l_16⟩, ⟨l_17, m_17, l_18⟩, l_19, l_20⟩ := hl
  have b1 := hbd.2.1
  have n0 := hbd.2.2.1 e he.1 he.2
  have fb := fsS_b hbd hn he.1 he.2
  have h1 := hS.fs hn he.1 he.2
  have h2 := hS.fg he.1 he.2 fb.1 fb.2 hk.1 hk.2
  simp (maxSteps := 2000000) (disch := first | assumption | omega) only [aft_v, aft_n, aft_t, Nat.add_assoc, Nat.reduceAdd, if_true, if_false, not_true_eq_false, not_false_eq_true, Classical.not_not, Int.reduceAdd, Int.reduceSub, Int.reduceMul, Int.reduceNeg, Int.reduceLT, Int.reduceLE, Int.reduceEq, Int.add_zero, Int.zero_add, Int.sub_zero, c_47, w_47_0, w_47_1, w_47_2, w_47_3, s_row_get, h1, h2, s_baseOf]
theorem s_firstEventCost {e : Int} (hl : isPl g l) (hbd : bdP P) (hS : Sol P l I) (hn : ¬ lsS P 0 = -1) (he : 0 ≤ e ∧ e < pE P) :
    cl 48 [.ref l, .int (iI e)] (mk g I) = some (.inl (some (.int (iI (ownS P 0 e (fsS P e))))), mk g I) := by
  obtain ⟨l_0, ⟨l_1, m_1, l_2⟩, ⟨l_3, m_3, l_4⟩, ⟨l_5, m_5, l_6⟩, ⟨l_7, m_7, l_8⟩, ⟨l_9, m_9, l_10⟩, ⟨l_11, m_11, l_12⟩, ⟨l_13, m_13, l_14⟩, ⟨l_15, m_15, l_16⟩, ⟨l_17, m_17, l_18⟩, l_19, l_20⟩ := hl
  have b1 := hbd.2.1
  have n0 := hbd.2.2.1 e he.1 he.2
  have fb := fsS_b hbd hn he.1 he.2
  have h1 := hS.fs hn he.1 he.2
  have h2 := hS.ow he.1 he.2 fb.1 fb.2
  simp (maxSteps := 2000000) (disch := first | assumption | omega) only [aft_v, aft_n, aft_t, Nat.add_assoc, Nat.reduceAdd, if_true, if_false, not_true_eq_false, not_false_eq_true, Classical.not_not, Int.reduceAdd, Int.reduceSub, Int.reduceMul, Int.reduceNeg, Int.reduceLT, Int.reduceLE, Int.reduceEq, Int.add_zero, Int.zero_add, Int.sub_zero, c_48, w_48_0, w_48_1, w_48_2, w_48_3, s_row_get, h1, h2, s_placeOfChoice]
theorem s_firstPassageCost {e : Int} (hl : isPl g l) (hbd : bdP P) (hS : Sol P l I) (hn : ¬ lsS P 0 = -1) (he : 0 ≤ e ∧ e + 1 < pE P) :
    cl 49 [.ref l, .int (iI e)] (mk g I) = some (.inl (some (.int (iI (stepS P e (fsS P e) (fsS P (e + 1)))))), mk g I) := by
  obtain ⟨l_0, ⟨l_1, m_1, l_2⟩, ⟨l_3, m_3, l_4⟩, ⟨l_5, m_5, l_6⟩, ⟨l_7, m_7, l_8⟩, ⟨l_9, m_9, l_10⟩, ⟨l_11, m_11, l_12⟩, ⟨l_13, m_13, l_14⟩, ⟨l_15, m_15, l_16⟩, ⟨l_17, m_17, l_18⟩, l_19, l_20⟩ := hl
  have b1 := hbd.2.1
  have n0 := hbd.2.2.1 e he.1 (by omega)
  have n1 := hbd.2.2.1 (e + 1) (by omega) (by omega)
  have fb := fsS_b hbd hn he.1 (by omega)
  have fb' := fsS_b hbd hn (e := e + 1) (by omega) (by omega)
  have h1 := hS.fs hn he.1 (by omega)
  have h1' := hS.fs hn (e := e + 1) (by omega) (by omega)
  have h2 := hS.st he.1 he.2 fb.1 fb.2 fb'.1 fb'.2
  simp (maxSteps := 2000000) (disch := first | assumption | omega) only [aft_v, aft_n, aft_t, Nat.add_assoc, Nat.reduceAdd, if_true, if_false, not_true_eq_false, not_false_eq_true, Classical.not_not, Int.reduceAdd, Int.reduceSub, Int.reduceMul, Int.reduceNeg, Int.reduceLT, Int.reduceLE, Int.reduceEq, Int.add_zero, Int.zero_add, Int.sub_zero, c_49, w_49_0, w_49_1, w_49_2, w_49_3, w_49_4, s_row_get, h1, h1', h2, s_placeOfStep]
theorem s_firstCrossings {e : Int} (hp : isPc g q) (hl : isPl g l) (hG : gd I q) (hP : P = pv I q) (hS : Sol P l I) (hn : ¬ lsS P 0 = -1) (he : 0 ≤ e ∧ e + 1 < pE P) :
    cl 50 [.ref l, .ref q, .int (iI e)] (mk g I) = some (.inl (some (.int (iI (crossS P e (fgP P e (fsS P e)) (fgP P (e + 1) (fsS P (e + 1))))))), mk g I) := by
  have hbd := gd_bd hG
  rw [← hP] at hbd
  have hp0 := hp.1
  obtain ⟨l_0, ⟨l_1, m_1, l_2⟩, ⟨l_3, m_3, l_4⟩, ⟨l_5, m_5, l_6⟩, ⟨l_7, m_7, l_8⟩, ⟨l_9, m_9, l_10⟩, ⟨l_11, m_11, l_12⟩, ⟨l_13, m_13, l_14⟩, ⟨l_15, m_15, l_16⟩, ⟨l_17, m_17, l_18⟩, l_19, l_20⟩ := hl
  have b1 := hbd.2.1
  have n0 := hbd.2.2.1 e he.1 (by omega)
  have n1 := hbd.2.2.1 (e + 1) (by omega) (by omega)
  have z0 : pSz P e = I (q + 2) e := by rw [hP]; rfl
  have z1 : pSz P (e + 1) = I (q + 2) (e + 1) := by rw [hP]; rfl
  have fb := fsS_b hbd hn he.1 (by omega)
  have fb' := fsS_b hbd hn (e := e + 1) (by omega) (by omega)
  have h1 := hS.fs hn he.1 (by omega)
  have h1' := hS.fs hn (e := e + 1) (by omega) (by omega)
  have hF := fun k (k0 : 0 ≤ k) (k1 : k < pSz P e) => hS.fg he.1 (by omega) fb.1 fb.2 k0 k1
  have hF' := fun k (k0 : 0 ≤ k) (k1 : k < pSz P (e + 1)) => hS.fg (e := e + 1) (by omega) (by omega) fb'.1 fb'.2 k0 k1
  have hx := s_crossings (g := g) (I := I) (e := e) (r := (e * 10 + fsS P e) * 3) (r' := ((e + 1) * 10 + fsS P (e + 1)) * 3) (R := l + 3) hp hG.1 (by omega) l_3 (by omega) (by omega) (by omega) (by omega) (fun k k0 k1 => by rw [hF k k0 (by omega)]; exact fgP_b n0.1) (fun k k0 k1 => by rw [hF' k k0 (by omega)]; exact fgP_b n1.1)
  rw [← hP, cross_F (G := fgP P e (fsS P e)) (G' := fgP P (e + 1) (fsS P (e + 1))) n0.1.1 n1.1.1 hF hF'] at hx
  simp (maxSteps := 2000000) (disch := first | assumption | omega) only [aft_v, aft_n, aft_t, Nat.add_assoc, Nat.reduceAdd, if_true, if_false, not_true_eq_false, not_false_eq_true, Classical.not_not, Int.reduceAdd, Int.reduceSub, Int.reduceMul, Int.reduceNeg, Int.reduceLT, Int.reduceLE, Int.reduceEq, Int.add_zero, Int.zero_add, Int.sub_zero, c_50, w_50_0, w_50_1, w_50_2, w_50_3, w_50_4, w_50_5, s_row_get, h1, h1', s_baseOf, hx]
/-- whether an event is reached -/
def rchS (P : PT) (e : Int) : Prop := ∃ c, 0 ≤ c ∧ c < cntS P e ∧ ¬ ahS P 0 e c = -1
theorem s_isReached {e : Int} (hl : isPl g l) (hbd : bdP P) (hS : Sol P l I) (he : 0 ≤ e ∧ e < pE P) :
    cl 57 [.ref l, .int (iI e)] (mk g I) = some (.inl (some (.int (iI (@ite _ (rchS P e) (Classical.propDecidable _) 1 0)))), mk g I) := by
  have hl' := hl
  obtain ⟨l_0, ⟨l_1, m_1, l_2⟩, ⟨l_3, m_3, l_4⟩, ⟨l_5, m_5, l_6⟩, ⟨l_7, m_7, l_8⟩, ⟨l_9, m_9, l_10⟩, ⟨l_11, m_11, l_12⟩, ⟨l_13, m_13, l_14⟩, ⟨l_15, m_15, l_16⟩, ⟨l_17, m_17, l_18⟩, l_19, l_20⟩ := hl
  have b1 := hbd.2.1
  have n0 := hbd.2.2.1 e he.1 he.2
  have hcn := hS.cn he.1 he.2
  have key := loop_find (σ := Unit) (head := fun i s => rn 57 1 [some (.ref l), some (.int (iI e)), some (.int (iI i))] [] (mk g I)) (p := fun c => ¬ ahS P 0 e c = -1) (n := cntS P e) (res := fun i => some (.inl (some (.int (iI 1))), mk g I)) (re := some (.inl (some (.int (iI 0))), mk g I)) (by
    intro c s c0 c1 hp
    have hA := hS.ah he.1 he.2 c0 c1
    have bA := ahS_b hbd (b := 0) (c := c) he.1 he.2
    show rn _ _ _ _ _ = _
    refine (w_57_1 (by first | assumption | omega) (by first | assumption | omega)).trans ?_
    simp (maxSteps := 2000000) (disch := first | assumption | omega) only [aft_v, aft_n, aft_t, Nat.add_assoc, Nat.reduceAdd, if_true, if_false, not_true_eq_false, not_false_eq_true, Classical.not_not, Int.reduceAdd, Int.reduceSub, Int.reduceMul, Int.reduceNeg, Int.reduceLT, Int.reduceLE, Int.reduceEq, Int.add_zero, Int.zero_add, Int.sub_zero, w_57_2, w_57_3, w_57_4, w_57_5, w_57_6, s_row_get, hcn, if_neg (show ¬ cntS P e ≤ c by omega), s_placeOfChoice, hA, hp]) (by
    intro c s c0 c1 hp
    have hA := hS.ah he.1 he.2 c0 c1
    have hp : ahS P 0 e c = -1 := Classical.not_not.mp hp
    refine ⟨(), ?_⟩
    show rn _ _ _ _ _ = rn _ _ _ _ _
    refine (w_57_1 (by first | assumption | omega) (by first | assumption | omega)).trans ?_
    simp (maxSteps := 2000000) (disch := first | assumption | omega) only [aft_v, aft_n, aft_t, Nat.add_assoc, Nat.reduceAdd, if_true, if_false, not_true_eq_false, not_false_eq_true, Classical.not_not, Int.reduceAdd, Int.reduceSub, Int.reduceMul, Int.reduceNeg, Int.reduceLT, Int.reduceLE, Int.reduceEq, Int.add_zero, Int.zero_add, Int.sub_zero, w_57_2, w_57_3, w_57_4, w_57_5, w_57_7, s_row_get, hcn, if_neg (show ¬ cntS P e ≤ c by omega), s_placeOfChoice, hA, hp]) (by
    intro s
    show rn _ _ _ _ _ = _
    refine (w_57_1 (by first | assumption | omega) (by first | assumption | omega)).trans ?_
    simp (maxSteps := 2000000) (disch := first | assumption | omega) only [aft_v, aft_n, aft_t, Nat.add_assoc, Nat.reduceAdd, if_true, if_false, not_true_eq_false, not_false_eq_true, Classical.not_not, Int.reduceAdd, Int.reduceSub, Int.reduceMul, Int.reduceNeg, Int.reduceLT, Int.reduceLE, Int.reduceEq, Int.add_zero, Int.zero_add, Int.sub_zero, w_57_2, w_57_8, s_row_get, hcn, if_pos (Int.le_refl (cntS P e))]) n0.2.1 ()
  have key : rn 57 1 [some (.ref l), some (.int (iI e)), some (.int (iI 0))] [] (mk g I) = _ := key
  refine c_57.trans ?_
  refine (w_57_0).trans ?_
  refine key.trans ?_
  rcases fnd_spec (p := fun c => ¬ ahS P 0 e c = -1) n0.2.1 with ⟨h1, h2⟩ | ⟨h1, h2, h3, _⟩
  · rw [h1, if_pos (by decide), if_neg]
    rintro ⟨c, c0, c1, hc⟩
    exact h2 c c0 c1 hc
  · rw [if_neg (by omega), if_pos ⟨_, h1, h2, h3⟩]
theorem s_eventsReached (hl : isPl g l) (hbd : bdP P) (hS : Sol P l I) :
    cl 56 [.ref l] (mk g I) = some (.inl (some (.int (iI (if fnd (fun e => ¬ rchS P e) (pE P) < 0 then pE P else fnd (fun e => ¬ rchS P e) (pE P))))), mk g I) := by
  have hl' := hl
  obtain ⟨l_0, ⟨l_1, m_1, l_2⟩, ⟨l_3, m_3, l_4⟩, ⟨l_5, m_5, l_6⟩, ⟨l_7, m_7, l_8⟩, ⟨l_9, m_9, l_10⟩, ⟨l_11, m_11, l_12⟩, ⟨l_13, m_13, l_14⟩, ⟨l_15, m_15, l_16⟩, ⟨l_17, m_17, l_18⟩, l_19, l_20⟩ := hl
  have b1 := hbd.2.1
  have hJe := hS.2.1
  have key := loop_find (σ := Unit) (head := fun i s => rn 56 1 [some (.ref l), some (.int (iI i))] [] (mk g I)) (p := fun e => ¬ rchS P e) (n := pE P) (res := fun i => some (.inl (some (.int (iI i))), mk g I)) (re := some (.inl (some (.int (iI (pE P)))), mk g I)) (by
    intro c s c0 c1 hp
    have hr := s_isReached hl' hbd hS ⟨c0, c1⟩
    rw [if_neg hp] at hr
    show rn _ _ _ _ _ = _
    refine (w_56_1 (by first | assumption | omega) (by first | assumption | omega) (by first | assumption | omega) (by first | assumption | omega) (by first | assumption | omega)).trans ?_
    simp (maxSteps := 2000000) (disch := first | assumption | omega) only [aft_v, aft_n, aft_t, Nat.add_assoc, Nat.reduceAdd, if_true, if_false, not_true_eq_false, not_false_eq_true, Classical.not_not, Int.reduceAdd, Int.reduceSub, Int.reduceMul, Int.reduceNeg, Int.reduceLT, Int.reduceLE, Int.reduceEq, Int.add_zero, Int.zero_add, Int.sub_zero, w_56_2, w_56_3, w_56_4, hr, hJe, if_neg (show ¬ pE P ≤ c by omega)]) (by
    intro c s c0 c1 hp
    have hr := s_isReached hl' hbd hS ⟨c0, c1⟩
    rw [if_pos (Classical.not_not.mp hp)] at hr
    refine ⟨(), ?_⟩
    show rn _ _ _ _ _ = rn _ _ _ _ _
    refine (w_56_1 (by first | assumption | omega) (by first | assumption | omega) (by first | assumption | omega) (by first | assumption | omega) (by first | assumption | omega)).trans ?_
    simp (maxSteps := 2000000) (disch := first | assumption | omega) only [aft_v, aft_n, aft_t, Nat.add_assoc, Nat.reduceAdd, if_true, if_false, not_true_eq_false, not_false_eq_true, Classical.not_not, Int.reduceAdd, Int.reduceSub, Int.reduceMul, Int.reduceNeg, Int.reduceLT, Int.reduceLE, Int.reduceEq, Int.add_zero, Int.zero_add, Int.sub_zero, w_56_2, w_56_3, w_56_5, hr, hJe, if_neg (show ¬ pE P ≤ c by omega)]) (by
    intro s
    show rn _ _ _ _ _ = _
    refine (w_56_1 (by first | assumption | omega) (by first | assumption | omega) (by first | assumption | omega) (by first | assumption | omega) (by first | assumption | omega)).trans ?_
    simp (maxSteps := 2000000) (disch := first | assumption | omega) only [aft_v, aft_n, aft_t, Nat.add_assoc, Nat.reduceAdd, if_true, if_false, not_true_eq_false, not_false_eq_true, Classical.not_not, Int.reduceAdd, Int.reduceSub, Int.reduceMul, Int.reduceNeg, Int.reduceLT, Int.reduceLE, Int.reduceEq, Int.add_zero, Int.zero_add, Int.sub_zero, w_56_6, hJe, if_pos (Int.le_refl (pE P))]) b1.1 ()
  have key : rn 56 1 [some (.ref l), some (.int (iI 0))] [] (mk g I) = _ := key
  refine c_56.trans ?_
  refine (w_56_0).trans ?_
  refine key.trans ?_
  by_cases hv : fnd (fun e => ¬ rchS P e) (pE P) < 0
  · rw [if_pos hv, if_pos hv]
  · rw [if_neg hv, if_neg hv]
/-- the least cost with a finger on a note -/
noncomputable def lwS (P : PT) (e k f : Int) : Int := itI (fun c a => if fgP P e c k = f then lesS a (sumS (ahS P 0 e c) (bhS P e c)) else a) (-1) (cntS P e)
theorem s_leastWith {e k f : Int} (hl : isPl g l) (hbd : bdP P) (hS : Sol P l I) (he : 0 ≤ e ∧ e < pE P) (hk : 0 ≤ k ∧ k < pSz P e) (hf : (-2147483648 ≤ f ∧ f < 2147483648)) :
    cl 55 [.ref l, .int (iI e), .int (iI k), .int (iI f)] (mk g I) = some (.inl (some (.int (iI (lwS P e k f)))), mk g I) := by
  have hl' := hl
  obtain ⟨l_0, ⟨l_1, m_1, l_2⟩, ⟨l_3, m_3, l_4⟩, ⟨l_5, m_5, l_6⟩, ⟨l_7, m_7, l_8⟩, ⟨l_9, m_9, l_10⟩, ⟨l_11, m_11, l_12⟩, ⟨l_13, m_13, l_14⟩, ⟨l_15, m_15, l_16⟩, ⟨l_17, m_17, l_18⟩, l_19, l_20⟩ := hl
  have b1 := hbd.2.1
  have n0 := hbd.2.2.1 e he.1 he.2
  have hcn := hS.cn he.1 he.2
  obtain ⟨A, hA⟩ : ∃ A : Int → Int, A = fun i => itI (fun c a => if fgP P e c k = f then lesS a (sumS (ahS P 0 e c) (bhS P e c)) else a) (-1) i := ⟨_, rfl⟩
  have hA0 : A 0 = -1 := by rw [hA]; rfl
  have hAs : ∀ i, 0 ≤ i → A (i + 1) = if fgP P e i k = f then lesS (A i) (sumS (ahS P 0 e i) (bhS P e i)) else A i := fun i h => by rw [hA]; exact itI_s h
  have hAb : ∀ i, 0 ≤ i → -1 ≤ A i ∧ A i ≤ 2400000 := fun i hi => by
    rw [hA]
    refine itI_ind (fun _ x => -1 ≤ x ∧ x ≤ 2400000) (by decide) (fun c x c0 _ hx => ?_) hi
    have := sum_b (ahS_b hbd (b := 0) (c := c) he.1 he.2) (bhS_b hbd (c := c) he.1 he.2) (by decide) (by decide)
    split
    · exact les_b hx (by omega)
    · exact hx
  have key := loop_up (σ := Unit) (head := fun i s => rn 55 1 [some (.ref l), some (.int (iI e)), some (.int (iI k)), some (.int (iI f)), some (.int (iI (A i))), some (.int (iI i))] [] (mk g I)) (Inv := fun i _ => 0 ≤ i) (n := cntS P e) (by
    intro c s c1 c0
    refine ⟨(), ?_, by omega⟩
    have bA := ahS_b hbd (b := 0) (c := c) he.1 he.2
    have bB := bhS_b hbd (c := c) he.1 he.2
    have hF := hS.fg he.1 he.2 c0 c1 hk.1 hk.2
    have bF := fgP_b (P := P) (e := e) (c := c) (k := k) n0.1
    have hct := s_costThrough (g := g) (I := I) (e := e) (c := c) hl' (by omega) (by omega) (by rw [hS.ah he.1 he.2 c0 c1]; omega) (by rw [hS.bh he.1 he.2 c0 c1]; omega)
    rw [hS.ah he.1 he.2 c0 c1, hS.bh he.1 he.2 c0 c1] at hct
    have bS := sum_b bA bB (by decide) (by decide)
    have bAc := hAb c c0
    show rn _ _ _ _ _ = rn _ _ _ _ _
    rw [hAs c c0]
    by_cases hff : fgP P e c k = f
    · rw [if_pos hff]
      refine (w_55_1 (by first | assumption | omega) (by first | assumption | omega)).trans ?_
      simp (maxSteps := 2000000) (disch := first | assumption | omega) only [aft_v, aft_n, aft_t, Nat.add_assoc, Nat.reduceAdd, if_true, if_false, not_true_eq_false, not_false_eq_true, Classical.not_not, Int.reduceAdd, Int.reduceSub, Int.reduceMul, Int.reduceNeg, Int.reduceLT, Int.reduceLE, Int.reduceEq, Int.add_zero, Int.zero_add, Int.sub_zero, w_55_2, w_55_3, w_55_4, w_55_5, w_55_6, w_55_7, w_55_8, w_55_9, s_row_get, hcn, if_neg (show ¬ cntS P e ≤ c by omega), s_baseOf, hF, hff, hct, s_lesserOf]
    · rw [if_neg hff]
      refine (w_55_1 (by first | assumption | omega) (by first | assumption | omega)).trans ?_
      simp (maxSteps := 2000000) (disch := first | assumption | omega) only [aft_v, aft_n, aft_t, Nat.add_assoc, Nat.reduceAdd, if_true, if_false, not_true_eq_false, not_false_eq_true, Classical.not_not, Int.reduceAdd, Int.reduceSub, Int.reduceMul, Int.reduceNeg, Int.reduceLT, Int.reduceLE, Int.reduceEq, Int.add_zero, Int.zero_add, Int.sub_zero, w_55_2, w_55_3, w_55_4, w_55_5, w_55_9, s_row_get, hcn, if_neg (show ¬ cntS P e ≤ c by omega), s_baseOf, hF, hff]) 0 () n0.2.1 (Int.le_refl _)
  obtain ⟨_, key, _⟩ := key
  have key : rn 55 1 [some (.ref l), some (.int (iI e)), some (.int (iI k)), some (.int (iI f)), some (.int (iI (A 0))), some (.int (iI 0))] [] (mk g I) = rn 55 1 [some (.ref l), some (.int (iI e)), some (.int (iI k)), some (.int (iI f)), some (.int (iI (A (cntS P e)))), some (.int (iI (cntS P e)))] [] (mk g I) := key
  rw [hA0] at key
  refine c_55.trans ?_
  refine (w_55_0).trans ?_
  refine key.trans ?_
  refine (w_55_1 (by first | assumption | omega) (by first | assumption | omega)).trans ?_
  simp (maxSteps := 2000000) (disch := first | assumption | omega) only [aft_v, aft_n, aft_t, Nat.add_assoc, Nat.reduceAdd, if_true, if_false, not_true_eq_false, not_false_eq_true, Classical.not_not, Int.reduceAdd, Int.reduceSub, Int.reduceMul, Int.reduceNeg, Int.reduceLT, Int.reduceLE, Int.reduceEq, Int.add_zero, Int.zero_add, Int.sub_zero, w_55_2, w_55_10, s_row_get, hcn, if_pos (Int.le_refl (cntS P e))]
  rw [hA]; rfl
end ASK
