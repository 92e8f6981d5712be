/-! The reference looks for tokens. -/
def mkd (k : Int) : Int := if k = 0 then 3 else if k = 1 then 0 else if k = 2 then 1 else 2
/-- the reference has looked at the token behind b -/
def lxM (B : Int → Int) (n : Int) (m : Nat) (b : Int) (I : Mm) : Prop := I (m + 7) = B ∧ I m 9 = n ∧ I m 12 = mkd (tkK B n b) ∧ I m 10 = tkS B n b ∧ I m 11 = tkE B n b ∧ I m 13 = (if tkK B n b = 2 then tkN B n 1000 b else 0) ∧ 0 ≤ b ∧ b ≤ n
/-- only the token of m has changed -/
def tkM (m : Nat) (I J : Mm) : Prop := (∀ p, ¬ p = m → J p = I p) ∧ ∀ i, ¬ i = 10 → ¬ i = 11 → ¬ i = 12 → ¬ i = 13 → J m i = I m i
theorem tkM.trans {m : Nat} {I J K : Mm} (h : tkM m I J) (h' : tkM m J K) : tkM m I K := ⟨fun p hp => (h'.1 p hp).trans (h.1 p hp), fun i a b c d => (h'.2 i a b c d).trans (h.2 i a b c d)⟩
theorem tkM.rfl {m : Nat} {I : Mm} : tkM m I I := ⟨fun _ _ => Eq.refl _, fun _ _ _ _ _ => Eq.refl _⟩
section ML
variable {g : Gm} {I : Mm} {m : Nat} {B : Int → Int} {n b : Int}
theorem s_see {k : Int} (hm : isM g m) (hO : txB B n) (h7 : I (m + 7) = B) (h9 : I m 9 = n) (h0 : 0 ≤ k) (h1 : k ≤ 600) : cl 165 [.ref m, .int (iI k)] (mk g I) = some (.inl (some (.int (iI (if n ≤ k then -1 else B k)))), mk g I) := by
  have hO1 := hO.1
  obtain ⟨t_0, ⟨t_1, d_1, n_1⟩, ⟨t_2, d_2, n_2⟩, ⟨t_3, d_3, n_3⟩, ⟨t_4, d_4, n_4⟩, ⟨t_5, d_5, n_5⟩, ⟨t_6, n_6⟩, ⟨t_7, d_7, n_7⟩, ⟨t_8, d_8, n_8⟩, ⟨t_9, d_9, n_9⟩, ⟨t_10, d_10, n_10⟩, ⟨t_11, d_11, n_11⟩, ⟨t_12, d_12, n_12⟩, ⟨t_13, d_13, n_13⟩, ⟨t_14, d_14, n_14⟩, ⟨t_15, n_15⟩, ⟨t_16, n_16⟩, ⟨t_17, d_17, n_17⟩, ⟨t_18, d_18, n_18⟩⟩ := hm
  by_cases hk : n ≤ k
  · rw [if_pos hk]
    simp (maxSteps := 2000000) (disch := first | assumption | omega) only [aft_v, aft_n, aft_t, Nat.add_assoc, Nat.reduceAdd, if_true, if_false, not_true_eq_false, not_false_eq_true, Classical.not_not, Int.reduceAdd, Int.reduceSub, Int.reduceMul, Int.reduceNeg, Int.reduceLT, Int.reduceLE, Int.reduceEq, Int.add_zero, Int.zero_add, Int.sub_zero, c_165, w_165_0, w_165_1, w_165_2, w_165_3, h9, hk]
  · rw [if_neg hk]
    have e : I (m + 7) k = B k := by rw [h7]
    simp (maxSteps := 2000000) (disch := first | assumption | omega) only [aft_v, aft_n, aft_t, Nat.add_assoc, Nat.reduceAdd, if_true, if_false, not_true_eq_false, not_false_eq_true, Classical.not_not, Int.reduceAdd, Int.reduceSub, Int.reduceMul, Int.reduceNeg, Int.reduceLT, Int.reduceLE, Int.reduceEq, Int.add_zero, Int.zero_add, Int.sub_zero, c_165, w_165_0, w_165_1, w_165_2, w_165_3, h9, hk, e]
theorem s_mLet {k : Int} (hm : isM g m) (hO : txB B n) (h7 : I (m + 7) = B) (h9 : I m 9 = n) (h0 : 0 ≤ k) (h1 : k ≤ 600) : cl 166 [.ref m, .int (iI k)] (mk g I) = some (.inl (some (.int (iI (if ltB B n k = true then 1 else 0)))), mk g I) := by
  have hO1 := hO.1
  have q := s_see hm hO h7 h9 h0 h1
  have sb : -1 ≤ (if n ≤ k then -1 else B k) ∧ (if n ≤ k then -1 else B k) ≤ 255 := by
    by_cases hk : n ≤ k
    · rw [if_pos hk]; decide
    · rw [if_neg hk]
      have := hO.2 k h0 (by omega)
      omega
  have q2 := s_isIn (g := g) (I := I) (a := (if n ≤ k then -1 else B k)) (b := 97) (c := 122) (by omega) (by omega) (by omega)
  have e : (ltB B n k = true) = (97 ≤ (if n ≤ k then -1 else B k) ∧ (if n ≤ k then -1 else B k) ≤ 122) := by
    unfold ltB
    rw [decide_eq_true_eq]
    by_cases hk : n ≤ k
    · rw [if_pos hk]; exact propext ⟨fun z => by omega, fun z => by omega⟩
    · rw [if_neg hk]; exact propext ⟨fun z => z.2, fun z => ⟨by omega, z⟩⟩
  simp only [e]
  obtain ⟨t_0, ⟨t_1, d_1, n_1⟩, ⟨t_2, d_2, n_2⟩, ⟨t_3, d_3, n_3⟩, ⟨t_4, d_4, n_4⟩, ⟨t_5, d_5, n_5⟩, ⟨t_6, n_6⟩, ⟨t_7, d_7, n_7⟩, ⟨t_8, d_8, n_8⟩, ⟨t_9, d_9, n_9⟩, ⟨t_10, d_10, n_10⟩, ⟨t_11, d_11, n_11⟩, ⟨t_12, d_12, n_12⟩, ⟨t_13, d_13, n_13⟩, ⟨t_14, d_14, n_14⟩, ⟨t_15, n_15⟩, ⟨t_16, n_16⟩, ⟨t_17, d_17, n_17⟩, ⟨t_18, d_18, n_18⟩⟩ := hm
  simp (maxSteps := 2000000) (disch := first | assumption | omega) only [aft_v, aft_n, aft_t, Nat.add_assoc, Nat.reduceAdd, if_true, if_false, not_true_eq_false, not_false_eq_true, Classical.not_not, Int.reduceAdd, Int.reduceSub, Int.reduceMul, Int.reduceNeg, Int.reduceLT, Int.reduceLE, Int.reduceEq, Int.add_zero, Int.zero_add, Int.sub_zero, c_166, w_166_0, w_166_1, w_166_2, q, q2, bz01]
theorem s_mDig {k : Int} (hm : isM g m) (hO : txB B n) (h7 : I (m + 7) = B) (h9 : I m 9 = n) (h0 : 0 ≤ k) (h1 : k ≤ 600) : cl 167 [.ref m, .int (iI k)] (mk g I) = some (.inl (some (.int (iI (if dgB B n k = true then 1 else 0)))), mk g I) := by
  have hO1 := hO.1
  have q := s_see hm hO h7 h9 h0 h1
  have sb : -1 ≤ (if n ≤ k then -1 else B k) ∧ (if n ≤ k then -1 else B k) ≤ 255 := by
    by_cases hk : n ≤ k
    · rw [if_pos hk]; decide
    · rw [if_neg hk]
      have := hO.2 k h0 (by omega)
      omega
  have q2 := s_isIn (g := g) (I := I) (a := (if n ≤ k then -1 else B k)) (b := 48) (c := 57) (by omega) (by omega) (by omega)
  have e : (dgB B n k = true) = (48 ≤ (if n ≤ k then -1 else B k) ∧ (if n ≤ k then -1 else B k) ≤ 57) := by
    unfold dgB
    rw [decide_eq_true_eq]
    by_cases hk : n ≤ k
    · rw [if_pos hk]; exact propext ⟨fun z => by omega, fun z => by omega⟩
    · rw [if_neg hk]; exact propext ⟨fun z => z.2, fun z => ⟨by omega, z⟩⟩
  simp only [e]
  obtain ⟨t_0, ⟨t_1, d_1, n_1⟩, ⟨t_2, d_2, n_2⟩, ⟨t_3, d_3, n_3⟩, ⟨t_4, d_4, n_4⟩, ⟨t_5, d_5, n_5⟩, ⟨t_6, n_6⟩, ⟨t_7, d_7, n_7⟩, ⟨t_8, d_8, n_8⟩, ⟨t_9, d_9, n_9⟩, ⟨t_10, d_10, n_10⟩, ⟨t_11, d_11, n_11⟩, ⟨t_12, d_12, n_12⟩, ⟨t_13, d_13, n_13⟩, ⟨t_14, d_14, n_14⟩, ⟨t_15, n_15⟩, ⟨t_16, n_16⟩, ⟨t_17, d_17, n_17⟩, ⟨t_18, d_18, n_18⟩⟩ := hm
  simp (maxSteps := 2000000) (disch := first | assumption | omega) only [aft_v, aft_n, aft_t, Nat.add_assoc, Nat.reduceAdd, if_true, if_false, not_true_eq_false, not_false_eq_true, Classical.not_not, Int.reduceAdd, Int.reduceSub, Int.reduceMul, Int.reduceNeg, Int.reduceLT, Int.reduceLE, Int.reduceEq, Int.add_zero, Int.zero_add, Int.sub_zero, c_167, w_167_0, w_167_1, w_167_2, q, q2, bz01]
theorem s_mnext (hm : isM g m) (hO : txB B n) (h7 : I (m + 7) = B) (h9 : I m 9 = n) (hb : 0 ≤ I m 11 ∧ I m 11 ≤ n) : ∃ J, cl 168 [.ref m] (mk g I) = some (.inl none, mk g J) ∧ tkM m I J ∧ lxM B n m (I m 11) J := by
  have hm' := hm
  obtain ⟨t_0, ⟨t_1, d_1, n_1⟩, ⟨t_2, d_2, n_2⟩, ⟨t_3, d_3, n_3⟩, ⟨t_4, d_4, n_4⟩, ⟨t_5, d_5, n_5⟩, ⟨t_6, n_6⟩, ⟨t_7, d_7, n_7⟩, ⟨t_8, d_8, n_8⟩, ⟨t_9, d_9, n_9⟩, ⟨t_10, d_10, n_10⟩, ⟨t_11, d_11, n_11⟩, ⟨t_12, d_12, n_12⟩, ⟨t_13, d_13, n_13⟩, ⟨t_14, d_14, n_14⟩, ⟨t_15, n_15⟩, ⟨t_16, n_16⟩, ⟨t_17, d_17, n_17⟩, ⟨t_18, d_18, n_18⟩⟩ := hm
  obtain ⟨b, hbb⟩ : ∃ b, b = I m 11 := ⟨_, rfl⟩
  have hO1 := hO.1
  rw [← hbb] at hb
  have hbt := hO.2
  -- the spaces
  have key := loop_run (head := fun k => rn 168 1 [some (.ref m)] [] (mk g (upd2 I m 10 k))) (q := spB B n) (n := n) (fun _ => spB_n) b (fun k hk hs => by
    have hs := of_decide_eq_true hs
    obtain ⟨J, hJ⟩ : ∃ J, J = upd2 I m 10 k := ⟨_, rfl⟩
    have j10 : J m 10 = k := by rw [hJ]; exact upd2_at
    have q := s_see (g := g) (I := J) (k := k) hm' hO (by rw [hJ]; funext i; rw [upd2_p (by omega)]; rw [h7]) (by rw [hJ, upd2_i (by decide)]; exact h9) (by omega) (by omega)
    rw [if_neg (by omega), hs.2] at q
    have e : upd2 J m 10 (k + 1) = upd2 I m 10 (k + 1) := by rw [hJ]; exact upd2_2
    show rn _ _ _ _ _ = rn _ _ _ _ (mk g (upd2 I m 10 (k + 1)))
    rw [← e, ← hJ]
    simp (maxSteps := 2000000) (disch := first | assumption | omega) only [aft_v, aft_n, aft_t, Nat.add_assoc, Nat.reduceAdd, if_true, if_false, not_true_eq_false, not_false_eq_true, Classical.not_not, Int.reduceAdd, Int.reduceSub, Int.reduceMul, Int.reduceNeg, Int.reduceLT, Int.reduceLE, Int.reduceEq, Int.add_zero, Int.zero_add, Int.sub_zero, w_168_1, w_168_2, w_168_3, j10, q])
  obtain ⟨s, hs⟩ : ∃ s, s = tkS B n b := ⟨_, rfl⟩
  have key : rn 168 1 [some (.ref m)] [] (mk g (upd2 I m 10 b)) = rn 168 1 [some (.ref m)] [] (mk g (upd2 I m 10 s)) := by rw [hs]; exact key
  have sb := tkS_b (B := B) hb.2
  rw [← hs] at sb
  have out : rn 168 1 [some (.ref m)] [] (mk g (upd2 I m 10 s)) = rn 168 4 [some (.ref m)] [] (mk g (upd2 I m 10 s)) := by
    obtain ⟨J, hJ⟩ : ∃ J, J = upd2 I m 10 s := ⟨_, rfl⟩
    have j10 : J m 10 = s := by rw [hJ]; exact upd2_at
    have q := s_see (g := g) (I := J) (k := s) hm' hO (by rw [hJ]; funext i; rw [upd2_p (by omega)]; rw [h7]) (by rw [hJ, upd2_i (by decide)]; exact h9) (by omega) (by omega)
    rw [← hJ]
    by_cases hsn : n ≤ s
    · rw [if_pos hsn] at q
      simp (maxSteps := 2000000) (disch := first | assumption | omega) only [aft_v, aft_n, aft_t, Nat.add_assoc, Nat.reduceAdd, if_true, if_false, not_true_eq_false, not_false_eq_true, Classical.not_not, Int.reduceAdd, Int.reduceSub, Int.reduceMul, Int.reduceNeg, Int.reduceLT, Int.reduceLE, Int.reduceEq, Int.add_zero, Int.zero_add, Int.sub_zero, w_168_1, w_168_2, j10, q, show ¬ (-1 : Int) = 32 by decide]
    · rw [if_neg hsn] at q
      have h32 : ¬ B s = 32 := fun z => sb.2.2 (decide_eq_true ⟨by omega, z⟩)
      have hr := hbt s (by omega) (by omega)
      simp (maxSteps := 2000000) (disch := first | assumption | omega) only [aft_v, aft_n, aft_t, Nat.add_assoc, Nat.reduceAdd, if_true, if_false, not_true_eq_false, not_false_eq_true, Classical.not_not, Int.reduceAdd, Int.reduceSub, Int.reduceMul, Int.reduceNeg, Int.reduceLT, Int.reduceLE, Int.reduceEq, Int.add_zero, Int.zero_add, Int.sub_zero, w_168_1, w_168_2, j10, q, h32]
  obtain ⟨K, hK⟩ : ∃ K, K = upd2 (upd2 (upd2 I m 10 s) m 11 s) m 13 0 := ⟨_, rfl⟩
  have k10 : K m 10 = s := by rw [hK, upd2_i (by decide), upd2_i (by decide), upd2_at]
  have k11 : K m 11 = s := by rw [hK, upd2_i (by decide), upd2_at]
  have k13 : K m 13 = 0 := by rw [hK, upd2_at]
  have kF : ∀ i, ¬ i = 10 → ¬ i = 11 → ¬ i = 12 → ¬ i = 13 → K m i = I m i := fun i a b c d => by rw [hK, upd2_i d, upd2_i b, upd2_i a]
  have k9 : K m 9 = n := by rw [kF 9 (by decide) (by decide) (by decide) (by decide)]; exact h9
  have kP : ∀ p, ¬ p = m → K p = I p := fun p h => by rw [hK]; funext i; rw [upd2_p h, upd2_p h, upd2_p h]
  have k7 : K (m + 7) = B := by rw [kP _ (by omega), h7]
  have z : upd2 (upd2 (upd2 I m 10 s) m 11 (upd2 I m 10 s m 10)) m 13 0 = K := by rw [hK, upd2_at]
  have z10 : upd2 (upd2 (upd2 I m 10 s) m 11 (upd2 I m 10 s m 10)) m 13 0 m 10 = s := by rw [z, k10]
  have z9 : upd2 (upd2 (upd2 I m 10 s) m 11 (upd2 I m 10 s m 10)) m 13 0 m 9 = n := by rw [z, k9]
  have fin : ∀ J kd en nu, (∀ p, ¬ p = m → J p = I p) → (∀ i, ¬ i = 10 → ¬ i = 11 → ¬ i = 12 → ¬ i = 13 → J m i = I m i) → J m 12 = mkd kd → J m 10 = s → J m 11 = en → J m 13 = nu → kd = tkK B n b → en = tkE B n b → nu = (if kd = 2 then tkN B n 1000 b else 0) → tkM m I J ∧ lxM B n m (I m 11) J := fun J kd en nu h1 h2 h12 h10 h11 h13 e4 e6 e7 => by
    refine ⟨⟨h1, h2⟩, ?_⟩
    unfold lxM
    rw [h1 (m + 7) (by omega), h2 9 (by decide) (by decide) (by decide) (by decide), ← hbb, h12, h10, h11, h13, ← e4, ← e7]
    exact ⟨h7, h9, rfl, hs, e6, rfl, hb⟩
  have start : cl 168 [.ref m] (mk g I) = if s < n then rn 168 6 [some (.ref m)] [] (mk g K) else rn 168 5 [some (.ref m)] [] (mk g K) := by
    simp (maxSteps := 2000000) (disch := first | assumption | omega) only [aft_v, aft_n, aft_t, Nat.add_assoc, Nat.reduceAdd, if_true, if_false, not_true_eq_false, not_false_eq_true, Classical.not_not, Int.reduceAdd, Int.reduceSub, Int.reduceMul, Int.reduceNeg, Int.reduceLT, Int.reduceLE, Int.reduceEq, Int.add_zero, Int.zero_add, Int.sub_zero, c_168, w_168_0, ← hbb]
    rw [key, out]
    refine (w_168_4 (by first | assumption | omega) (by first | assumption | omega) (by first | assumption | omega) (by first | assumption | omega) (by first | assumption | omega)).trans ?_
    rw [z, k10, k9]
  by_cases hsn : n ≤ s
  · have e4 : 0 = tkK B n b := by unfold tkK; rw [← hs, if_pos hsn]
    have e6 : s = tkE B n b := by unfold tkE; rw [← e4, if_pos rfl, hs]
    refine ⟨upd2 K m 12 3, ?_, fin _ 0 s 0 (fun p h => by rw [← kP p h]; funext i; rw [upd2_p h]) (fun i a b c d => by rw [upd2_i c]; exact kF i a b c d) upd2_at (by rw [upd2_i (by decide), k10]) (by rw [upd2_i (by decide), k11]) (by rw [upd2_i (by decide), k13]) e4 e6 rfl⟩
    rw [start, if_neg (by omega)]
    simp (maxSteps := 2000000) (disch := first | assumption | omega) only [aft_v, aft_n, aft_t, Nat.add_assoc, Nat.reduceAdd, if_true, if_false, not_true_eq_false, not_false_eq_true, Classical.not_not, Int.reduceAdd, Int.reduceSub, Int.reduceMul, Int.reduceNeg, Int.reduceLT, Int.reduceLE, Int.reduceEq, Int.add_zero, Int.zero_add, Int.sub_zero, w_168_5, w_168_20]
  rw [if_pos (by omega)] at start
  have hr := hbt s (by omega) (by omega)
  have qL := s_mLet (g := g) (I := K) (k := s) hm' hO k7 k9 (by omega) (by omega)
  by_cases hl : ltB B n s = true
  · rw [if_pos hl] at qL
    have e4 : 1 = tkK B n b := by unfold tkK; rw [← hs, if_neg hsn, if_pos hl]
    have e6 : runS (ltB B n) n s = tkE B n b := by unfold tkE; rw [← e4, if_neg (by decide), if_pos rfl, ← hs]
    have key2 := loop_run (head := fun k => rn 168 8 [some (.ref m)] [] (mk g (upd2 K m 11 k))) (q := ltB B n) (n := n) (fun _ => ltB_n) s (fun k hk hq => by
      have hq' := of_decide_eq_true hq
      obtain ⟨J, hJ⟩ : ∃ J, J = upd2 K m 11 k := ⟨_, rfl⟩
      have j11 : J m 11 = k := by rw [hJ]; exact upd2_at
      have q := s_mLet (g := g) (I := J) (k := k) hm' hO (by rw [hJ]; funext i; rw [upd2_p (by omega)]; rw [k7]) (by rw [hJ, upd2_i (by decide)]; exact k9) (by omega) (by omega)
      rw [if_pos hq] at q
      have e : upd2 J m 11 (k + 1) = upd2 K m 11 (k + 1) := by rw [hJ]; exact upd2_2
      show rn _ _ _ _ _ = rn _ _ _ _ (mk g (upd2 K m 11 (k + 1)))
      rw [← e, ← hJ]
      simp (maxSteps := 2000000) (disch := first | assumption | omega) only [aft_v, aft_n, aft_t, Nat.add_assoc, Nat.reduceAdd, if_true, if_false, not_true_eq_false, not_false_eq_true, Classical.not_not, Int.reduceAdd, Int.reduceSub, Int.reduceMul, Int.reduceNeg, Int.reduceLT, Int.reduceLE, Int.reduceEq, Int.add_zero, Int.zero_add, Int.sub_zero, w_168_8, w_168_9, w_168_10, j11, q, show ¬ (1 : Int) = 0 by decide])
    obtain ⟨en, hen⟩ : ∃ en, en = runS (ltB B n) n s := ⟨_, rfl⟩
    have eb := runS_b (q := ltB B n) (fun _ => ltB_n) (show s ≤ n by omega)
    rw [← hen] at eb e6
    have key2 : rn 168 8 [some (.ref m)] [] (mk g (upd2 K m 11 s)) = rn 168 8 [some (.ref m)] [] (mk g (upd2 K m 11 en)) := by rw [hen]; exact key2
    have e0 : upd2 K m 11 s = K := by
      funext p i
      by_cases h : p = m ∧ i = 11
      · rw [h.1, h.2, upd2_at, k11]
      · exact if_neg h
    rw [e0] at key2
    obtain ⟨J, hJ⟩ : ∃ J, J = upd2 K m 11 en := ⟨_, rfl⟩
    have j11 : J m 11 = en := by rw [hJ]; exact upd2_at
    rw [← hJ] at key2
    have q := s_mLet (g := g) (I := J) (k := en) hm' hO (by rw [hJ]; funext i; rw [upd2_p (by omega)]; rw [k7]) (by rw [hJ, upd2_i (by decide)]; exact k9) (by omega) (by omega)
    rw [if_neg eb.2.2] at q
    refine ⟨upd2 J m 12 0, ?_, fin _ 1 en 0 (fun p h => by rw [← kP p h, hJ]; funext i; rw [upd2_p h, upd2_p h]) (fun i a b c d => by rw [upd2_i c, hJ, upd2_i b]; exact kF i a b c d) upd2_at (by rw [upd2_i (by decide), hJ, upd2_i (by decide), k10]) (by rw [upd2_i (by decide), j11]) (by rw [upd2_i (by decide), hJ, upd2_i (by decide), k13]) e4 e6 rfl⟩
    rw [start]
    simp (maxSteps := 2000000) (disch := first | assumption | omega) only [aft_v, aft_n, aft_t, Nat.add_assoc, Nat.reduceAdd, if_true, if_false, not_true_eq_false, not_false_eq_true, Classical.not_not, Int.reduceAdd, Int.reduceSub, Int.reduceMul, Int.reduceNeg, Int.reduceLT, Int.reduceLE, Int.reduceEq, Int.add_zero, Int.zero_add, Int.sub_zero, w_168_6, w_168_7, k10, qL, show ¬ (1 : Int) = 0 by decide]
    rw [key2]
    simp (maxSteps := 2000000) (disch := first | assumption | omega) only [aft_v, aft_n, aft_t, Nat.add_assoc, Nat.reduceAdd, if_true, if_false, not_true_eq_false, not_false_eq_true, Classical.not_not, Int.reduceAdd, Int.reduceSub, Int.reduceMul, Int.reduceNeg, Int.reduceLT, Int.reduceLE, Int.reduceEq, Int.add_zero, Int.zero_add, Int.sub_zero, w_168_8, w_168_9, w_168_11, w_168_20, j11, q]
  rw [if_neg hl] at qL
  have qD := s_mDig (g := g) (I := K) (k := s) hm' hO k7 k9 (by omega) (by omega)
  by_cases hd : dgB B n s = true
  · rw [if_pos hd] at qD
    have e4 : 2 = tkK B n b := by unfold tkK; rw [← hs, if_neg hsn, if_neg hl, if_pos hd]
    have e6 : runS (dgB B n) n s = tkE B n b := by unfold tkE; rw [← e4, if_neg (by decide), if_neg (by decide), if_pos rfl, ← hs]
    have key2 := loop_num (head := fun a k => rn 168 14 [some (.ref m)] [] (mk g (upd2 (upd2 K m 13 a) m 11 k))) (B := B) (n := n) (c := 1000) 0 s (by decide) (by decide) (fun a k a0 a1 hk hq => by
      have hq' := of_decide_eq_true hq
      obtain ⟨J, hJ⟩ : ∃ J, J = upd2 (upd2 K m 13 a) m 11 k := ⟨_, rfl⟩
      have j11 : J m 11 = k := by rw [hJ]; exact upd2_at
      have j13 : J m 13 = a := by rw [hJ, upd2_i (by decide)]; exact upd2_at
      have j9 : J m 9 = n := by rw [hJ, upd2_i (by decide), upd2_i (by decide)]; exact k9
      have j7 : J (m + 7) = B := by rw [hJ]; funext i; rw [upd2_p (by omega), upd2_p (by omega)]; rw [k7]
      have q := s_mDig (g := g) (I := J) (k := k) hm' hO j7 j9 (by omega) (by omega)
      rw [if_pos hq] at q
      have q2 := s_see (g := g) (I := J) (k := k) hm' hO j7 j9 (by omega) (by omega)
      rw [if_neg (by omega)] at q2
      have hr := hbt k (by omega) (by omega)
      obtain ⟨v, hv⟩ : ∃ v, v = min 1000 (a * 10 + B k - 48) := ⟨_, rfl⟩
      have hv' : min 1000 (10 * a + B k - 48) = v := by omega
      have j1311 : upd2 J m 13 v m 11 = k := by rw [upd2_i (by decide), j11]
      have e : upd2 (upd2 J m 13 v) m 11 (k + 1) = upd2 (upd2 K m 13 v) m 11 (k + 1) := by
        rw [hJ, upd2_x (i := 11) (j := 13) (by decide), upd2_2, upd2_2]
      show rn _ _ _ _ _ = rn _ _ _ _ (mk g (upd2 (upd2 K m 13 (min 1000 (a * 10 + B k - 48))) m 11 (k + 1)))
      rw [← hv, ← e, ← hJ]
      simp (maxSteps := 2000000) (disch := first | assumption | omega) only [aft_v, aft_n, aft_t, Nat.add_assoc, Nat.reduceAdd, if_true, if_false, not_true_eq_false, not_false_eq_true, Classical.not_not, Int.reduceAdd, Int.reduceSub, Int.reduceMul, Int.reduceNeg, Int.reduceLT, Int.reduceLE, Int.reduceEq, Int.add_zero, Int.zero_add, Int.sub_zero, w_168_14, w_168_15, w_168_16, w_168_17, j11, j13, q, q2, hv', j1311, show ¬ (1 : Int) = 0 by decide])
    obtain ⟨en, hen⟩ : ∃ en, en = runS (dgB B n) n s := ⟨_, rfl⟩
    obtain ⟨v, hv⟩ : ∃ v, v = tkN B n 1000 b := ⟨_, rfl⟩
    have eb := runS_b (q := dgB B n) (fun _ => dgB_n) (show s ≤ n by omega)
    rw [← hen] at eb e6
    have key2 : rn 168 14 [some (.ref m)] [] (mk g (upd2 (upd2 K m 13 0) m 11 s)) = rn 168 14 [some (.ref m)] [] (mk g (upd2 (upd2 K m 13 v) m 11 en)) := by rw [hen, hv]; unfold tkN; rw [← hs]; exact key2
    have e0 : upd2 (upd2 K m 13 0) m 11 s = K := by
      funext p i
      by_cases h : p = m ∧ i = 11
      · rw [h.1, h.2, upd2_at, k11]
      · show (if p = m ∧ i = 11 then s else if p = m ∧ i = 13 then 0 else K p i) = K p i
        rw [if_neg h]
        by_cases h3 : p = m ∧ i = 13
        · rw [if_pos h3, h3.1, h3.2, k13]
        · rw [if_neg h3]
    rw [e0] at key2
    obtain ⟨J, hJ⟩ : ∃ J, J = upd2 (upd2 K m 13 v) m 11 en := ⟨_, rfl⟩
    have j11 : J m 11 = en := by rw [hJ]; exact upd2_at
    rw [← hJ] at key2
    have q := s_mDig (g := g) (I := J) (k := en) hm' hO (by rw [hJ]; funext i; rw [upd2_p (by omega), upd2_p (by omega)]; rw [k7]) (by rw [hJ, upd2_i (by decide), upd2_i (by decide)]; exact k9) (by omega) (by omega)
    rw [if_neg eb.2.2] at q
    refine ⟨upd2 J m 12 1, ?_, fin _ 2 en v (fun p h => by rw [← kP p h, hJ]; funext i; rw [upd2_p h, upd2_p h, upd2_p h]) (fun i a b c d => by rw [upd2_i c, hJ, upd2_i b, upd2_i d]; exact kF i a b c d) upd2_at (by rw [upd2_i (by decide), hJ, upd2_i (by decide), upd2_i (by decide), k10]) (by rw [upd2_i (by decide), j11]) (by rw [upd2_i (by decide), hJ, upd2_i (by decide), upd2_at]) e4 e6 (by rw [if_pos rfl]; exact hv)⟩
    rw [start]
    simp (maxSteps := 2000000) (disch := first | assumption | omega) only [aft_v, aft_n, aft_t, Nat.add_assoc, Nat.reduceAdd, if_true, if_false, not_true_eq_false, not_false_eq_true, Classical.not_not, Int.reduceAdd, Int.reduceSub, Int.reduceMul, Int.reduceNeg, Int.reduceLT, Int.reduceLE, Int.reduceEq, Int.add_zero, Int.zero_add, Int.sub_zero, w_168_6, w_168_7, w_168_12, w_168_13, k10, qL, qD, show ¬ (1 : Int) = 0 by decide]
    rw [key2]
    simp (maxSteps := 2000000) (disch := first | assumption | omega) only [aft_v, aft_n, aft_t, Nat.add_assoc, Nat.reduceAdd, if_true, if_false, not_true_eq_false, not_false_eq_true, Classical.not_not, Int.reduceAdd, Int.reduceSub, Int.reduceMul, Int.reduceNeg, Int.reduceLT, Int.reduceLE, Int.reduceEq, Int.add_zero, Int.zero_add, Int.sub_zero, w_168_14, w_168_15, w_168_18, w_168_20, j11, q]
  rw [if_neg hd] at qD
  obtain ⟨kd, hkd⟩ : ∃ kd, kd = tkK B n b := ⟨_, rfl⟩
  have e4 : kd = 3 ∨ kd = 4 := by
    rw [hkd]; unfold tkK; rw [← hs, if_neg hsn, if_neg hl, if_neg hd]
    by_cases hc : B s = 59
    · rw [if_pos hc]; exact Or.inl rfl
    · rw [if_neg hc]; exact Or.inr rfl
  have e6 : s + 1 = tkE B n b := by unfold tkE; rw [← hkd, if_neg (by omega), if_neg (by omega), if_neg (by omega), ← hs]
  refine ⟨upd2 (upd2 K m 11 (s + 1)) m 12 2, ?_, fin _ kd (s + 1) 0 (fun p h => by rw [← kP p h]; funext i; rw [upd2_p h, upd2_p h]) (fun i a b c d => by rw [upd2_i c, upd2_i b]; exact kF i a b c d) (by rw [upd2_at]; unfold mkd; rw [if_neg (by omega), if_neg (by omega), if_neg (by omega)]) (by rw [upd2_i (by decide), upd2_i (by decide), k10]) (by rw [upd2_i (by decide), upd2_at]) (by rw [upd2_i (by decide), upd2_i (by decide), k13]) hkd e6 (by rw [if_neg (by omega)])⟩
  rw [start]
  simp (maxSteps := 2000000) (disch := first | assumption | omega) only [aft_v, aft_n, aft_t, Nat.add_assoc, Nat.reduceAdd, if_true, if_false, not_true_eq_false, not_false_eq_true, Classical.not_not, Int.reduceAdd, Int.reduceSub, Int.reduceMul, Int.reduceNeg, Int.reduceLT, Int.reduceLE, Int.reduceEq, Int.add_zero, Int.zero_add, Int.sub_zero, w_168_6, w_168_7, w_168_12, w_168_13, w_168_19, w_168_20, k10, k11, qL, qD]
end ML
