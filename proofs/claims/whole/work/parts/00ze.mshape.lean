/-! The reference: crossings, shapes. -/
theorem ecost_W {P : PT} {e b : Int} {F : Int → Int} (hW : Wf P) (e0 : 0 ≤ e) (e1 : e < pE P) (hF : ∀ k, 1 ≤ F k ∧ F k ≤ 5) : -1 ≤ ecostS P e b F ∧ ecostS P e b F ≤ 6000 := by
  have z := hW.2.2.1 e e0 e1
  have nb : ∀ k f, 0 ≤ ncS P k f ∧ ncS P k f ≤ 198 := fun k f => by
    have h5 := hW.2.2.2.1 5 (by decide) (by decide)
    have h6 := hW.2.2.2.1 6 (by decide) (by decide)
    unfold ncS
    (repeat' split) <;> omega
  have sb : ∀ d a b, 1 ≤ a ∧ a ≤ 5 → 1 ≤ b ∧ b ≤ 5 → ¬ a = b → 0 ≤ d → -1 ≤ stretchS P d a b ∧ stretchS P d a b ≤ 2376 := fun d a b ha hb hne hd => by
    have sp := hW.2.2.2.2 a b ha.1 ha.2 hb.1 hb.2 hne
    have h0 := hW.2.2.2.1 0 (by decide) (by decide)
    unfold stretchS
    split
    · omega
    · have := mul_b (a := pW P 0) (b := max 0 (max (pLo P a b - d) (d - pHi P a b))) (A := 99) (B := 24) (by omega) (by omega) (by omega) (by omega)
      omega
  have f0 := hF 0
  have f1 := hF 1
  have f2 := hF 2
  have a0 := nb (pKy P e 0 + b) (F 0)
  have a1 := nb (pKy P e 1 + b) (F 1)
  have a2 := nb (pKy P e 2 + b) (F 2)
  unfold ecostS
  by_cases c1 : pSz P e ≤ 1
  · rw [if_pos c1]; split <;> omega
  by_cases c2 : (if pR P = 0 then F 1 < F 0 else F 0 < F 1)
  · have d1 := z.2.2.2 0 (by decide) (by omega)
    rw [Int.zero_add] at d1
    have t1 := sb (pKy P e 1 - pKy P e 0) (F 0) (F 1) f0 f1 (by split at c2 <;> omega) (by omega)
    by_cases c3 : pSz P e ≤ 2
    · rw [if_pos c3]; (repeat' split) <;> omega
    by_cases c4 : (if pR P = 0 then F 2 < F 1 else F 1 < F 2)
    · have d2 : pKy P e 1 < pKy P e 2 := z.2.2.2 1 (by decide) (by omega)
      have t2 := sb (pKy P e 2 - pKy P e 1) (F 1) (F 2) f1 f2 (by split at c4 <;> omega) (by omega)
      (repeat' split) <;> omega
    · rw [if_pos c4]; (repeat' split) <;> omega
  · rw [if_pos c2]; (repeat' split) <;> omega
theorem pass_W {P : PT} {e r : Int} {F F' : Int → Int} (hW : Wf P) (e0 : 0 ≤ e) (e1 : e + 1 < pE P) (hr : 0 ≤ r) (hF : ∀ k, 1 ≤ F k ∧ F k ≤ 5) (hF' : ∀ k, 1 ≤ F' k ∧ F' k ≤ 5) : -1 ≤ passS P e r F F' ∧ passS P e r F F' ≤ 21384 := by
  have z := hW.2.2.1 e e0 (by omega)
  have z' := hW.2.2.1 (e + 1) (by omega) e1
  have a0 := end_bM (P := P) (e := e) (n := 0) z.1.1
  have a1 := end_bM (P := P) (e := e) (n := 1) z.1.1
  have b0 := end_bM (P := P) (e := e + 1) (n := 0) z'.1.1
  have b1 := end_bM (P := P) (e := e + 1) (n := 1) z'.1.1
  have y0 := (z.2.2.1 _ a0.1 a0.2).1
  have y1 := (z.2.2.1 _ a1.1 a1.2).1
  have v0 := (z'.2.2.1 _ b0.1 b0.2).1
  have v1 := (z'.2.2.1 _ b1.1 b1.2).1
  have B0 := link_bM (P := P) (k := pKy P e (endS P e 0)) (k' := pKy P (e + 1) (endS P (e + 1) 0)) hW (hF (endS P e 0)) (hF' (endS P (e + 1) 0)) (by omega) (by omega)
  have B1 := link_bM (P := P) (k := pKy P e (endS P e 1)) (k' := pKy P (e + 1) (endS P (e + 1) 1)) hW (hF (endS P e 1)) (hF' (endS P (e + 1) 1)) (by omega) (by omega)
  have w7 := hW.2.2.2.1 7 (by decide) (by decide)
  have m7 := Int.mul_nonneg w7.1 hr
  unfold passS
  (repeat' split) <;> omega
theorem Wf_bd {P : PT} (hW : Wf P) : bdP P := by
  refine ⟨hW.1, hW.2.1, fun e e0 e1 => ⟨(hW.2.2.1 e e0 e1).1, cnt_b hW.1 (hW.2.2.1 e e0 e1).1⟩, fun b e c e0 e1 => ecost_W hW e0 e1 (fun k => fgP_b (hW.2.2.1 e e0 e1).1), fun e r c c' e0 e1 r0 => pass_W hW e0 e1 r0 (fun k => fgP_b (hW.2.2.1 e e0 (by omega)).1) (fun k => fgP_b (hW.2.2.1 (e + 1) (by omega) e1).1), fun e e0 e1 => (hW.2.2.1 e e0 e1).2.1⟩
theorem if34 {c : Prop} [Decidable c] (h : ¬ (if c then (3 : Int) else 4) = 4) : (if c then (3 : Int) else 4) = 3 := by
  by_cases hc : c
  · rw [if_pos hc]
  · exact absurd (if_neg hc) h
section MSH
variable {g : Gm} {I : Mm} {m : Nat}
theorem s_isCrossing {e its k thn i : Int} (hm : isM g m) (hW : Wf (mv I m)) (he : 0 ≤ e ∧ e + 1 < pE (mv I m)) (hi : 0 ≤ its ∧ its < 125) (hk : 0 ≤ k ∧ k < pSz (mv I m) e) (ht : 0 ≤ thn ∧ thn < 125) (hi' : 0 ≤ i ∧ i < pSz (mv I m) (e + 1)) (h4 : ¬ kindS (mv I m) (fgS its k) (pKy (mv I m) e k) (fgS thn i) (pKy (mv I m) (e + 1) i) = 4) :
    cl 206 [.ref m, .int (iI e), .int (iI its), .int (iI k), .int (iI thn), .int (iI i)] (mk g I) = some (.inl (some (.int (iI (if kindS (mv I m) (fgS its k) (pKy (mv I m) e k) (fgS thn i) (pKy (mv I m) (e + 1) i) = 3 then 1 else 0)))), mk g I) := by
  have hm' := hm
  obtain ⟨t_0, ⟨t_1, d_1, n_1⟩, ⟨t_2, d_2, n_2⟩, ⟨t_3, d_3, n_3⟩, ⟨t_4, d_4, n_4⟩, ⟨t_5, d_5, n_5⟩, ⟨t_6, n_6⟩, ⟨t_7, d_7, n_7⟩, ⟨t_8, d_8, n_8⟩, ⟨t_9, d_9, n_9⟩, ⟨t_10, d_10, n_10⟩, ⟨t_11, d_11, n_11⟩, ⟨t_12, d_12, n_12⟩, ⟨t_13, d_13, n_13⟩, ⟨t_14, d_14, n_14⟩, ⟨t_15, n_15⟩, ⟨t_16, n_16⟩, ⟨t_17, d_17, n_17⟩, ⟨t_18, d_18, n_18⟩⟩ := hm
  have w1 := hW.2.1
  have z := hW.2.2.1 e he.1 (by omega)
  have z' := hW.2.2.1 (e + 1) (by omega) (by omega)
  have k1 := (z.2.2.1 k hk.1 hk.2).1
  have k2 := (z'.2.2.1 i hi'.1 hi'.2).1
  have f1 := fgS_b (k := k) hi.1 hi.2
  have f2 := fgS_b (k := i) ht.1 ht.2
  have e1 := s_keyOfM (g := g) (I := I) (e := e) (k := k) hm' (by omega) (by omega)
  have e2 := s_keyOfM (g := g) (I := I) (e := e + 1) (k := i) hm' (by omega) (by omega)
  have e1 : cl 185 [.ref m, .int (iI e), .int (iI k)] (mk g I) = some (.inl (some (.int (iI (pKy (mv I m) e k)))), mk g I) := e1
  have e2 : cl 185 [.ref m, .int (iI (e + 1)), .int (iI i)] (mk g I) = some (.inl (some (.int (iI (pKy (mv I m) (e + 1) i)))), mk g I) := e2
  have hR : I (m + 1) 1 = 0 ∨ I (m + 1) 1 = 1 := hW.1
  have E : kindS (mv I m) (fgS its k) (pKy (mv I m) e k) (fgS thn i) (pKy (mv I m) (e + 1) i) = if pKy (mv I m) e k = pKy (mv I m) (e + 1) i then 0 else if fgS its k = fgS thn i then 1 else if (0 < (if I (m + 1) 1 = 0 then pKy (mv I m) e k - pKy (mv I m) (e + 1) i else pKy (mv I m) (e + 1) i - pKy (mv I m) e k)) = (fgS its k < fgS thn i) then 2 else if min (fgS its k) (fgS thn i) = 1 ∧ max (fgS its k) (fgS thn i) < 5 ∧ (if 0 ≤ pKy (mv I m) (e + 1) i - pKy (mv I m) e k then pKy (mv I m) (e + 1) i - pKy (mv I m) e k else pKy (mv I m) e k - pKy (mv I m) (e + 1) i) ≤ pW (mv I m) 9 then 3 else 4 := rfl
  have hfi := s_fingerIn (g := g) (I := I) (a := its) (k := k) (by omega) (by omega)
  have hfi2 := s_fingerIn (g := g) (I := I) (a := thn) (k := i) (by omega) (by omega)
  generalize fgS its k = f at *
  generalize fgS thn i = f' at *
  generalize pKy (mv I m) e k = K at *
  generalize pKy (mv I m) (e + 1) i = K' at *
  obtain ⟨W, hWy⟩ : ∃ W : Int, W = if I (m + 1) 1 = 0 then K - K' else K' - K := ⟨_, rfl⟩
  rw [← hWy] at E
  have hW0 : W = 0 ↔ K = K' := by rw [hWy]; split <;> omega
  have hWb : -1000 ≤ W ∧ W ≤ 1000 := by rw [hWy]; split <;> omega
  have start : cl 206 [.ref m, .int (iI e), .int (iI its), .int (iI k), .int (iI thn), .int (iI i)] (mk g I) = rn 206 9 [some (.ref m), some (.int (iI e)), some (.int (iI its)), some (.int (iI k)), some (.int (iI thn)), some (.int (iI i)), some (.int (iI f)), some (.int (iI f')), none] [.int (iI W)] (mk g I) := by
    rcases hR with hR | hR
    · rw [hWy, if_pos hR]
      simp (maxSteps := 2000000) (disch := first | assumption | omega) only [aft_v, aft_n, aft_t, Nat.add_assoc, Nat.reduceAdd, if_true, if_false, not_true_eq_false, not_false_eq_true, Classical.not_not, Int.reduceAdd, Int.reduceSub, Int.reduceMul, Int.reduceNeg, Int.reduceLT, Int.reduceLE, Int.reduceEq, Int.add_zero, Int.zero_add, Int.sub_zero, c_206, w_206_0, w_206_1, w_206_2, w_206_3, w_206_4, w_206_5, w_206_6, w_206_7, w_206_8, hfi, hfi2, hR, e1, e2, show ¬ (0 : Int) = 1 by decide]
    · rw [hWy, if_neg (show ¬ I (m + 1) 1 = 0 by omega)]
      simp (maxSteps := 2000000) (disch := first | assumption | omega) only [aft_v, aft_n, aft_t, Nat.add_assoc, Nat.reduceAdd, if_true, if_false, not_true_eq_false, not_false_eq_true, Classical.not_not, Int.reduceAdd, Int.reduceSub, Int.reduceMul, Int.reduceNeg, Int.reduceLT, Int.reduceLE, Int.reduceEq, Int.add_zero, Int.zero_add, Int.sub_zero, c_206, w_206_0, w_206_1, w_206_2, w_206_3, w_206_4, w_206_5, w_206_6, w_206_7, w_206_8, hfi, hfi2, hR, e1, e2]
  rw [start]
  have hbi : ((0 < W) = (f < f')) ↔ (0 < W ↔ f < f') := ⟨fun e => by rw [e], propext⟩
  by_cases c0 : W = 0
  · rw [if_pos (hW0.mp c0)] at E
    rw [E, if_neg (by decide)]
    simp (maxSteps := 2000000) (disch := first | assumption | omega) only [aft_v, aft_n, aft_t, Nat.add_assoc, Nat.reduceAdd, if_true, if_false, not_true_eq_false, not_false_eq_true, Classical.not_not, Int.reduceAdd, Int.reduceSub, Int.reduceMul, Int.reduceNeg, Int.reduceLT, Int.reduceLE, Int.reduceEq, Int.add_zero, Int.zero_add, Int.sub_zero, w_206_9, w_206_19, w_206_20, c0]
  rw [if_neg (fun z => c0 (hW0.mpr z))] at E
  by_cases c1 : f = f'
  · rw [if_pos c1] at E
    rw [E, if_neg (by decide)]
    simp (maxSteps := 2000000) (disch := first | assumption | omega) only [aft_v, aft_n, aft_t, Nat.add_assoc, Nat.reduceAdd, if_true, if_false, not_true_eq_false, not_false_eq_true, Classical.not_not, Int.reduceAdd, Int.reduceSub, Int.reduceMul, Int.reduceNeg, Int.reduceLT, Int.reduceLE, Int.reduceEq, Int.add_zero, Int.zero_add, Int.sub_zero, w_206_9, w_206_10, w_206_19, w_206_20, c0, c1]
  rw [if_neg c1] at E
  by_cases c2 : (0 < W) = (f < f')
  · rw [if_pos c2] at E
    rw [E, if_neg (by decide)]
    have c2' := hbi.mp c2
    by_cases c3 : 0 < W
    · simp (maxSteps := 2000000) (disch := first | assumption | omega) only [aft_v, aft_n, aft_t, Nat.add_assoc, Nat.reduceAdd, if_true, if_false, not_true_eq_false, not_false_eq_true, Classical.not_not, Int.reduceAdd, Int.reduceSub, Int.reduceMul, Int.reduceNeg, Int.reduceLT, Int.reduceLE, Int.reduceEq, Int.add_zero, Int.zero_add, Int.sub_zero, w_206_9, w_206_10, w_206_11, w_206_12, w_206_13, w_206_14, w_206_15, w_206_16, w_206_17, w_206_18, w_206_19, w_206_20, c0, c1, if_neg (show ¬ W ≤ 0 by omega), if_neg (show ¬ f' ≤ f by omega)]
    · simp (maxSteps := 2000000) (disch := first | assumption | omega) only [aft_v, aft_n, aft_t, Nat.add_assoc, Nat.reduceAdd, if_true, if_false, not_true_eq_false, not_false_eq_true, Classical.not_not, Int.reduceAdd, Int.reduceSub, Int.reduceMul, Int.reduceNeg, Int.reduceLT, Int.reduceLE, Int.reduceEq, Int.add_zero, Int.zero_add, Int.sub_zero, w_206_9, w_206_10, w_206_11, w_206_12, w_206_13, w_206_14, w_206_15, w_206_16, w_206_17, w_206_18, w_206_19, w_206_20, c0, c1, if_pos (show W ≤ 0 by omega), if_pos (show f' ≤ f by omega)]
  · rw [if_neg c2] at E
    have c2' : ¬ (0 < W ↔ f < f') := fun z => c2 (hbi.mpr z)
    have E3 : kindS (mv I m) f K f' K' = 3 := by
      rw [E] at h4 ⊢
      exact if34 h4
    rw [if_pos E3]
    by_cases c3 : 0 < W
    · simp (maxSteps := 2000000) (disch := first | assumption | omega) only [aft_v, aft_n, aft_t, Nat.add_assoc, Nat.reduceAdd, if_true, if_false, not_true_eq_false, not_false_eq_true, Classical.not_not, Int.reduceAdd, Int.reduceSub, Int.reduceMul, Int.reduceNeg, Int.reduceLT, Int.reduceLE, Int.reduceEq, Int.add_zero, Int.zero_add, Int.sub_zero, w_206_9, w_206_10, w_206_11, w_206_12, w_206_13, w_206_14, w_206_15, w_206_16, w_206_17, w_206_18, w_206_19, w_206_20, c0, c1, if_neg (show ¬ W ≤ 0 by omega), if_pos (show f' ≤ f by omega), show ¬ (1 : Int) = 0 by decide]
    · simp (maxSteps := 2000000) (disch := first | assumption | omega) only [aft_v, aft_n, aft_t, Nat.add_assoc, Nat.reduceAdd, if_true, if_false, not_true_eq_false, not_false_eq_true, Classical.not_not, Int.reduceAdd, Int.reduceSub, Int.reduceMul, Int.reduceNeg, Int.reduceLT, Int.reduceLE, Int.reduceEq, Int.add_zero, Int.zero_add, Int.sub_zero, w_206_9, w_206_10, w_206_11, w_206_12, w_206_13, w_206_14, w_206_15, w_206_16, w_206_17, w_206_18, w_206_19, w_206_20, c0, c1, if_pos (show W ≤ 0 by omega), if_neg (show ¬ f' ≤ f by omega), show ¬ (0 : Int) = 1 by decide]
theorem link_4 {P : PT} {f k f' k' : Int} (h : ¬ linkS P f k f' k' = -1) : ¬ kindS P f k f' k' = 4 := by
  intro h4
  apply h
  unfold linkS
  rw [h4, if_neg (by decide), if_neg (by decide), if_neg (by decide), if_neg (by decide)]
theorem s_crossingsM {e its thn : Int} (hm : isM g m) (hW : Wf (mv I m)) (he : 0 ≤ e ∧ e + 1 < pE (mv I m)) (hi : 0 ≤ its ∧ its < 125) (ht : 0 ≤ thn ∧ thn < 125) (hp : ¬ passS (mv I m) e (pRe (mv I m) e) (fgS its) (fgS thn) = -1) :
    cl 207 [.ref m, .int (iI e), .int (iI its), .int (iI thn)] (mk g I) = some (.inl (some (.int (iI (crossS (mv I m) e (fgS its) (fgS thn))))), mk g I) := by
  have hm' := hm
  obtain ⟨t_0, ⟨t_1, d_1, n_1⟩, ⟨t_2, d_2, n_2⟩, ⟨t_3, d_3, n_3⟩, ⟨t_4, d_4, n_4⟩, ⟨t_5, d_5, n_5⟩, ⟨t_6, n_6⟩, ⟨t_7, d_7, n_7⟩, ⟨t_8, d_8, n_8⟩, ⟨t_9, d_9, n_9⟩, ⟨t_10, d_10, n_10⟩, ⟨t_11, d_11, n_11⟩, ⟨t_12, d_12, n_12⟩, ⟨t_13, d_13, n_13⟩, ⟨t_14, d_14, n_14⟩, ⟨t_15, n_15⟩, ⟨t_16, n_16⟩, ⟨t_17, d_17, n_17⟩, ⟨t_18, d_18, n_18⟩⟩ := hm
  have w0 := hW.1
  have w1 := hW.2.1
  have z := hW.2.2.1 e he.1 (by omega)
  have z' := hW.2.2.1 (e + 1) (by omega) (by omega)
  have wt : ∀ w, 0 ≤ w → w < 10 → 0 ≤ I (m + 1) (2 + w) ∧ I (m + 1) (2 + w) ≤ 99 := hW.2.2.2.1
  have x8 : 0 ≤ I (m + 1) 10 ∧ I (m + 1) 10 ≤ 99 := wt 8 (by decide) (by decide)
  have rb : 0 ≤ I (m + 1) (42 + 8 * e + 1) ∧ I (m + 1) (42 + 8 * e + 1) ≤ 9 := z.2.1
  have s1 : 1 ≤ I (m + 1) (42 + 8 * e) ∧ I (m + 1) (42 + 8 * e) ≤ 3 := z.1
  have s2 : 1 ≤ I (m + 1) (42 + 8 * (e + 1)) ∧ I (m + 1) (42 + 8 * (e + 1)) ≤ 3 := z'.1
  have hfr : cl 193 [.ref m, .int (iI e)] (mk g I) = some (.inl (some (.int (iI (if I (m + 1) 10 ≤ I (m + 1) (42 + 8 * e + 1) then 1 else 0)))), mk g I) := s_isFreeM (g := g) (I := I) (e := e) hm' (by omega) (by omega) (by have : I (m + 1) (2 + 8) = I (m + 1) 10 := rfl; omega)
  have a0 := end_bM (P := mv I m) (e := e) (n := 0) z.1.1
  have a1 := end_bM (P := mv I m) (e := e) (n := 1) z.1.1
  have b0 := end_bM (P := mv I m) (e := e + 1) (n := 0) z'.1.1
  have b1 := end_bM (P := mv I m) (e := e + 1) (n := 1) z'.1.1
  have L0 := s_isCrossing (g := g) (I := I) (e := e) (its := its) (k := endS (mv I m) e 0) (thn := thn) (i := endS (mv I m) (e + 1) 0) hm' hW he hi a0 ht b0
  have L1 := s_isCrossing (g := g) (I := I) (e := e) (its := its) (k := endS (mv I m) e 1) (thn := thn) (i := endS (mv I m) (e + 1) 1) hm' hW he hi a1 ht b1
  have hR : I (m + 1) 1 = 0 ∨ I (m + 1) 1 = 1 := w0
  have E : crossS (mv I m) e (fgS its) (fgS thn) =
    if I (m + 1) 10 ≤ I (m + 1) (42 + 8 * e + 1) then 0 else
    (if kindS (mv I m) (fgS its (endS (mv I m) e 0)) (pKy (mv I m) e (endS (mv I m) e 0)) (fgS thn (endS (mv I m) (e + 1) 0)) (pKy (mv I m) (e + 1) (endS (mv I m) (e + 1) 0)) = 3 then 1 else 0) +
    (if (1 < I (m + 1) (42 + 8 * e) ∨ 1 < I (m + 1) (42 + 8 * (e + 1))) ∧ kindS (mv I m) (fgS its (endS (mv I m) e 1)) (pKy (mv I m) e (endS (mv I m) e 1)) (fgS thn (endS (mv I m) (e + 1) 1)) (pKy (mv I m) (e + 1) (endS (mv I m) (e + 1) 1)) = 3 then 1 else 0) := rfl
  have P9 : passS (mv I m) e (pRe (mv I m) e) (fgS its) (fgS thn) =
    if I (m + 1) 10 ≤ I (m + 1) (42 + 8 * e + 1) then 0 else
    if linkS (mv I m) (fgS its (endS (mv I m) e 0)) (pKy (mv I m) e (endS (mv I m) e 0)) (fgS thn (endS (mv I m) (e + 1) 0)) (pKy (mv I m) (e + 1) (endS (mv I m) (e + 1) 0)) = -1 then -1 else
    if ¬ (1 < I (m + 1) (42 + 8 * e) ∨ 1 < I (m + 1) (42 + 8 * (e + 1))) then max 0 (linkS (mv I m) (fgS its (endS (mv I m) e 0)) (pKy (mv I m) e (endS (mv I m) e 0)) (fgS thn (endS (mv I m) (e + 1) 0)) (pKy (mv I m) (e + 1) (endS (mv I m) (e + 1) 0)) - I (m + 1) 9 * I (m + 1) (42 + 8 * e + 1)) else
    if linkS (mv I m) (fgS its (endS (mv I m) e 1)) (pKy (mv I m) e (endS (mv I m) e 1)) (fgS thn (endS (mv I m) (e + 1) 1)) (pKy (mv I m) (e + 1) (endS (mv I m) (e + 1) 1)) = -1 then -1 else
    max 0 (linkS (mv I m) (fgS its (endS (mv I m) e 0)) (pKy (mv I m) e (endS (mv I m) e 0)) (fgS thn (endS (mv I m) (e + 1) 0)) (pKy (mv I m) (e + 1) (endS (mv I m) (e + 1) 0)) + linkS (mv I m) (fgS its (endS (mv I m) e 1)) (pKy (mv I m) e (endS (mv I m) e 1)) (fgS thn (endS (mv I m) (e + 1) 1)) (pKy (mv I m) (e + 1) (endS (mv I m) (e + 1) 1)) - I (m + 1) 9 * I (m + 1) (42 + 8 * e + 1)) := rfl
  rw [P9] at hp
  rw [E]
  by_cases c0 : I (m + 1) 10 ≤ I (m + 1) (42 + 8 * e + 1)
  · rw [if_pos c0] at hfr ⊢
    simp (maxSteps := 2000000) (disch := first | assumption | omega) only [aft_v, aft_n, aft_t, Nat.add_assoc, Nat.reduceAdd, if_true, if_false, not_true_eq_false, not_false_eq_true, Classical.not_not, Int.reduceAdd, Int.reduceSub, Int.reduceMul, Int.reduceNeg, Int.reduceLT, Int.reduceLE, Int.reduceEq, Int.add_zero, Int.zero_add, Int.sub_zero, c_207, w_207_0, w_207_1, w_207_2, hfr, show ¬ (1 : Int) = 0 by decide]
  rw [if_neg c0] at hfr hp ⊢
  have n0 : ¬ linkS (mv I m) (fgS its (endS (mv I m) e 0)) (pKy (mv I m) e (endS (mv I m) e 0)) (fgS thn (endS (mv I m) (e + 1) 0)) (pKy (mv I m) (e + 1) (endS (mv I m) (e + 1) 0)) = -1 := fun h => by rw [if_pos h] at hp; exact hp rfl
  rw [if_neg n0] at hp
  have L0 := L0 (link_4 n0)
  have kb0 : ∀ X : Int, (if X = 3 then (1 : Int) else 0) = 0 ∨ (if X = 3 then (1 : Int) else 0) = 1 := fun X => bz01
  have q0 := kb0 (kindS (mv I m) (fgS its (endS (mv I m) e 0)) (pKy (mv I m) e (endS (mv I m) e 0)) (fgS thn (endS (mv I m) (e + 1) 0)) (pKy (mv I m) (e + 1) (endS (mv I m) (e + 1) 0)))
  generalize (if kindS (mv I m) (fgS its (endS (mv I m) e 0)) (pKy (mv I m) e (endS (mv I m) e 0)) (fgS thn (endS (mv I m) (e + 1) 0)) (pKy (mv I m) (e + 1) (endS (mv I m) (e + 1) 0)) = 3 then (1 : Int) else 0) = Q0 at *
  by_cases c1 : 1 < I (m + 1) (42 + 8 * e) ∨ 1 < I (m + 1) (42 + 8 * (e + 1))
  · rw [if_neg (fun z => z c1)] at hp
    have n1 : ¬ linkS (mv I m) (fgS its (endS (mv I m) e 1)) (pKy (mv I m) e (endS (mv I m) e 1)) (fgS thn (endS (mv I m) (e + 1) 1)) (pKy (mv I m) (e + 1) (endS (mv I m) (e + 1) 1)) = -1 := fun h => by rw [if_pos h] at hp; exact hp rfl
    have L1 := L1 (link_4 n1)
    have e9 : ∀ X : Int, (if (1 < I (m + 1) (42 + 8 * e) ∨ 1 < I (m + 1) (42 + 8 * (e + 1))) ∧ X = 3 then (1 : Int) else 0) = if X = 3 then 1 else 0 := fun X => by
      by_cases hx : X = 3
      · rw [if_pos ⟨c1, hx⟩, if_pos hx]
      · rw [if_neg (fun z => hx z.2), if_neg hx]
    rw [e9]
    have q1 := kb0 (kindS (mv I m) (fgS its (endS (mv I m) e 1)) (pKy (mv I m) e (endS (mv I m) e 1)) (fgS thn (endS (mv I m) (e + 1) 1)) (pKy (mv I m) (e + 1) (endS (mv I m) (e + 1) 1)))
    generalize (if kindS (mv I m) (fgS its (endS (mv I m) e 1)) (pKy (mv I m) e (endS (mv I m) e 1)) (fgS thn (endS (mv I m) (e + 1) 1)) (pKy (mv I m) (e + 1) (endS (mv I m) (e + 1) 1)) = 3 then (1 : Int) else 0) = Q1 at *
    rcases q0 with rfl | rfl <;> rcases q1 with rfl | rfl <;> simp (maxSteps := 2000000) (disch := first | assumption | omega) only [aft_v, aft_n, aft_t, Nat.add_assoc, Nat.reduceAdd, if_true, if_false, not_true_eq_false, not_false_eq_true, Classical.not_not, Int.reduceAdd, Int.reduceSub, Int.reduceMul, Int.reduceNeg, Int.reduceLT, Int.reduceLE, Int.reduceEq, Int.add_zero, Int.zero_add, Int.sub_zero, c_207, w_207_0, w_207_1, w_207_2, w_207_3, w_207_4, w_207_5, w_207_6, w_207_7, w_207_8, w_207_9, w_207_10, w_207_11, w_207_12, w_207_13, w_207_14, w_207_15, w_207_16, w_207_17, w_207_18, w_207_19, w_207_20, w_207_21, hfr, s_firstNote, s_lastNote, L0, L1, s_notesOf, if_neg (show ¬ I (m + 1) (42 + 8 * e) + I (m + 1) (42 + 8 * (e + 1)) ≤ 2 by omega), show ¬ (1 : Int) = 0 by decide]
  · rw [if_neg (fun z => c1 z.1)]
    rcases q0 with rfl | rfl <;> simp (maxSteps := 2000000) (disch := first | assumption | omega) only [aft_v, aft_n, aft_t, Nat.add_assoc, Nat.reduceAdd, if_true, if_false, not_true_eq_false, not_false_eq_true, Classical.not_not, Int.reduceAdd, Int.reduceSub, Int.reduceMul, Int.reduceNeg, Int.reduceLT, Int.reduceLE, Int.reduceEq, Int.add_zero, Int.zero_add, Int.sub_zero, c_207, w_207_0, w_207_1, w_207_2, w_207_3, w_207_4, w_207_5, w_207_6, w_207_7, w_207_8, w_207_9, w_207_10, w_207_11, w_207_12, w_207_13, w_207_14, w_207_15, w_207_16, w_207_17, w_207_18, w_207_19, w_207_20, w_207_21, hfr, s_firstNote, L0, s_notesOf, if_pos (show I (m + 1) (42 + 8 * e) + I (m + 1) (42 + 8 * (e + 1)) ≤ 2 by omega), show ¬ (1 : Int) = 0 by decide]
/-- the shapes of event e in the reference -/
def ShM (P : PT) (m : Nat) (I : Mm) (e : Int) : Prop := I (m + 11) e = cntS P e ∧ ∀ c, 0 ≤ c → c < cntS P e → I (m + 9) (10 * e + c) = itS P e c ∧ I (m + 10) (10 * e + c) = ownS P 0 e c
/-- the shapes of event e among the first j -/
def LM (P : PT) (m : Nat) (e : Int) (j : Nat) (I0 I : Mm) : Prop :=
  I (m + 11) e = ((flt (okm P e) j).length : Int) ∧ (∀ c : Nat, c < (flt (okm P e) j).length → I (m + 9) (10 * e + c) = (((flt (okm P e) j).getD c 0 : Nat) : Int) * stpN (pSz P e) ∧ I (m + 10) (10 * e + c) = ecostS P e 0 (fgS (((flt (okm P e) j).getD c 0 : Nat) * stpN (pSz P e)))) ∧
  (∀ p i, ¬ p = m + 8 → ¬ (p = m + 11 ∧ i = e) → ¬ (p = m + 9 ∧ 10 * e ≤ i ∧ i < 10 * e + 10) → ¬ (p = m + 10 ∧ 10 * e ≤ i ∧ i < 10 * e + 10) → I p i = I0 p i)
theorem LM_Sh {P : PT} {e : Int} {I0 : Mm} (h : LM P m e (mN (pSz P e)) I0 I) : ShM P m I e := by
  refine ⟨h.1, fun c c0 c1 => ?_⟩
  have h2 := h.2.1 c.toNat (by have : (cntS P e) = ((flt (okm P e) (mN (pSz P e))).length : Int) := rfl; omega)
  rw [show ((c.toNat : Nat) : Int) = c by omega] at h2
  exact h2
theorem s_laysShapes {P : PT} (hm : isM g m) (hW : Wf (mv I m)) (hP : P = mv I m) :
    ∃ I', cl 201 [.ref m] (mk g I) = some (.inl none, mk g I') ∧ (∀ p, ¬ p = m + 8 → ¬ p = m + 9 → ¬ p = m + 10 → ¬ p = m + 11 → I' p = I p) ∧ ∀ e, 0 ≤ e → e < pE P → ShM P m I' e := by
  have hm' := hm
  obtain ⟨t_0, ⟨t_1, d_1, n_1⟩, ⟨t_2, d_2, n_2⟩, ⟨t_3, d_3, n_3⟩, ⟨t_4, d_4, n_4⟩, ⟨t_5, d_5, n_5⟩, ⟨t_6, n_6⟩, ⟨t_7, d_7, n_7⟩, ⟨t_8, d_8, n_8⟩, ⟨t_9, d_9, n_9⟩, ⟨t_10, d_10, n_10⟩, ⟨t_11, d_11, n_11⟩, ⟨t_12, d_12, n_12⟩, ⟨t_13, d_13, n_13⟩, ⟨t_14, d_14, n_14⟩, ⟨t_15, n_15⟩, ⟨t_16, n_16⟩, ⟨t_17, d_17, n_17⟩, ⟨t_18, d_18, n_18⟩⟩ := hm
  have hEP : pE P = I (m + 1) 0 := by rw [hP]; rfl
  rw [← hP] at hW
  have w1 := hW.2.1
  have mvG : ∀ {J : Mm}, J (m + 1) = I (m + 1) → mv J m = P := fun h => by rw [hP]; unfold mv; rw [h]
  have outer := loop_up (σ := Mm × Option Value × Option Value × Option Value) (head := fun e s => rn 201 1 [some (.ref m), some (.int (iI e)), s.2.1, s.2.2.1, s.2.2.2] [] (mk g s.1))
    (Inv := fun e s => 0 ≤ e ∧ (∀ p, ¬ p = m + 8 → ¬ p = m + 9 → ¬ p = m + 10 → ¬ p = m + 11 → s.1 p = I p) ∧ ∀ e', 0 ≤ e' → e' < e → ShM P m s.1 e') (n := pE P) (by
    rintro e ⟨J0, o2, o3, o4⟩ hlt ⟨e0, h1, h2⟩
    have h1 : ∀ p, ¬ p = m + 8 → ¬ p = m + 9 → ¬ p = m + 10 → ¬ p = m + 11 → J0 p = I p := h1
    have h2 : ∀ e', 0 ≤ e' → e' < e → ShM P m J0 e' := h2
    have he' : 0 ≤ e ∧ e < 40 := by omega
    have z := hW.2.2.1 e e0 hlt
    obtain ⟨n, hn⟩ : ∃ n : Int, n = pSz P e := ⟨_, rfl⟩
    rw [← hn] at z
    have hnI : ∀ {J : Mm}, J (m + 1) = I (m + 1) → J (m + 1) (42 + 8 * e) = n := fun h => by rw [h, hn, hP]; rfl
    have hno : ∀ {J : Mm}, J (m + 1) = I (m + 1) → cl 183 [.ref m, .int (iI e)] (mk g J) = some (.inl (some (.int (iI n))), mk g J) := fun {J} h => by rw [← hnI h]; exact s_notesOf hm' he'
    have j01 : J0 (m + 1) = I (m + 1) := h1 _ (by omega) (by omega) (by omega) (by omega)
    obtain ⟨st, hst⟩ : ∃ st : Int, st = stpN n := ⟨_, rfl⟩
    have hs123 : (n = 1 ∧ st = 25 ∧ mN n = 5) ∨ (n = 2 ∧ st = 5 ∧ mN n = 25) ∨ (n = 3 ∧ st = 1 ∧ mN n = 125) := by
      have : n = 1 ∨ n = 2 ∨ n = 3 := by omega
      rcases this with h | h | h <;> rw [h] at hst ⊢
      · exact Or.inl ⟨rfl, hst, rfl⟩
      · exact Or.inr (Or.inl ⟨rfl, hst, rfl⟩)
      · exact Or.inr (Or.inr ⟨rfl, hst, rfl⟩)
    have inner := loop_up (σ := Mm × Option Value) (head := fun j s => rn 201 11 [some (.ref m), some (.int (iI e)), some (.int (iI st)), some (.int (iI (j * st))), s.2] [] (mk g s.1))
      (Inv := fun j s => 0 ≤ j ∧ LM P m e j.toNat J0 s.1) (n := (mN n : Int)) (by
      rintro j ⟨J, o4⟩ j1 ⟨j0, l1, l2, l3⟩
      have l1 : J (m + 11) e = ((flt (okm P e) j.toNat).length : Int) := l1
      have l3 : ∀ p i, ¬ p = m + 8 → ¬ (p = m + 11 ∧ i = e) → ¬ (p = m + 9 ∧ 10 * e ≤ i ∧ i < 10 * e + 10) → ¬ (p = m + 10 ∧ 10 * e ≤ i ∧ i < 10 * e + 10) → J p i = J0 p i := l3
      have l2 : ∀ c : Nat, c < (flt (okm P e) j.toNat).length → J (m + 9) (10 * e + c) = (((flt (okm P e) j.toNat).getD c 0 : Nat) : Int) * stpN (pSz P e) ∧ J (m + 10) (10 * e + c) = ecostS P e 0 (fgS (((flt (okm P e) j.toNat).getD c 0 : Nat) * stpN (pSz P e))) := l2
      have jm1 : J (m + 1) = I (m + 1) := by rw [← j01]; exact funext fun i => l3 _ i (by omega) (by omega) (by omega) (by omega)
      have jj : ((j.toNat : Nat) : Int) = j := by omega
      have hit : 0 ≤ j * st ∧ j * st < 125 := by
        rcases hs123 with ⟨_, h, h'⟩ | ⟨_, h, h'⟩ | ⟨_, h, h'⟩ <;> rw [h] <;> omega
      obtain ⟨K, k1, k2, k3⟩ := s_looksAt (g := g) (I := J) (its := j * st) (n := n) hm' hit z.1
      have km1 : K (m + 1) = I (m + 1) := by rw [k2 _ (by omega), jm1]
      have hPK := mvG km1
      have hcost := s_costHere (g := g) (I := K) (e := e) hm' (by rw [hPK]; exact hW) (by rw [hPK]; exact ⟨e0, hlt⟩) (fun k a b => by rw [hPK, ← hn] at b; rw [k3 k a b]; exact fgS_b hit.1 hit.2)
      have hEc : ecostS (mv K m) e 0 (K (m + 8)) = ecostS P e 0 (fgS (j * st)) := by
        rw [hPK]; exact ecost_F (by rw [← hn]; exact z.1.1) (fun k a b _ => k3 k a (by rw [hn]; exact b))
      rw [hEc] at hcost
      have hok : okm P e j.toNat ↔ ¬ ecostS P e 0 (fgS (j * st)) = -1 := by
        unfold okm; rw [jj, ← hn, ← hst]
      have k11 : K (m + 11) e = ((flt (okm P e) j.toNat).length : Int) := by rw [k2 _ (by omega)]; exact l1
      have hlen := shp_le (P := P) (e := e) hW.1 (by rw [← hn]; exact z.1) (m := j.toNat + 1) (by rw [← hn]; omega)
      have hex : j * st + st = (j + 1) * st := by rw [Int.add_mul, Int.one_mul]
      have hcr := ecost_W (b := 0) (F := fgS (j * st)) hW e0 hlt (fun k => fgS_b hit.1 hit.2)
      by_cases hc : ecostS P e 0 (fgS (j * st)) = -1
      · have hnk : ¬ okm P e j.toNat := fun z => hok.mp z hc
        refine ⟨(K, some (.int (iI (-1)))), ?_, by omega, ?_⟩
        · show rn _ _ _ _ (mk g J) = rn _ _ [_, _, _, some (.int (iI ((j + 1) * st))), _] _ _
          rw [← hex]
          rw [hc] at hcost
          refine (w_201_11 (by first | assumption | omega) (by first | assumption | omega)).trans ?_
          refine (if_neg (by omega)).trans ?_
          simp (maxSteps := 2000000) (disch := first | assumption | omega) only [aft_v, aft_n, aft_t, Nat.add_assoc, Nat.reduceAdd, if_true, if_false, not_true_eq_false, not_false_eq_true, Classical.not_not, Int.reduceAdd, Int.reduceSub, Int.reduceMul, Int.reduceNeg, Int.reduceLT, Int.reduceLE, Int.reduceEq, Int.add_zero, Int.zero_add, Int.sub_zero, w_201_12, w_201_13, w_201_14, w_201_15, w_201_16, w_201_18, hno jm1, hno km1, k1, hcost]
        · show LM P m e (j + 1).toNat J0 K
          unfold LM
          rw [show (j + 1).toNat = j.toNat + 1 by omega, flt_n hnk]
          refine ⟨k11, fun c hcl => ?_, fun p i a1 a2 a3 a4 => by rw [k2 p a1]; exact l3 p i a1 a2 a3 a4⟩
          rw [k2 (m + 9) (by omega), k2 (m + 10) (by omega)]
          exact l2 c hcl
      · have hk := hok.mpr hc
        rw [flt_y hk] at hlen
        simp only [List.length_append, List.length_cons, List.length_nil] at hlen
        obtain ⟨c, hcn⟩ : ∃ c : Nat, c = (flt (okm P e) j.toNat).length := ⟨_, rfl⟩
        rw [← hcn] at l1 l2 k11 hlen
        refine ⟨(upd2 (upd2 (upd2 K (m + 9) (10 * e + c) (j * st)) (m + 10) (10 * e + c) (ecostS P e 0 (fgS (j * st)))) (m + 11) e (c + 1), some (.int (iI (ecostS P e 0 (fgS (j * st)))))), ?_, by omega, ?_⟩
        · have u1 : upd2 K (m + 9) (10 * e + K (m + 11) e) (j * st) (m + 11) e = c := by rw [upd2_p (by omega), k11]
          have u2 : upd2 (upd2 K (m + 9) (10 * e + K (m + 11) e) (j * st)) (m + 10) (10 * e + upd2 K (m + 9) (10 * e + K (m + 11) e) (j * st) (m + 11) e) (ecostS P e 0 (fgS (j * st))) (m + 11) e = c := by rw [upd2_p (by omega), u1]
          have u3 : upd2 K (m + 9) (10 * e + c) (j * st) (m + 11) e = c := by rw [upd2_p (by omega), k11]
          have u4 : upd2 (upd2 K (m + 9) (10 * e + c) (j * st)) (m + 10) (10 * e + c) (ecostS P e 0 (fgS (j * st))) (m + 11) e = c := by rw [upd2_p (by omega), u3]
          show rn _ _ _ _ (mk g J) = rn _ _ [_, _, _, some (.int (iI ((j + 1) * st))), _] _ _
          rw [← hex]
          refine (w_201_11 (by first | assumption | omega) (by first | assumption | omega)).trans ?_
          refine (if_neg (by omega)).trans ?_
          simp (maxSteps := 2000000) (disch := first | assumption | omega) only [aft_v, aft_n, aft_t, Nat.add_assoc, Nat.reduceAdd, if_true, if_false, not_true_eq_false, not_false_eq_true, Classical.not_not, Int.reduceAdd, Int.reduceSub, Int.reduceMul, Int.reduceNeg, Int.reduceLT, Int.reduceLE, Int.reduceEq, Int.add_zero, Int.zero_add, Int.sub_zero, w_201_12, w_201_13, w_201_14, w_201_15, w_201_17, w_201_18, hno jm1, hno km1, k1, hcost, hc, k11, u3, u4]
        · show LM P m e (j + 1).toNat J0 (upd2 (upd2 (upd2 K (m + 9) (10 * e + c) (j * st)) (m + 10) (10 * e + c) (ecostS P e 0 (fgS (j * st)))) (m + 11) e (c + 1))
          unfold LM
          rw [show (j + 1).toNat = j.toNat + 1 by omega, flt_y hk]
          refine ⟨?_, fun d hd => ?_, fun p i a1 a2 a3 a4 => ?_⟩
          · rw [upd2_at]; simp only [List.length_append, List.length_cons, List.length_nil]; omega
          · simp only [List.length_append, List.length_cons, List.length_nil, ← hcn] at hd
            by_cases hdc : d < c
            · rw [getD_app (by omega)]
              obtain ⟨x1, x2⟩ := l2 d hdc
              refine ⟨?_, ?_⟩
              · rw [upd2_p (by omega), upd2_p (by omega), upd2_i (by omega), k2 _ (by omega)]; exact x1
              · rw [upd2_p (by omega), upd2_i (by omega), upd2_p (by omega), k2 _ (by omega)]; exact x2
            · have : d = c := by omega
              subst this
              rw [hcn, getD_last, jj, ← hn, ← hst, ← hcn]
              refine ⟨?_, ?_⟩
              · rw [upd2_p (by omega), upd2_p (by omega), upd2_at]
              · rw [upd2_p (by omega), upd2_at]
          · have b1 : upd2 (upd2 (upd2 K (m + 9) (10 * e + c) (j * st)) (m + 10) (10 * e + c) (ecostS P e 0 (fgS (j * st)))) (m + 11) e (c + 1) p i = K p i := by
              unfold upd2
              rw [if_neg (by omega), if_neg (by omega), if_neg (by omega)]
            rw [b1, k2 p a1]; exact l3 p i a1 a2 a3 a4) 0 (upd2 J0 (m + 11) e 0, o4) (by omega) ⟨Int.le_refl _, by
      show LM P m e 0 J0 (upd2 J0 (m + 11) e 0)
      refine ⟨by rw [upd2_at]; rfl, fun c hc => absurd hc (Nat.not_lt_zero _), fun p i a1 a2 _ _ => ?_⟩
      unfold upd2; rw [if_neg (by omega)]⟩
    obtain ⟨⟨J1, p4⟩, e1, -, q1⟩ := inner
    have e1 : rn 201 11 [some (.ref m), some (.int (iI e)), some (.int (iI st)), some (.int (iI (0 * st))), o4] [] (mk g (upd2 J0 (m + 11) e 0)) = rn 201 11 [some (.ref m), some (.int (iI e)), some (.int (iI st)), some (.int (iI ((mN n : Int) * st))), p4] [] (mk g J1) := e1
    have hlast : (mN n : Int) * st = 125 := by
      rcases hs123 with ⟨_, h, h'⟩ | ⟨_, h, h'⟩ | ⟨_, h, h'⟩ <;> rw [h, h'] <;> rfl
    rw [hlast, Int.zero_mul] at e1
    have q1 : LM P m e (mN n) J0 J1 := q1
    have q3 := q1.2.2
    have j1m : J1 (m + 1) = I (m + 1) := by rw [← j01]; exact funext fun i => q3 _ i (by omega) (by omega) (by omega) (by omega)
    have u1 : upd2 J0 (m + 11) e 0 (m + 1) = I (m + 1) := by rw [← j01]; exact funext fun i => upd2_p (by omega)
    have jE : J0 (m + 1) 0 = pE P := by rw [j01, hEP]
    have hev := s_events (g := g) (I := J0) hm'
    rw [jE] at hev
    refine ⟨(J1, some (.int (iI st)), some (.int (iI 125)), p4), ?_, by omega, fun p a1 a2 a3 a4 => ?_, fun e' a b => ?_⟩
    · show rn _ _ _ _ (mk g J0) = rn _ _ _ _ _
      refine (w_201_1 (by first | assumption | omega)).trans ?_
      rw [hev, aft_v]
      refine (w_201_2 (by first | assumption | omega) (by first | assumption | omega) (by first | assumption | omega) (by first | assumption | omega)).trans ?_
      refine (if_neg (by omega)).trans ?_
      rcases hs123 with ⟨hh, h, h'⟩ | ⟨hh, h, h'⟩ | ⟨hh, h, h'⟩
      · rw [h] at e1 ⊢
        simp (maxSteps := 2000000) (disch := first | assumption | omega) only [aft_v, aft_n, aft_t, Nat.add_assoc, Nat.reduceAdd, if_true, if_false, not_true_eq_false, not_false_eq_true, Classical.not_not, Int.reduceAdd, Int.reduceSub, Int.reduceMul, Int.reduceNeg, Int.reduceLT, Int.reduceLE, Int.reduceEq, Int.add_zero, Int.zero_add, Int.sub_zero, w_201_3, w_201_4, w_201_5, w_201_6, w_201_7, w_201_8, w_201_9, w_201_10, hno u1, hh]
        rw [e1]
        refine (w_201_11 (by first | assumption | omega) (by first | assumption | omega)).trans ?_
        refine (if_pos (by omega)).trans ?_
        simp (maxSteps := 2000000) (disch := first | assumption | omega) only [aft_v, aft_n, aft_t, Nat.add_assoc, Nat.reduceAdd, if_true, if_false, not_true_eq_false, not_false_eq_true, Classical.not_not, Int.reduceAdd, Int.reduceSub, Int.reduceMul, Int.reduceNeg, Int.reduceLT, Int.reduceLE, Int.reduceEq, Int.add_zero, Int.zero_add, Int.sub_zero, w_201_19]
      · rw [h] at e1 ⊢
        simp (maxSteps := 2000000) (disch := first | assumption | omega) only [aft_v, aft_n, aft_t, Nat.add_assoc, Nat.reduceAdd, if_true, if_false, not_true_eq_false, not_false_eq_true, Classical.not_not, Int.reduceAdd, Int.reduceSub, Int.reduceMul, Int.reduceNeg, Int.reduceLT, Int.reduceLE, Int.reduceEq, Int.add_zero, Int.zero_add, Int.sub_zero, w_201_3, w_201_4, w_201_5, w_201_6, w_201_7, w_201_8, w_201_9, w_201_10, hno u1, hh, show ¬ (2 : Int) = 1 by decide]
        rw [e1]
        refine (w_201_11 (by first | assumption | omega) (by first | assumption | omega)).trans ?_
        refine (if_pos (by omega)).trans ?_
        simp (maxSteps := 2000000) (disch := first | assumption | omega) only [aft_v, aft_n, aft_t, Nat.add_assoc, Nat.reduceAdd, if_true, if_false, not_true_eq_false, not_false_eq_true, Classical.not_not, Int.reduceAdd, Int.reduceSub, Int.reduceMul, Int.reduceNeg, Int.reduceLT, Int.reduceLE, Int.reduceEq, Int.add_zero, Int.zero_add, Int.sub_zero, w_201_19]
      · rw [h] at e1 ⊢
        simp (maxSteps := 2000000) (disch := first | assumption | omega) only [aft_v, aft_n, aft_t, Nat.add_assoc, Nat.reduceAdd, if_true, if_false, not_true_eq_false, not_false_eq_true, Classical.not_not, Int.reduceAdd, Int.reduceSub, Int.reduceMul, Int.reduceNeg, Int.reduceLT, Int.reduceLE, Int.reduceEq, Int.add_zero, Int.zero_add, Int.sub_zero, w_201_3, w_201_4, w_201_5, w_201_6, w_201_7, w_201_8, w_201_9, w_201_10, hno u1, hh, show ¬ (3 : Int) = 1 by decide, show ¬ (3 : Int) = 2 by decide]
        rw [e1]
        refine (w_201_11 (by first | assumption | omega) (by first | assumption | omega)).trans ?_
        refine (if_pos (by omega)).trans ?_
        simp (maxSteps := 2000000) (disch := first | assumption | omega) only [aft_v, aft_n, aft_t, Nat.add_assoc, Nat.reduceAdd, if_true, if_false, not_true_eq_false, not_false_eq_true, Classical.not_not, Int.reduceAdd, Int.reduceSub, Int.reduceMul, Int.reduceNeg, Int.reduceLT, Int.reduceLE, Int.reduceEq, Int.add_zero, Int.zero_add, Int.sub_zero, w_201_19]
    · rw [← h1 p a1 a2 a3 a4]; exact funext fun i => q3 p i a1 (by omega) (by omega) (by omega)
    · by_cases hee : e' = e
      · subst hee
        rw [hn] at q1
        exact LM_Sh q1
      · have hs := h2 e' a (by omega)
        have z' := hW.2.2.1 e' a (by omega)
        have cb := cnt_b (P := P) (e := e') hW.1 z'.1
        show ShM P m J1 e'
        refine ⟨by rw [show J1 (m + 11) e' = J0 (m + 11) e' from q3 _ _ (by omega) (by omega) (by omega) (by omega)]; exact hs.1, fun c c0 c1 => ?_⟩
        rw [show J1 (m + 9) (10 * e' + c) = J0 (m + 9) (10 * e' + c) from q3 _ _ (by omega) (by omega) (by omega) (by omega), show J1 (m + 10) (10 * e' + c) = J0 (m + 10) (10 * e' + c) from q3 _ _ (by omega) (by omega) (by omega) (by omega)]
        exact hs.2 c c0 c1) 0 (I, none, none, none) w1.1 ⟨Int.le_refl _, fun _ _ _ _ _ => rfl, fun e' a b => by omega⟩
  obtain ⟨⟨J, o2, o3, o4⟩, e1, -, k1, k2⟩ := outer
  have e1 : rn 201 1 [some (.ref m), some (.int (iI 0)), none, none, none] [] (mk g I) = rn 201 1 [some (.ref m), some (.int (iI (pE P))), o2, o3, o4] [] (mk g J) := e1
  have k1 : ∀ p, ¬ p = m + 8 → ¬ p = m + 9 → ¬ p = m + 10 → ¬ p = m + 11 → J p = I p := k1
  have jE : J (m + 1) 0 = pE P := by rw [k1 (m + 1) (by omega) (by omega) (by omega) (by omega), hEP]
  have hev := s_events (g := g) (I := J) hm'
  rw [jE] at hev
  refine ⟨J, ?_, k1, k2⟩
  simp (maxSteps := 2000000) (disch := first | assumption | omega) only [aft_v, aft_n, aft_t, Nat.add_assoc, Nat.reduceAdd, if_true, if_false, not_true_eq_false, not_false_eq_true, Classical.not_not, Int.reduceAdd, Int.reduceSub, Int.reduceMul, Int.reduceNeg, Int.reduceLT, Int.reduceLE, Int.reduceEq, Int.add_zero, Int.zero_add, Int.sub_zero, c_201, w_201_0]
  rw [e1]
  refine (w_201_1 (by first | assumption | omega)).trans ?_
  rw [hev, aft_v]
  refine (w_201_2 (by first | assumption | omega) (by first | assumption | omega) (by first | assumption | omega) (by first | assumption | omega)).trans ?_
  refine (if_pos (by omega)).trans ?_
  simp (maxSteps := 2000000) (disch := first | assumption | omega) only [aft_v, aft_n, aft_t, Nat.add_assoc, Nat.reduceAdd, if_true, if_false, not_true_eq_false, not_false_eq_true, Classical.not_not, Int.reduceAdd, Int.reduceSub, Int.reduceMul, Int.reduceNeg, Int.reduceLT, Int.reduceLE, Int.reduceEq, Int.add_zero, Int.zero_add, Int.sub_zero, w_201_20]
end MSH
