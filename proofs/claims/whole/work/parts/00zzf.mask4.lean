/-! The reference: the first cheapest fingering's fingers and parts, uses. -/
/-- what the reference's questions may write: its rows of the dynamic program, and the number of the fault -/
def frQ (m : Nat) (t : Int) (I I' : Mm) : Prop := (∀ p, ¬ p = m → p < m + 8 ∨ m + 14 < p → I' p = I p) ∧ (∀ i, ¬ i = 7 → I' m i = I m i) ∧ I' m 7 = t
theorem frQ_u {m : Nat} {I : Mm} {t : Int} : frQ m t I (upd2 I m 7 t) := ⟨fun p hp _ => funext fun j => upd2_p hp, fun i hi => upd2_i hi, upd2_at⟩
theorem frQ_C {m : Nat} {I J : Mm} {t : Int} (h : frC m I J) : frQ m t I (upd2 J m 7 t) :=
  ⟨fun p hp hq => by rw [← h p (by omega) (by omega) (by omega) (by omega) (by omega) (by omega)]; exact funext fun j => upd2_p hp,
   fun i hi => by rw [upd2_i hi, h m (by omega) (by omega) (by omega) (by omega) (by omega) (by omega)], upd2_at⟩
theorem frM_C {m : Nat} {I J : Mm} (h : frM m I J) : frC m I J := fun p h1 h2 h3 h4 h5 _ => h p h1 h2 h3 h4 h5
theorem frQ_fC {m : Nat} {I J K : Mm} {t : Int} (h : frQ m t I J) (h' : frC m J K) : frQ m t I K :=
  ⟨fun p hp hq => by rw [h' p (by omega) (by omega) (by omega) (by omega) (by omega) (by omega)]; exact h.1 p hp hq,
   fun i hi => by rw [h' m (by omega) (by omega) (by omega) (by omega) (by omega) (by omega)]; exact h.2.1 i hi, by rw [h' m (by omega) (by omega) (by omega) (by omega) (by omega) (by omega)]; exact h.2.2⟩
theorem frQ_14 {m : Nat} {I J K : Mm} {t : Int} (h : frQ m t I J) (h' : onl (m + 14) J K) : frQ m t I K :=
  ⟨fun p hp hq => by rw [h' p (by omega)]; exact h.1 p hp hq, fun i hi => by rw [h' m (by omega)]; exact h.2.1 i hi, by rw [h' m (by omega)]; exact h.2.2⟩
theorem frQ_mv {m : Nat} {I J : Mm} {t : Int} (h : frQ m t I J) : mv J m = mv I m := by
  unfold mv; rw [h.1 (m + 1) (by omega) (by omega)]
/-- each step of the first cheapest fingering is allowed -/
theorem fs_step {P : PT} (h : bdP P) (hl : ¬ lsS P 0 = -1) {e : Int} (e0 : 0 ≤ e) (e1 : e + 1 < pE P) : ¬ stepS P e (fsS P e) (fsS P (e + 1)) = -1 := by
  obtain ⟨n, hn⟩ : ∃ n : Nat, e = n := ⟨e.toNat, by omega⟩
  subst hn
  obtain ⟨c, c0, c1, hc⟩ := fs_ex h hl (n + 1) (by omega)
  obtain ⟨ih1, ih2, ih3⟩ := fs_ok h hl n (by omega)
  rw [if_neg (by omega), if_neg (by omega), show ((n + 1 : Nat) : Int) - 1 = n by omega, show ((n : Int)).toNat = n by omega] at hc
  obtain ⟨v, hv⟩ : ∃ v, v = fnd (fun c => (if ((n + 1 : Nat) : Int) = 0 then frS P 0 c else sumS (stepS P (((n + 1 : Nat) : Int) - 1) (fsN P n).1 c) (frS P (n + 1 : Nat) c)) = (fsN P n).2) (cntS P (n + 1 : Nat)) := ⟨_, rfl⟩
  have e1 : fsS P (n : Int) = (fsN P n).1 := by unfold fsS; rw [show ((n : Int)).toNat = n by omega]
  have hx := fnd_ex (p := fun c => (if ((n + 1 : Nat) : Int) = 0 then frS P 0 c else sumS (stepS P (((n + 1 : Nat) : Int) - 1) (fsN P n).1 c) (frS P (n + 1 : Nat) c)) = (fsN P n).2) c0 c1 (by
    show (if ((n + 1 : Nat) : Int) = 0 then frS P 0 c else _) = _
    rw [if_neg (by omega), show ((n + 1 : Nat) : Int) - 1 = n by omega]
    rw [e1] at hc
    exact hc)
  rw [← hv] at hx
  obtain ⟨f0, f1, f2⟩ := hx
  have f2 : (if ((n + 1 : Nat) : Int) = 0 then frS P 0 v else sumS (stepS P (((n + 1 : Nat) : Int) - 1) (fsN P n).1 v) (frS P (n + 1 : Nat) v)) = (fsN P n).2 := f2
  rw [if_neg (by omega), show ((n + 1 : Nat) : Int) - 1 = n by omega] at f2
  have e2 : fsS P ((n : Int) + 1) = v := by
    rw [hv]
    unfold fsS
    rw [show ((n : Int) + 1).toNat = n + 1 by omega]
    show fsC P (n + 1 : Nat) (fsN P n).1 (fsN P n).2 = _
    unfold fsC
    rw [hv] at f0
    exact Int.max_eq_right f0
  intro hb
  rw [e1, e2] at hb
  rw [hb] at f2
  have : sumS (-1) (frS P (n + 1 : Nat) v) = -1 := by unfold sumS; rw [if_pos (Or.inl rfl)]
  rw [this] at f2
  omega
section MQ4
variable {g : Gm} {I : Mm} {m : Nat} {P : PT}
theorem s_fingerM {L : Nat → Int → Int} {e k : Int} (hm : isM g m) (hW : Wf P) (hP : P = mv I m) (he : 0 ≤ e ∧ e < pE P) (hk : 0 ≤ k ∧ k < pSz P e) (hz : ¬ lsS P 0 = -1) :
    ∃ I' L', cl 227 [.ref m, .int (iI e), .int (iI k)] (mk (gL g L) I) = some (.inl (some (.int (iI (fgP P e (fsS P e) k)))), mk (gL g L') I') ∧ frQ m 0 I I' ∧ frML m L L' := by
  have hbd := Wf_bd hW
  have w1 := hW.2.1
  have n0 := hbd.2.2.1 e he.1 he.2
  obtain ⟨J, L1, j1, j2, j3, j4, j5⟩ := s_chooses (g := g) (I := I) (L := L) hm hW hP
  rw [if_neg hz] at j1
  refine ⟨upd2 J m 7 0, L1, ?_, frQ_C j2, j3⟩
  have q := s_isNote (g := gL g L) (I := I) (e := e) (k := k) hm (by rw [← hP]; exact hW) (by omega) (by omega)
  rw [if_pos (show (0 ≤ e ∧ e < I (m + 1) 0) ∧ 0 ≤ k ∧ k < I (m + 1) (42 + 8 * e) by rw [hP] at he hk; exact ⟨he, hk⟩)] at q
  have c0 := fsS_b hbd hz he.1 he.2
  have z12 : J (m + 12) e = 10 * e + fsS P e := j5 hz e he.1 he.2
  have r12 : upd2 J m 7 0 (m + 12) e = 10 * e + fsS P e := by rw [upd2_p (by omega)]; exact z12
  have r9 : upd2 J m 7 0 (m + 9) (10 * e + fsS P e) = itS P e (fsS P e) := by rw [upd2_p (by omega)]; exact ((j4.1 e he.1 he.2).2 _ c0.1 c0.2).1
  have u7 : upd2 J m 7 0 m 7 = 0 := upd2_at
  have ib := itS_b (P := P) (e := e) (c := fsS P e) n0.1
  have q3 := s_fingerIn (g := gL g L1) (I := upd2 J m 7 0) (a := itS P e (fsS P e)) (k := k) (by omega) (by omega)
  have eF : fgP P e (fsS P e) k = fgS (itS P e (fsS P e)) k := rfl
  rw [eF]
  obtain ⟨t_0, ⟨t_1, d_1, n_1⟩, ⟨t_2, d_2, n_2⟩, ⟨t_3, d_3, n_3⟩, ⟨t_4, d_4, n_4⟩, ⟨t_5, d_5, n_5⟩, ⟨t_6, n_6⟩, ⟨t_7, d_7, n_7⟩, ⟨t_8, d_8, n_8⟩, ⟨t_9, d_9, n_9⟩, ⟨t_10, d_10, n_10⟩, ⟨t_11, d_11, n_11⟩, ⟨t_12, d_12, n_12⟩, ⟨t_13, d_13, n_13⟩, ⟨t_14, d_14, n_14⟩, ⟨t_15, n_15⟩, ⟨t_16, n_16⟩, ⟨t_17, d_17, n_17⟩, ⟨t_18, d_18, n_18⟩⟩ := hm
  simp (maxSteps := 2000000) (disch := first | assumption | omega | (simp (disch := omega) only [gL_gL, gL_21, gtL, gnL, gL_1, gL_gL, gL_21, upd2_p]; first | assumption | omega)) only [gL_gL, gL_21, aft_v, aft_n, aft_t, Nat.add_assoc, Nat.reduceAdd, if_true, if_false, not_true_eq_false, not_false_eq_true, Classical.not_not, Int.reduceAdd, Int.reduceSub, Int.reduceMul, Int.reduceNeg, Int.reduceLT, Int.reduceLE, Int.reduceEq, Int.add_zero, Int.zero_add, Int.sub_zero, c_227, w_227_0, w_227_1, w_227_3, w_227_4, w_227_5, w_227_7, w_227_9, w_227_10, q, j1, q3, u7, r12, r9, if_pos (Int.le_refl 0), show ¬ (1 : Int) = 0 by decide]
theorem s_fingerNo {L : Nat → Int → Int} {e k : Int} (hm : isM g m) (hW : Wf P) (hP : P = mv I m) (he : 0 ≤ e ∧ e < pE P) (hk : 0 ≤ k ∧ k < pSz P e) (hz : lsS P 0 = -1) :
    ∃ I' L', cl 227 [.ref m, .int (iI e), .int (iI k)] (mk (gL g L) I) = some (.inl (some (.int (iI 0))), mk (gL g L') I') ∧ frQ m 2 I I' ∧ frML m L L' := by
  have hbd := Wf_bd hW
  have w1 := hW.2.1
  have n0 := hbd.2.2.1 e he.1 he.2
  obtain ⟨J, L1, j1, j2, j3, j4, j5⟩ := s_chooses (g := g) (I := I) (L := L) hm hW hP
  rw [if_pos hz] at j1
  refine ⟨upd2 J m 7 2, L1, ?_, frQ_C j2, j3⟩
  have q := s_isNote (g := gL g L) (I := I) (e := e) (k := k) hm (by rw [← hP]; exact hW) (by omega) (by omega)
  rw [if_pos (show (0 ≤ e ∧ e < I (m + 1) 0) ∧ 0 ≤ k ∧ k < I (m + 1) (42 + 8 * e) by rw [hP] at he hk; exact ⟨he, hk⟩)] at q
  have u7 : upd2 J m 7 2 m 7 = 2 := upd2_at
  obtain ⟨t_0, ⟨t_1, d_1, n_1⟩, ⟨t_2, d_2, n_2⟩, ⟨t_3, d_3, n_3⟩, ⟨t_4, d_4, n_4⟩, ⟨t_5, d_5, n_5⟩, ⟨t_6, n_6⟩, ⟨t_7, d_7, n_7⟩, ⟨t_8, d_8, n_8⟩, ⟨t_9, d_9, n_9⟩, ⟨t_10, d_10, n_10⟩, ⟨t_11, d_11, n_11⟩, ⟨t_12, d_12, n_12⟩, ⟨t_13, d_13, n_13⟩, ⟨t_14, d_14, n_14⟩, ⟨t_15, n_15⟩, ⟨t_16, n_16⟩, ⟨t_17, d_17, n_17⟩, ⟨t_18, d_18, n_18⟩⟩ := hm
  simp (maxSteps := 2000000) (disch := first | assumption | omega | (simp (disch := omega) only [gL_gL, gL_21, gtL, gnL, gL_1, gL_gL, gL_21, upd2_p]; first | assumption | omega)) only [gL_gL, gL_21, aft_v, aft_n, aft_t, Nat.add_assoc, Nat.reduceAdd, if_true, if_false, not_true_eq_false, not_false_eq_true, Classical.not_not, Int.reduceAdd, Int.reduceSub, Int.reduceMul, Int.reduceNeg, Int.reduceLT, Int.reduceLE, Int.reduceEq, Int.add_zero, Int.zero_add, Int.sub_zero, c_227, w_227_0, w_227_1, w_227_3, w_227_4, w_227_6, w_227_7, w_227_8, w_227_10, q, j1, u7, if_neg (show ¬ (2 : Int) ≤ 0 by decide), show ¬ (1 : Int) = 0 by decide]
theorem s_fingerBad {e k : Int} (hm : isM g m) (hW : Wf (mv I m)) (hr : (-2147483648 ≤ e ∧ e < 2147483648)) (hr2 : (-2147483648 ≤ k ∧ k < 2147483648)) (h : ¬ ((0 ≤ e ∧ e < I (m + 1) 0) ∧ 0 ≤ k ∧ k < I (m + 1) (42 + 8 * e))) : cl 227 [.ref m, .int (iI e), .int (iI k)] (mk g I) = some (.inl (some (.int (iI 0))), mk g (upd2 I m 7 1)) := by
  have q := s_isNote (g := g) (I := I) (e := e) (k := k) hm hW hr hr2
  rw [if_neg h] at q
  have u7 : upd2 I m 7 1 m 7 = 1 := upd2_at
  obtain ⟨t_0, ⟨t_1, d_1, n_1⟩, ⟨t_2, d_2, n_2⟩, ⟨t_3, d_3, n_3⟩, ⟨t_4, d_4, n_4⟩, ⟨t_5, d_5, n_5⟩, ⟨t_6, n_6⟩, ⟨t_7, d_7, n_7⟩, ⟨t_8, d_8, n_8⟩, ⟨t_9, d_9, n_9⟩, ⟨t_10, d_10, n_10⟩, ⟨t_11, d_11, n_11⟩, ⟨t_12, d_12, n_12⟩, ⟨t_13, d_13, n_13⟩, ⟨t_14, d_14, n_14⟩, ⟨t_15, n_15⟩, ⟨t_16, n_16⟩, ⟨t_17, d_17, n_17⟩, ⟨t_18, d_18, n_18⟩⟩ := hm
  simp (maxSteps := 2000000) (disch := first | assumption | omega) only [aft_v, aft_n, aft_t, Nat.add_assoc, Nat.reduceAdd, if_true, if_false, not_true_eq_false, not_false_eq_true, Classical.not_not, Int.reduceAdd, Int.reduceSub, Int.reduceMul, Int.reduceNeg, Int.reduceLT, Int.reduceLE, Int.reduceEq, Int.add_zero, Int.zero_add, Int.sub_zero, c_227, w_227_0, w_227_1, w_227_2, w_227_7, w_227_8, w_227_10, q, u7, if_neg (show ¬ (1 : Int) ≤ 0 by decide)]
theorem s_partM {L : Nat → Int → Int} {e w : Int} (hm : isM g m) (hW : Wf P) (hP : P = mv I m) (he : 0 ≤ e ∧ e < pE P) (hw : 0 ≤ w ∧ w ≤ 2) (hz : ¬ lsS P 0 = -1) :
    ∃ I' L', cl 228 [.ref m, .int (iI e), .int (iI w)] (mk (gL g L) I) = some (.inl (some (.int (iI (ptS P e w)))), mk (gL g L') I') ∧ frQ m 0 I I' ∧ frML m L L' := by
  have hbd := Wf_bd hW
  have w1 := hW.2.1
  have n0 := hbd.2.2.1 e he.1 he.2
  obtain ⟨J, L1, j1, j2, j3, j4, j5⟩ := s_chooses (g := g) (I := I) (L := L) hm hW hP
  rw [if_neg hz] at j1
  have fQ := frQ_C (t := 0) j2
  refine ⟨upd2 J m 7 0, L1, ?_, fQ, j3⟩
  have pJ : mv (upd2 J m 7 0) m = P := by rw [hP]; exact frQ_mv fQ
  have q := s_isEvent (g := gL g L) (I := I) (e := e) hm (by omega) (by rw [hP] at w1; exact w1)
  rw [if_pos (by rw [hP] at he; exact he)] at q
  have qw := s_isIn (g := gL g L) (I := I) (a := w) (b := 0) (c := 2) (by omega) (by omega) (by omega)
  rw [if_pos hw] at qw
  have c0 := fsS_b hbd hz he.1 he.2
  have z12 : J (m + 12) e = 10 * e + fsS P e := j5 hz e he.1 he.2
  have r12 : upd2 J m 7 0 (m + 12) e = 10 * e + fsS P e := by rw [upd2_p (by omega)]; exact z12
  have r9 : upd2 J m 7 0 (m + 9) (10 * e + fsS P e) = itS P e (fsS P e) := by rw [upd2_p (by omega)]; exact ((j4.1 e he.1 he.2).2 _ c0.1 c0.2).1
  have r10 : upd2 J m 7 0 (m + 10) (10 * e + fsS P e) = ownS P 0 e (fsS P e) := by rw [upd2_p (by omega)]; exact ((j4.1 e he.1 he.2).2 _ c0.1 c0.2).2
  have u7 : upd2 J m 7 0 m 7 = 0 := upd2_at
  have hm' := hm
  obtain ⟨t_0, ⟨t_1, d_1, n_1⟩, ⟨t_2, d_2, n_2⟩, ⟨t_3, d_3, n_3⟩, ⟨t_4, d_4, n_4⟩, ⟨t_5, d_5, n_5⟩, ⟨t_6, n_6⟩, ⟨t_7, d_7, n_7⟩, ⟨t_8, d_8, n_8⟩, ⟨t_9, d_9, n_9⟩, ⟨t_10, d_10, n_10⟩, ⟨t_11, d_11, n_11⟩, ⟨t_12, d_12, n_12⟩, ⟨t_13, d_13, n_13⟩, ⟨t_14, d_14, n_14⟩, ⟨t_15, n_15⟩, ⟨t_16, n_16⟩, ⟨t_17, d_17, n_17⟩, ⟨t_18, d_18, n_18⟩⟩ := hm
  unfold ptS
  by_cases w0 : w = 0
  · subst w0
    rw [if_pos rfl]
    simp (maxSteps := 2000000) (disch := first | assumption | omega | (simp (disch := omega) only [gL_gL, gL_21, gtL, gnL, gL_1, gL_gL, gL_21, upd2_p]; first | assumption | omega)) only [gL_gL, gL_21, aft_v, aft_n, aft_t, Nat.add_assoc, Nat.reduceAdd, if_true, if_false, not_true_eq_false, not_false_eq_true, Classical.not_not, Int.reduceAdd, Int.reduceSub, Int.reduceMul, Int.reduceNeg, Int.reduceLT, Int.reduceLE, Int.reduceEq, Int.add_zero, Int.zero_add, Int.sub_zero, c_228, w_228_0, w_228_1, w_228_3, w_228_4, w_228_6, w_228_7, w_228_8, w_228_10, w_228_12, w_228_13, q, qw, j1, u7, r12, r10, if_pos (Int.le_refl 0), show ¬ (1 : Int) = 0 by decide]
  rw [if_neg w0]
  by_cases h0 : e = 0
  · subst h0
    rw [if_pos rfl]
    simp (maxSteps := 2000000) (disch := first | assumption | omega | (simp (disch := omega) only [gL_gL, gL_21, gtL, gnL, gL_1, gL_gL, gL_21, upd2_p]; first | assumption | omega)) only [gL_gL, gL_21, aft_v, aft_n, aft_t, Nat.add_assoc, Nat.reduceAdd, if_true, if_false, not_true_eq_false, not_false_eq_true, Classical.not_not, Int.reduceAdd, Int.reduceSub, Int.reduceMul, Int.reduceNeg, Int.reduceLT, Int.reduceLE, Int.reduceEq, Int.add_zero, Int.zero_add, Int.sub_zero, c_228, w_228_0, w_228_1, w_228_3, w_228_4, w_228_6, w_228_7, w_228_8, w_228_10, w_228_12, w_228_14, w_228_15, q, qw, j1, u7, w0, if_pos (Int.le_refl 0), show ¬ (1 : Int) = 0 by decide]
  rw [if_neg h0]
  have n1 := hbd.2.2.1 (e - 1) (by omega) (by omega)
  have c1 := fsS_b hbd hz (e := e - 1) (by omega) (by omega)
  have y12 : J (m + 12) (e - 1) = 10 * (e - 1) + fsS P (e - 1) := j5 hz (e - 1) (by omega) (by omega)
  have s12 : upd2 J m 7 0 (m + 12) (e - 1) = 10 * (e - 1) + fsS P (e - 1) := by rw [upd2_p (by omega)]; exact y12
  have s9 : upd2 J m 7 0 (m + 9) (10 * (e - 1) + fsS P (e - 1)) = itS P (e - 1) (fsS P (e - 1)) := by rw [upd2_p (by omega)]; exact ((j4.1 (e - 1) (by omega) (by omega)).2 _ c1.1 c1.2).1
  have b0 := itS_b (P := P) (e := e - 1) (c := fsS P (e - 1)) n1.1
  have b1 := itS_b (P := P) (e := e) (c := fsS P e) n0.1
  have hst := fs_step hbd hz (e := e - 1) (by omega) (by omega)
  rw [show e - 1 + 1 = e by omega] at hst
  have est : passS P (e - 1) (pRe P (e - 1)) (fgS (itS P (e - 1) (fsS P (e - 1)))) (fgS (itS P e (fsS P e))) = stepS P (e - 1) (fsS P (e - 1)) (fsS P e) := by unfold stepS stepW fgP; rw [show e - 1 + 1 = e by omega]
  by_cases w1' : w = 1
  · subst w1'
    rw [if_pos rfl]
    have q3 := s_passage (g := gL g L1) (I := upd2 J m 7 0) (e := e - 1) (its := itS P (e - 1) (fsS P (e - 1))) (thn := itS P e (fsS P e)) hm' (by rw [pJ]; exact hW) (by rw [pJ]; omega) b0 b1
    rw [pJ, est] at q3
    simp (maxSteps := 2000000) (disch := first | assumption | omega | (simp (disch := omega) only [gL_gL, gL_21, gtL, gnL, gL_1, gL_gL, gL_21, upd2_p]; first | assumption | omega)) only [gL_gL, gL_21, aft_v, aft_n, aft_t, Nat.add_assoc, Nat.reduceAdd, if_true, if_false, not_true_eq_false, not_false_eq_true, Classical.not_not, Int.reduceAdd, Int.reduceSub, Int.reduceMul, Int.reduceNeg, Int.reduceLT, Int.reduceLE, Int.reduceEq, Int.add_zero, Int.zero_add, Int.sub_zero, c_228, w_228_0, w_228_1, w_228_3, w_228_4, w_228_6, w_228_7, w_228_8, w_228_10, w_228_12, w_228_14, w_228_16, w_228_17, w_228_18, w_228_20, q, qw, j1, u7, q3, h0, r12, r9, s12, s9, if_pos (Int.le_refl 0), show ¬ (1 : Int) = 0 by decide]
  · rw [if_neg w1']
    have q3 := s_crossingsM (g := gL g L1) (I := upd2 J m 7 0) (e := e - 1) (its := itS P (e - 1) (fsS P (e - 1))) (thn := itS P e (fsS P e)) hm' (by rw [pJ]; exact hW) (by rw [pJ]; omega) b0 b1 (by rw [pJ, est]; exact hst)
    rw [pJ] at q3
    have eC : crossS P (e - 1) (fgP P (e - 1) (fsS P (e - 1))) (fgP P e (fsS P e)) = crossS P (e - 1) (fgS (itS P (e - 1) (fsS P (e - 1)))) (fgS (itS P e (fsS P e))) := rfl
    rw [eC]
    simp (maxSteps := 2000000) (disch := first | assumption | omega | (simp (disch := omega) only [gL_gL, gL_21, gtL, gnL, gL_1, gL_gL, gL_21, upd2_p]; first | assumption | omega)) only [gL_gL, gL_21, aft_v, aft_n, aft_t, Nat.add_assoc, Nat.reduceAdd, if_true, if_false, not_true_eq_false, not_false_eq_true, Classical.not_not, Int.reduceAdd, Int.reduceSub, Int.reduceMul, Int.reduceNeg, Int.reduceLT, Int.reduceLE, Int.reduceEq, Int.add_zero, Int.zero_add, Int.sub_zero, c_228, w_228_0, w_228_1, w_228_3, w_228_4, w_228_6, w_228_7, w_228_8, w_228_10, w_228_12, w_228_14, w_228_16, w_228_19, w_228_20, q, qw, j1, u7, q3, h0, w0, w1', r12, r9, s12, s9, if_pos (Int.le_refl 0), show ¬ (1 : Int) = 0 by decide]
theorem s_partNo {L : Nat → Int → Int} {e w : Int} (hm : isM g m) (hW : Wf P) (hP : P = mv I m) (he : 0 ≤ e ∧ e < pE P) (hw : 0 ≤ w ∧ w ≤ 2) (hz : lsS P 0 = -1) :
    ∃ I' L', cl 228 [.ref m, .int (iI e), .int (iI w)] (mk (gL g L) I) = some (.inl (some (.int (iI 0))), mk (gL g L') I') ∧ frQ m 3 I I' ∧ frML m L L' := by
  have w1 := hW.2.1
  obtain ⟨J, L1, j1, j2, j3, j4, j5⟩ := s_chooses (g := g) (I := I) (L := L) hm hW hP
  rw [if_pos hz] at j1
  refine ⟨upd2 J m 7 3, L1, ?_, frQ_C j2, j3⟩
  have q := s_isEvent (g := gL g L) (I := I) (e := e) hm (by omega) (by rw [hP] at w1; exact w1)
  rw [if_pos (by rw [hP] at he; exact he)] at q
  have qw := s_isIn (g := gL g L) (I := I) (a := w) (b := 0) (c := 2) (by omega) (by omega) (by omega)
  rw [if_pos hw] at qw
  have u7 : upd2 J m 7 3 m 7 = 3 := upd2_at
  obtain ⟨t_0, ⟨t_1, d_1, n_1⟩, ⟨t_2, d_2, n_2⟩, ⟨t_3, d_3, n_3⟩, ⟨t_4, d_4, n_4⟩, ⟨t_5, d_5, n_5⟩, ⟨t_6, n_6⟩, ⟨t_7, d_7, n_7⟩, ⟨t_8, d_8, n_8⟩, ⟨t_9, d_9, n_9⟩, ⟨t_10, d_10, n_10⟩, ⟨t_11, d_11, n_11⟩, ⟨t_12, d_12, n_12⟩, ⟨t_13, d_13, n_13⟩, ⟨t_14, d_14, n_14⟩, ⟨t_15, n_15⟩, ⟨t_16, n_16⟩, ⟨t_17, d_17, n_17⟩, ⟨t_18, d_18, n_18⟩⟩ := hm
  simp (maxSteps := 2000000) (disch := first | assumption | omega | (simp (disch := omega) only [gL_gL, gL_21, gtL, gnL, gL_1, gL_gL, gL_21, upd2_p]; first | assumption | omega)) only [gL_gL, gL_21, aft_v, aft_n, aft_t, Nat.add_assoc, Nat.reduceAdd, if_true, if_false, not_true_eq_false, not_false_eq_true, Classical.not_not, Int.reduceAdd, Int.reduceSub, Int.reduceMul, Int.reduceNeg, Int.reduceLT, Int.reduceLE, Int.reduceEq, Int.add_zero, Int.zero_add, Int.sub_zero, c_228, w_228_0, w_228_1, w_228_3, w_228_4, w_228_6, w_228_7, w_228_9, w_228_10, w_228_11, q, qw, j1, u7, if_neg (show ¬ (3 : Int) ≤ 0 by decide), show ¬ (1 : Int) = 0 by decide]
theorem s_partBad {e w : Int} (hm : isM g m) (hn : 0 ≤ I (m + 1) 0 ∧ I (m + 1) 0 ≤ 40) (hr : (-2147483648 ≤ e ∧ e < 2147483648)) (h : ¬ (0 ≤ e ∧ e < I (m + 1) 0)) : cl 228 [.ref m, .int (iI e), .int (iI w)] (mk g I) = some (.inl (some (.int (iI 0))), mk g (upd2 I m 7 1)) := by
  have q := s_isEvent (g := g) (I := I) (e := e) hm hr hn
  rw [if_neg h] at q
  have u7 : upd2 I m 7 1 m 7 = 1 := upd2_at
  obtain ⟨t_0, ⟨t_1, d_1, n_1⟩, ⟨t_2, d_2, n_2⟩, ⟨t_3, d_3, n_3⟩, ⟨t_4, d_4, n_4⟩, ⟨t_5, d_5, n_5⟩, ⟨t_6, n_6⟩, ⟨t_7, d_7, n_7⟩, ⟨t_8, d_8, n_8⟩, ⟨t_9, d_9, n_9⟩, ⟨t_10, d_10, n_10⟩, ⟨t_11, d_11, n_11⟩, ⟨t_12, d_12, n_12⟩, ⟨t_13, d_13, n_13⟩, ⟨t_14, d_14, n_14⟩, ⟨t_15, n_15⟩, ⟨t_16, n_16⟩, ⟨t_17, d_17, n_17⟩, ⟨t_18, d_18, n_18⟩⟩ := hm
  simp (maxSteps := 2000000) (disch := first | assumption | omega) only [aft_v, aft_n, aft_t, Nat.add_assoc, Nat.reduceAdd, if_true, if_false, not_true_eq_false, not_false_eq_true, Classical.not_not, Int.reduceAdd, Int.reduceSub, Int.reduceMul, Int.reduceNeg, Int.reduceLT, Int.reduceLE, Int.reduceEq, Int.add_zero, Int.zero_add, Int.sub_zero, c_228, w_228_0, w_228_1, w_228_2, w_228_10, w_228_11, q, u7, if_neg (show ¬ (1 : Int) ≤ 0 by decide)]
theorem s_partBadW {e w : Int} (hm : isM g m) (hn : 0 ≤ I (m + 1) 0 ∧ I (m + 1) 0 ≤ 40) (he : 0 ≤ e ∧ e < I (m + 1) 0) (hrw : (-2147483648 ≤ w ∧ w < 2147483648)) (hw : ¬ (0 ≤ w ∧ w ≤ 2)) : cl 228 [.ref m, .int (iI e), .int (iI w)] (mk g I) = some (.inl (some (.int (iI 0))), mk g (upd2 I m 7 2)) := by
  have q := s_isEvent (g := g) (I := I) (e := e) hm (by omega) hn
  rw [if_pos he] at q
  have qw := s_isIn (g := g) (I := I) (a := w) (b := 0) (c := 2) (by omega) (by omega) (by omega)
  rw [if_neg hw] at qw
  have u7 : upd2 I m 7 2 m 7 = 2 := upd2_at
  obtain ⟨t_0, ⟨t_1, d_1, n_1⟩, ⟨t_2, d_2, n_2⟩, ⟨t_3, d_3, n_3⟩, ⟨t_4, d_4, n_4⟩, ⟨t_5, d_5, n_5⟩, ⟨t_6, n_6⟩, ⟨t_7, d_7, n_7⟩, ⟨t_8, d_8, n_8⟩, ⟨t_9, d_9, n_9⟩, ⟨t_10, d_10, n_10⟩, ⟨t_11, d_11, n_11⟩, ⟨t_12, d_12, n_12⟩, ⟨t_13, d_13, n_13⟩, ⟨t_14, d_14, n_14⟩, ⟨t_15, n_15⟩, ⟨t_16, n_16⟩, ⟨t_17, d_17, n_17⟩, ⟨t_18, d_18, n_18⟩⟩ := hm
  simp (maxSteps := 2000000) (disch := first | assumption | omega) only [aft_v, aft_n, aft_t, Nat.add_assoc, Nat.reduceAdd, if_true, if_false, not_true_eq_false, not_false_eq_true, Classical.not_not, Int.reduceAdd, Int.reduceSub, Int.reduceMul, Int.reduceNeg, Int.reduceLT, Int.reduceLE, Int.reduceEq, Int.add_zero, Int.zero_add, Int.sub_zero, c_228, w_228_0, w_228_1, w_228_3, w_228_4, w_228_5, w_228_10, w_228_11, q, qw, u7, if_neg (show ¬ (2 : Int) ≤ 0 by decide), show ¬ (1 : Int) = 0 by decide]
theorem s_usesM {L : Nat → Int → Int} {f : Int} (hm : isM g m) (hW : Wf P) (hP : P = mv I m) (hf : 1 ≤ f ∧ f ≤ 5) (hz : ¬ lsS P 0 = -1) :
    ∃ I' L', cl 233 [.ref m, .int (iI f)] (mk (gL g L) I) = some (.inl (some (.int (iI (usS P f)))), mk (gL g L') I') ∧ frQ m 0 I I' ∧ frML m L L' := by
  have hbd := Wf_bd hW
  have w1 := hW.2.1
  obtain ⟨J, L1, j1, j2, j3, j4, j5⟩ := s_chooses (g := g) (I := I) (L := L) hm hW hP
  rw [if_neg hz] at j1
  have fQ := frQ_C (t := 0) j2
  refine ⟨upd2 J m 7 0, L1, ?_, fQ, j3⟩
  have q := s_isFinger (g := gL g L) (I := I) (a := f) (by omega)
  rw [if_pos hf] at q
  have u7 : upd2 J m 7 0 m 7 = 0 := upd2_at
  have u8 : upd2 J m 7 0 m 7 = 0 := upd2_at
  obtain ⟨K, hK⟩ : ∃ K, K = upd2 J m 7 0 := ⟨_, rfl⟩
  have km : K (m + 1) = I (m + 1) := by rw [hK]; exact fQ.1 _ (by omega) (by omega)
  have hPK : P = mv K m := by rw [hP]; unfold mv; rw [km]
  have r12 : ∀ e, 0 ≤ e → e < pE P → K (m + 12) e = 10 * e + fsS P e := fun e e0 e1 => by rw [hK, upd2_p (by omega)]; exact j5 hz e e0 e1
  have r9 : ∀ e, 0 ≤ e → e < pE P → K (m + 9) (10 * e + fsS P e) = itS P e (fsS P e) := fun e e0 e1 => by
    have c0 := fsS_b hbd hz e0 e1
    rw [hK, upd2_p (by omega)]; exact ((j4.1 e e0 e1).2 _ c0.1 c0.2).1
  obtain ⟨g2, hg2⟩ : ∃ g2, g2 = gL g L1 := ⟨_, rfl⟩
  have hm2 : isM g2 m := by rw [hg2]; exact hm
  have hm3 := hm2
  have hm0 := hm
  rw [← hK] at u7 ⊢
  obtain ⟨t_0, ⟨t_1, d_1, n_1⟩, ⟨t_2, d_2, n_2⟩, ⟨t_3, d_3, n_3⟩, ⟨t_4, d_4, n_4⟩, ⟨t_5, d_5, n_5⟩, ⟨t_6, n_6⟩, ⟨t_7, d_7, n_7⟩, ⟨t_8, d_8, n_8⟩, ⟨t_9, d_9, n_9⟩, ⟨t_10, d_10, n_10⟩, ⟨t_11, d_11, n_11⟩, ⟨t_12, d_12, n_12⟩, ⟨t_13, d_13, n_13⟩, ⟨t_14, d_14, n_14⟩, ⟨t_15, n_15⟩, ⟨t_16, n_16⟩, ⟨t_17, d_17, n_17⟩, ⟨t_18, d_18, n_18⟩⟩ := hm2
  have hev : cl 182 [.ref m] (mk g2 K) = some (.inl (some (.int (iI (pE P)))), mk g2 K) := by rw [hPK]; exact s_events hm3
  have key := loop_sum2 (O := fun e a o => rn 233 10 [some (.ref m), some (.int (iI f)), some (.int (iI a)), some (.int (iI e)), o] [] (mk g2 K)) (N := fun e k a => rn 233 13 [some (.ref m), some (.int (iI f)), some (.int (iI a)), some (.int (iI e)), some (.int (iI k))] [] (mk g2 K)) (f := fun e k => if fgP P e (fsS P e) k = f then 1 else 0) (sz := pSz P) (n := pE P) hbd.2.1 (fun e e0 e1 => by have := (hbd.2.2.1 e e0 e1).1; omega) (fun e k _ _ _ _ => by split <;> omega)
    (fun e a o e0 e1 a0 a1 => by
      show rn _ _ _ _ _ = rn _ _ _ _ _
      refine (w_233_10 (by first | assumption | omega)).trans ?_
      simp (maxSteps := 2000000) (disch := first | assumption | omega) only [aft_v, aft_n, aft_t, Nat.add_assoc, Nat.reduceAdd, if_true, if_false, not_true_eq_false, not_false_eq_true, Classical.not_not, Int.reduceAdd, Int.reduceSub, Int.reduceMul, Int.reduceNeg, Int.reduceLT, Int.reduceLE, Int.reduceEq, Int.add_zero, Int.zero_add, Int.sub_zero, w_233_11, w_233_12, hev, if_neg (show ¬ pE P ≤ e by omega)])
    (fun e k a e0 e1 k0 k1 a0 a1 => by
      have n0 := hbd.2.2.1 e e0 e1
      have c0 := fsS_b hbd hz e0 e1
      have q0 : cl 183 [.ref m, .int (iI e)] (mk g2 K) = some (.inl (some (.int (iI (pSz P e)))), mk g2 K) := by rw [hPK]; exact s_notesOf hm3 (by omega)
      have ib := itS_b (P := P) (e := e) (c := fsS P e) n0.1
      have q3 := s_fingerIn (g := g2) (I := K) (a := itS P e (fsS P e)) (k := k) (by omega) (by omega)
      have eF : fgP P e (fsS P e) k = fgS (itS P e (fsS P e)) k := rfl
      have bF := fgP_b (P := P) (e := e) (c := fsS P e) (k := k) n0.1
      rw [eF] at bF ⊢
      have y1 := r12 e e0 e1
      have y2 := r9 e e0 e1
      show rn _ _ _ _ _ = rn _ _ _ _ _
      refine (w_233_13 (by first | assumption | omega)).trans ?_
      by_cases hff : fgS (itS P e (fsS P e)) k = f
      · rw [if_pos hff]
        rw [hff] at q3
        simp (maxSteps := 2000000) (disch := first | assumption | omega) only [aft_v, aft_n, aft_t, Nat.add_assoc, Nat.reduceAdd, if_true, if_false, not_true_eq_false, not_false_eq_true, Classical.not_not, Int.reduceAdd, Int.reduceSub, Int.reduceMul, Int.reduceNeg, Int.reduceLT, Int.reduceLE, Int.reduceEq, Int.add_zero, Int.zero_add, Int.sub_zero, w_233_14, w_233_15, w_233_16, w_233_17, w_233_19, q0, q3, y1, y2, if_neg (show ¬ pSz P e ≤ k by omega)]
      · rw [if_neg hff]
        simp (maxSteps := 2000000) (disch := first | assumption | omega) only [aft_v, aft_n, aft_t, Nat.add_assoc, Nat.reduceAdd, if_true, if_false, not_true_eq_false, not_false_eq_true, Classical.not_not, Int.reduceAdd, Int.reduceSub, Int.reduceMul, Int.reduceNeg, Int.reduceLT, Int.reduceLE, Int.reduceEq, Int.add_zero, Int.zero_add, Int.sub_zero, w_233_14, w_233_15, w_233_16, w_233_18, w_233_19, q0, q3, y1, y2, hff, if_neg (show ¬ pSz P e ≤ k by omega)])
    (fun e a e0 e1 a0 a1 => by
      have n0 := hbd.2.2.1 e e0 e1
      have q0 : cl 183 [.ref m, .int (iI e)] (mk g2 K) = some (.inl (some (.int (iI (pSz P e)))), mk g2 K) := by rw [hPK]; exact s_notesOf hm3 (by omega)
      show rn _ _ _ _ _ = rn _ _ _ _ _
      refine (w_233_13 (by first | assumption | omega)).trans ?_
      simp (maxSteps := 2000000) (disch := first | assumption | omega) only [aft_v, aft_n, aft_t, Nat.add_assoc, Nat.reduceAdd, if_true, if_false, not_true_eq_false, not_false_eq_true, Classical.not_not, Int.reduceAdd, Int.reduceSub, Int.reduceMul, Int.reduceNeg, Int.reduceLT, Int.reduceLE, Int.reduceEq, Int.add_zero, Int.zero_add, Int.sub_zero, w_233_14, w_233_20, q0, if_pos (Int.le_refl (pSz P e))]) none
  obtain ⟨o', key⟩ := key
  have key : rn 233 10 [some (.ref m), some (.int (iI f)), some (.int (iI 0)), some (.int (iI 0)), none] [] (mk g2 K) = rn 233 10 [some (.ref m), some (.int (iI f)), some (.int (iI (usS P f))), some (.int (iI (pE P))), o'] [] (mk g2 K) := key
  rw [← hg2] at j1 ⊢
  have h6 : (gL g L).1 m = sX6 m := hm0.1
  simp (maxSteps := 2000000) (disch := first | assumption | omega) only [aft_v, aft_n, aft_t, Nat.add_assoc, Nat.reduceAdd, if_true, if_false, not_true_eq_false, not_false_eq_true, Classical.not_not, Int.reduceAdd, Int.reduceSub, Int.reduceMul, Int.reduceNeg, Int.reduceLT, Int.reduceLE, Int.reduceEq, Int.add_zero, Int.zero_add, Int.sub_zero, c_233, w_233_0, w_233_1, w_233_3, w_233_4, w_233_5, q, j1, show ¬ (1 : Int) = 0 by decide]
  refine (w_233_7 (by first | assumption | omega) (by first | assumption | omega) (by first | assumption | omega) (by first | assumption | omega)).trans ?_
  rw [← hK]
  simp (maxSteps := 2000000) (disch := first | assumption | omega) only [aft_v, aft_n, aft_t, Nat.add_assoc, Nat.reduceAdd, if_true, if_false, not_true_eq_false, not_false_eq_true, Classical.not_not, Int.reduceAdd, Int.reduceSub, Int.reduceMul, Int.reduceNeg, Int.reduceLT, Int.reduceLE, Int.reduceEq, Int.add_zero, Int.zero_add, Int.sub_zero, w_233_9, u7, if_pos (Int.le_refl 0)]
  rw [key]
  refine (w_233_10 (by first | assumption | omega)).trans ?_
  simp (maxSteps := 2000000) (disch := first | assumption | omega) only [aft_v, aft_n, aft_t, Nat.add_assoc, Nat.reduceAdd, if_true, if_false, not_true_eq_false, not_false_eq_true, Classical.not_not, Int.reduceAdd, Int.reduceSub, Int.reduceMul, Int.reduceNeg, Int.reduceLT, Int.reduceLE, Int.reduceEq, Int.add_zero, Int.zero_add, Int.sub_zero, w_233_11, w_233_21, hev, if_pos (Int.le_refl (pE P))]
theorem s_usesNo {L : Nat → Int → Int} {f : Int} (hm : isM g m) (hW : Wf P) (hP : P = mv I m) (hf : 1 ≤ f ∧ f ≤ 5) (hz : lsS P 0 = -1) :
    ∃ I' L', cl 233 [.ref m, .int (iI f)] (mk (gL g L) I) = some (.inl (some (.int (iI 0))), mk (gL g L') I') ∧ frQ m 2 I I' ∧ frML m L L' := by
  obtain ⟨J, L1, j1, j2, j3, j4, j5⟩ := s_chooses (g := g) (I := I) (L := L) hm hW hP
  rw [if_pos hz] at j1
  refine ⟨upd2 J m 7 2, L1, ?_, frQ_C j2, j3⟩
  have q := s_isFinger (g := gL g L) (I := I) (a := f) (by omega)
  rw [if_pos hf] at q
  have u7 : upd2 J m 7 2 m 7 = 2 := upd2_at
  obtain ⟨t_0, ⟨t_1, d_1, n_1⟩, ⟨t_2, d_2, n_2⟩, ⟨t_3, d_3, n_3⟩, ⟨t_4, d_4, n_4⟩, ⟨t_5, d_5, n_5⟩, ⟨t_6, n_6⟩, ⟨t_7, d_7, n_7⟩, ⟨t_8, d_8, n_8⟩, ⟨t_9, d_9, n_9⟩, ⟨t_10, d_10, n_10⟩, ⟨t_11, d_11, n_11⟩, ⟨t_12, d_12, n_12⟩, ⟨t_13, d_13, n_13⟩, ⟨t_14, d_14, n_14⟩, ⟨t_15, n_15⟩, ⟨t_16, n_16⟩, ⟨t_17, d_17, n_17⟩, ⟨t_18, d_18, n_18⟩⟩ := hm
  simp (maxSteps := 2000000) (disch := first | assumption | omega | (simp (disch := omega) only [gL_gL, gL_21, gtL, gnL, gL_1, gL_gL, gL_21, upd2_p]; first | assumption | omega)) only [gL_gL, gL_21, aft_v, aft_n, aft_t, Nat.add_assoc, Nat.reduceAdd, if_true, if_false, not_true_eq_false, not_false_eq_true, Classical.not_not, Int.reduceAdd, Int.reduceSub, Int.reduceMul, Int.reduceNeg, Int.reduceLT, Int.reduceLE, Int.reduceEq, Int.add_zero, Int.zero_add, Int.sub_zero, c_233, w_233_0, w_233_1, w_233_3, w_233_4, w_233_6, w_233_7, w_233_8, q, j1, u7, if_neg (show ¬ (2 : Int) ≤ 0 by decide), show ¬ (1 : Int) = 0 by decide]
theorem s_usesBad {f : Int} (hm : isM g m) (hr : (-2147483648 ≤ f ∧ f < 2147483648)) (hf : ¬ (1 ≤ f ∧ f ≤ 5)) : cl 233 [.ref m, .int (iI f)] (mk g I) = some (.inl (some (.int (iI 0))), mk g (upd2 I m 7 1)) := by
  have q := s_isFinger (g := g) (I := I) (a := f) hr
  rw [if_neg hf] at q
  have u7 : upd2 I m 7 1 m 7 = 1 := upd2_at
  obtain ⟨t_0, ⟨t_1, d_1, n_1⟩, ⟨t_2, d_2, n_2⟩, ⟨t_3, d_3, n_3⟩, ⟨t_4, d_4, n_4⟩, ⟨t_5, d_5, n_5⟩, ⟨t_6, n_6⟩, ⟨t_7, d_7, n_7⟩, ⟨t_8, d_8, n_8⟩, ⟨t_9, d_9, n_9⟩, ⟨t_10, d_10, n_10⟩, ⟨t_11, d_11, n_11⟩, ⟨t_12, d_12, n_12⟩, ⟨t_13, d_13, n_13⟩, ⟨t_14, d_14, n_14⟩, ⟨t_15, n_15⟩, ⟨t_16, n_16⟩, ⟨t_17, d_17, n_17⟩, ⟨t_18, d_18, n_18⟩⟩ := hm
  simp (maxSteps := 2000000) (disch := first | assumption | omega) only [aft_v, aft_n, aft_t, Nat.add_assoc, Nat.reduceAdd, if_true, if_false, not_true_eq_false, not_false_eq_true, Classical.not_not, Int.reduceAdd, Int.reduceSub, Int.reduceMul, Int.reduceNeg, Int.reduceLT, Int.reduceLE, Int.reduceEq, Int.add_zero, Int.zero_add, Int.sub_zero, c_233, w_233_0, w_233_1, w_233_2, w_233_7, w_233_8, q, u7, if_neg (show ¬ (1 : Int) ≤ 0 by decide)]
end MQ4
