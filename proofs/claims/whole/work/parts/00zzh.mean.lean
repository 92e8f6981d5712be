/-! The mean cost of a note: its quotient is a number. -/
def dok : FP.Core.Datum → Prop
  | .nan => False
  | .inf _ => True
  | .fin _ c q => c < 9007199254740992 ∧ q ≤ 971
theorem b64_t : FP.Core.b64.tails = 4503599627370496 := by decide
theorem b64_e : FP.Core.b64.exps = 2048 := by decide
theorem b64_q : FP.Core.b64.qmin = -1074 := by decide
theorem b64_m : FP.Core.b64.qmax = 971 := by decide
theorem b64_p : 2 ^ FP.Core.b64.p = 9007199254740992 := by decide
theorem enc_ok {D : FP.Core.Datum} (h : dok D) : FP.Core.encode FP.Core.b64 D < 18446744073709551616 ∧ FP.Core.encode FP.Core.b64 D % 9223372036854775808 ≤ 9218868437227405312 := by
  cases D with
  | nan => exact absurd h (by intro h; exact h)
  | inf s => cases s <;> decide +kernel
  | fin s c q =>
    obtain ⟨h1, h2⟩ := h
    unfold FP.Core.encode FP.Core.assemble
    simp only [b64_t, b64_e, b64_q]
    cases s
    · simp only [Bool.toNat_false]
      split <;> omega
    · simp only [Bool.toNat_true]
      split <;> omega
theorem dec_ok {n : Nat} (h : n % 9223372036854775808 ≤ 9218868437227405312) : ¬ FP.Core.decode FP.Core.b64 n = .nan := by
  unfold FP.Core.decode FP.Core.fieldE FP.Core.fieldT
  simp only [b64_t, b64_e]
  by_cases h1 : n / 4503599627370496 % 2048 = 2048 - 1
  · rw [if_pos h1, if_pos (show n % 4503599627370496 = 0 by omega)]
    intro h; cases h
  · rw [if_neg h1]
    split <;> (intro h; cases h)
theorem bnd_ok {s : Bool} {c : Nat} {q : Int} (hc : c < 9007199254740992) : dok (FP.Core.bound FP.Core.b64 s c q) := by
  unfold FP.Core.bound
  rw [b64_m]
  split
  · exact ⟨hc, by assumption⟩
  · exact True.intro
theorem set_ok {s : Bool} {c : Nat} {q : Int} : dok (FP.Core.settle FP.Core.b64 s c q) := by
  unfold FP.Core.settle
  rw [b64_p]
  split
  · exact bnd_ok (by assumption)
  · exact bnd_ok (by rw [b64_t]; decide)
theorem rr_ok {s : Bool} {a b : Nat} {e : Int} : dok (FP.Core.roundRatio FP.Core.b64 s a b e) := by
  unfold FP.Core.roundRatio
  split
  · exact ⟨by decide, by rw [b64_q]; decide⟩
  · exact set_ok
def isFn : FP.Core.Datum → Bool
  | .fin _ c _ => decide (¬ c = 0)
  | _ => false
theorem quo_ok {x y : FP.Core.Datum} (hx : ¬ x = .nan) (hy : isFn y = true) : dok (FP.Core.quotient FP.Core.b64 x y) := by
  cases y with
  | nan => cases hy
  | inf t => cases hy
  | fin t d r =>
    have hd : ¬ d = 0 := of_decide_eq_true hy
    cases x with
    | nan => exact absurd rfl hx
    | inf s => exact True.intro
    | fin s c q =>
      show dok (if d = 0 then _ else FP.Core.roundRatio FP.Core.b64 (s != t) c d (q - r))
      rw [if_neg hd]
      exact rr_ok
theorem i2d_nn {a : Int32} : ¬ FP.Core.decode FP.Core.b64 (FP.i2d a).toNat = .nan := by
  have h : dok (FP.Core.round FP.Core.b64 (FP.Core.ofInt a.toInt)) := rr_ok
  have e := enc_ok h
  have : (FP.i2d a).toNat = FP.Core.encode FP.Core.b64 (FP.Core.round FP.Core.b64 (FP.Core.ofInt a.toInt)) := by
    show (UInt64.ofNat (FP.Core.encode FP.Core.b64 (FP.Core.round FP.Core.b64 (FP.Core.ofInt a.toInt)))).toNat = _
    rw [UInt64.toNat_ofNat']
    exact Nat.mod_eq_of_lt e.1
  rw [this]
  exact dec_ok e.2
theorem i2d_fn {b : Int} (h : 1 ≤ b ∧ b ≤ 120) : isFn (FP.Core.decode FP.Core.b64 (FP.i2d (iI b)).toNat) = true := by
  have key : ∀ (n : Fin 120), isFn (FP.Core.decode FP.Core.b64 (FP.i2d (iI ((n.val : Int) + 1))).toNat) = true := by decide +kernel
  have := key ⟨(b - 1).toNat, by omega⟩
  simp only at this
  rw [show (((b - 1).toNat : Nat) : Int) + 1 = b by omega] at this
  exact this
theorem dd_nn {a : Int32} {b : Int} (h : 1 ≤ b ∧ b ≤ 120) : FP.ddiv (FP.i2d a) (FP.i2d (iI b)) &&& 0x7fffffffffffffff ≤ 0x7ff0000000000000 := by
  have e := enc_ok (quo_ok (i2d_nn (a := a)) (i2d_fn h))
  have : (FP.ddiv (FP.i2d a) (FP.i2d (iI b))).toNat = FP.Core.encode FP.Core.b64 (FP.Core.quotient FP.Core.b64 (FP.Core.decode FP.Core.b64 (FP.i2d a).toNat) (FP.Core.decode FP.Core.b64 (FP.i2d (iI b)).toNat)) := by
    show (UInt64.ofNat (FP.Core.encode FP.Core.b64 (FP.Core.quotient FP.Core.b64 (FP.Core.decode FP.Core.b64 (FP.i2d a).toNat) (FP.Core.decode FP.Core.b64 (FP.i2d (iI b)).toNat)))).toNat = _
    rw [UInt64.toNat_ofNat']
    exact Nat.mod_eq_of_lt e.1
  rw [UInt64.le_iff_toNat_le, UInt64.toNat_and, this, show (0x7fffffffffffffff : UInt64).toNat = 2 ^ 63 - 1 from rfl, Nat.and_two_pow_sub_one_eq_mod]
  exact e.2
/-- the mean cost of a note -/
noncomputable def mnD (P : PT) : UInt64 := if pE P = 0 then FP.dconst0 else FP.ddiv (FP.i2d (iI (lsS P 0))) (FP.i2d (iI (sumI (pSz P) (pE P))))
theorem nts_b {P : PT} (hbd : bdP P) : 0 ≤ sumI (pSz P) (pE P) ∧ sumI (pSz P) (pE P) ≤ 120 ∧ (pE P = 0 ↔ sumI (pSz P) (pE P) = 0) := by
  have h := sumI_b (f := pSz P) (A := 1) (B := 3) (n := pE P) hbd.2.1.1 (fun i i0 i1 => (hbd.2.2.1 i i0 i1).1)
  have := hbd.2.1
  refine ⟨by omega, by omega, fun h0 => ?_, fun h0 => by omega⟩
  rw [h0]; rfl
section MEAN
variable {g : Gm} {I : Mm} {m x : Nat} {P : PT}
theorem s_hmean (hx : isHn g x) (hl : isPl g (x + 35)) (hB : gd I (x + 1)) (ho : plOk x I) (hz : ¬ lsS (pv I (x + 1)) 0 = -1) :
    ∃ I', cl 110 [.ref x] (mk g I) = some (.inl (some (.double (mnD (pv I (x + 1))))), mk g I') ∧ frP (x + 35) I I' ∧ Sol (pv I (x + 1)) (x + 35) I' := by
  obtain ⟨I', e1, fr, s⟩ := s_needFingering hx hl hB ho
  rw [if_neg hz] at e1
  refine ⟨I', ?_, fr, s⟩
  have hbd := gd_bd hB
  have gJ := gd_fr fr (q := x + 1) (by omega) hB
  have hx' := hx
  obtain ⟨h5, hp⟩ := hx
  have q := s_allNotes (g := g) (I := I') (q := x + 1) hp gJ.1
  rw [fr (x + 1) (by omega), fr (x + 1 + 2) (by omega)] at q
  have nb := nts_b hbd
  have h1 : g.1 (x + 35) = sX1 (x + 35) := hl.1
  have h2 : I' (x + 35) 2 = lsS (pv I (x + 1)) 0 := s.2.2.1
  obtain ⟨p_0, ⟨p_1, q_1, p_2⟩, ⟨p_3, q_3, p_4⟩, ⟨p_5, q_5, p_6⟩, ⟨p_7, q_7, p_8⟩, ⟨p_9, q_9, p_10⟩, ⟨p_11, q_11, p_12⟩, ⟨p_13, q_13, p_14⟩, ⟨p_15, q_15, p_16⟩⟩ := hp
  obtain ⟨N, hN⟩ : ∃ N, N = sumI (pSz (pv I (x + 1))) (pE (pv I (x + 1))) := ⟨_, rfl⟩
  have q : cl 11 [.ref (x + 1)] (mk g I') = some (.inl (some (.int (iI N))), mk g I') := by rw [hN]; exact q
  rw [← hN] at nb
  unfold mnD
  by_cases h0 : pE (pv I (x + 1)) = 0
  · rw [if_pos h0]
    have := nb.2.2.mp h0
    simp (maxSteps := 2000000) (disch := first | assumption | omega) only [aft_v, aft_n, aft_t, Nat.add_assoc, Nat.reduceAdd, if_true, if_false, not_true_eq_false, not_false_eq_true, Classical.not_not, Int.reduceAdd, Int.reduceSub, Int.reduceMul, Int.reduceNeg, Int.reduceLT, Int.reduceLE, Int.reduceEq, Int.add_zero, Int.zero_add, Int.sub_zero, c_110, w_110_0, w_110_1, w_110_2, w_110_3, w_110_5, e1, q, this]
  · rw [if_neg h0, ← hN]
    have hn0 : ¬ N = 0 := fun h => h0 (nb.2.2.mpr h)
    have hd := dd_nn (a := iI (lsS (pv I (x + 1)) 0)) (b := N) (by omega)
    simp (maxSteps := 2000000) (disch := first | assumption | omega) only [aft_v, aft_n, aft_t, Nat.add_assoc, Nat.reduceAdd, if_true, if_false, not_true_eq_false, not_false_eq_true, Classical.not_not, Int.reduceAdd, Int.reduceSub, Int.reduceMul, Int.reduceNeg, Int.reduceLT, Int.reduceLE, Int.reduceEq, Int.add_zero, Int.zero_add, Int.sub_zero, c_110, w_110_0, w_110_1, w_110_2, e1, q, hn0]
    refine (w_110_4 h5 h1 (by rw [h2]; exact hd)).trans ?_
    rw [h2]
    simp (maxSteps := 2000000) (disch := first | assumption | omega) only [aft_v, aft_n, aft_t, Nat.add_assoc, Nat.reduceAdd, if_true, if_false, not_true_eq_false, not_false_eq_true, Classical.not_not, Int.reduceAdd, Int.reduceSub, Int.reduceMul, Int.reduceNeg, Int.reduceLT, Int.reduceLE, Int.reduceEq, Int.add_zero, Int.zero_add, Int.sub_zero, w_110_5]
theorem s_hmeanNo (hx : isHn g x) (hl : isPl g (x + 35)) (hB : gd I (x + 1)) (ho : plOk x I) (hz : lsS (pv I (x + 1)) 0 = -1) :
    ∃ I', cl 110 [.ref x] (mk g I) = some (.inr "java/util/NoSuchElementException", mk (gexc g) I') ∧ frP (x + 35) I I' ∧ Sol (pv I (x + 1)) (x + 35) I' := by
  obtain ⟨I', e1, fr, s⟩ := s_needFingering hx hl hB ho
  rw [if_pos hz] at e1
  refine ⟨I', ?_, fr, s⟩
  obtain ⟨h5, hp⟩ := hx
  simp (maxSteps := 2000000) (disch := first | assumption | omega) only [aft_v, aft_n, aft_t, Nat.add_assoc, Nat.reduceAdd, if_true, if_false, not_true_eq_false, not_false_eq_true, Classical.not_not, Int.reduceAdd, Int.reduceSub, Int.reduceMul, Int.reduceNeg, Int.reduceLT, Int.reduceLE, Int.reduceEq, Int.add_zero, Int.zero_add, Int.sub_zero, c_110, w_110_0, e1]
theorem s_meanM {L : Nat → Int → Int} (hm : isM g m) (hW : Wf P) (hP : P = mv I m) (hz : ¬ lsS P 0 = -1) :
    ∃ I' L', cl 236 [.ref m] (mk (gL g L) I) = some (.inl (some (.double (mnD P))), mk (gL g L') I') ∧ frQ m 0 I I' ∧ frML m L L' := by
  have hbd := Wf_bd hW
  have w1 := hW.2.1
  have lsb := ls_b hbd (b := 0)
  have fl2 : farS (lsS P 0) = lsS P 0 := by unfold farS; rw [if_neg hz]
  obtain ⟨J, L1, j1, j2, j3, j4⟩ := s_bestNow (g := g) (I := I) (L := L) (P := P) hm hW hP
  rw [fl2] at j1
  have fJ : frQ m 0 I (upd2 J m 7 0) := frQ_C (frM_C j2)
  refine ⟨upd2 J m 7 0, L1, ?_, fJ, j3⟩
  have pJ : mv (upd2 J m 7 0) m = P := by rw [hP]; exact frQ_mv fJ
  have nb := nts_b hbd
  have u7 : upd2 J m 7 0 m 7 = 0 := upd2_at
  have hev : cl 182 [.ref m] (mk (gL g L1) (upd2 J m 7 0)) = some (.inl (some (.int (iI (pE P)))), mk (gL g L1) (upd2 J m 7 0)) := by rw [← pJ]; exact s_events hm
  have q : cl 192 [.ref m] (mk (gL g L1) (upd2 J m 7 0)) = some (.inl (some (.int (iI (sumI (pSz P) (pE P))))), mk (gL g L1) (upd2 J m 7 0)) := by
    have := s_allNotesM (g := gL g L1) (I := upd2 J m 7 0) hm (by rw [pJ]; exact hW)
    rw [pJ] at this
    rw [this]
    refine ans_i ?_
    rw [← pJ]; rfl
  obtain ⟨N, hN⟩ : ∃ N, N = sumI (pSz P) (pE P) := ⟨_, rfl⟩
  have hm0 := hm
  obtain ⟨t_0, ⟨t_1, d_1, n_1⟩, ⟨t_2, d_2, n_2⟩, ⟨t_3, d_3, n_3⟩, ⟨t_4, d_4, n_4⟩, ⟨t_5, d_5, n_5⟩, ⟨t_6, n_6⟩, ⟨t_7, d_7, n_7⟩, ⟨t_8, d_8, n_8⟩, ⟨t_9, d_9, n_9⟩, ⟨t_10, d_10, n_10⟩, ⟨t_11, d_11, n_11⟩, ⟨t_12, d_12, n_12⟩, ⟨t_13, d_13, n_13⟩, ⟨t_14, d_14, n_14⟩, ⟨t_15, n_15⟩, ⟨t_16, n_16⟩, ⟨t_17, d_17, n_17⟩, ⟨t_18, d_18, n_18⟩⟩ := hm
  unfold mnD
  rw [← hN] at q nb
  by_cases h0 : pE P = 0
  · rw [if_pos h0]
    rw [h0] at hev
    simp (maxSteps := 2000000) (disch := first | assumption | omega | (simp (disch := omega) only [gL_gL, gL_21, gtL, gnL, gL_1, gL_gL, gL_21, upd2_p]; first | assumption | omega)) only [gL_gL, gL_21, aft_v, aft_n, aft_t, Nat.add_assoc, Nat.reduceAdd, if_true, if_false, not_true_eq_false, not_false_eq_true, Classical.not_not, Int.reduceAdd, Int.reduceSub, Int.reduceMul, Int.reduceNeg, Int.reduceLT, Int.reduceLE, Int.reduceEq, Int.add_zero, Int.zero_add, Int.sub_zero, c_236, w_236_0, w_236_1, w_236_2, w_236_4, w_236_5, w_236_6, w_236_7, w_236_10, j1, hev, u7, if_neg (show ¬ 1000000000 ≤ lsS P 0 by omega), if_neg (show ¬ (0 : Int) < 0 by decide)]
  · rw [if_neg h0, ← hN]
    have hd := dd_nn (a := iI (lsS P 0)) (b := N) (by omega)
    simp (maxSteps := 2000000) (disch := first | assumption | omega | (simp (disch := omega) only [gL_gL, gL_21, gtL, gnL, gL_1, gL_gL, gL_21, upd2_p]; first | assumption | omega)) only [gL_gL, gL_21, aft_v, aft_n, aft_t, Nat.add_assoc, Nat.reduceAdd, if_true, if_false, not_true_eq_false, not_false_eq_true, Classical.not_not, Int.reduceAdd, Int.reduceSub, Int.reduceMul, Int.reduceNeg, Int.reduceLT, Int.reduceLE, Int.reduceEq, Int.add_zero, Int.zero_add, Int.sub_zero, c_236, w_236_0, w_236_1, w_236_2, w_236_4, w_236_5, w_236_6, w_236_8, j1, hev, q, u7, h0, if_neg (show ¬ 1000000000 ≤ lsS P 0 by omega), if_neg (show ¬ (0 : Int) < 0 by decide)]
    refine (w_236_9 hd).trans ?_
    simp (maxSteps := 2000000) (disch := first | assumption | omega | (simp (disch := omega) only [gL_gL, gL_21, gtL, gnL, gL_1, gL_gL, gL_21, upd2_p]; first | assumption | omega)) only [gL_gL, gL_21, aft_v, aft_n, aft_t, Nat.add_assoc, Nat.reduceAdd, if_true, if_false, not_true_eq_false, not_false_eq_true, Classical.not_not, Int.reduceAdd, Int.reduceSub, Int.reduceMul, Int.reduceNeg, Int.reduceLT, Int.reduceLE, Int.reduceEq, Int.add_zero, Int.zero_add, Int.sub_zero, w_236_10]
theorem s_meanNo {L : Nat → Int → Int} (hm : isM g m) (hW : Wf P) (hP : P = mv I m) (hz : lsS P 0 = -1) :
    ∃ I' L', cl 236 [.ref m] (mk (gL g L) I) = some (.inl (some (.double FP.dconst0)), mk (gL g L') I') ∧ frQ m 1 I I' ∧ frML m L L' := by
  obtain ⟨J, L1, j1, j2, j3, j4⟩ := s_bestNow (g := g) (I := I) (L := L) (P := P) hm hW hP
  rw [hz, show farS (-1) = 1000000000 from rfl] at j1
  refine ⟨upd2 J m 7 1, L1, ?_, frQ_C (frM_C j2), j3⟩
  have u7 : upd2 J m 7 1 m 7 = 1 := upd2_at
  obtain ⟨t_0, ⟨t_1, d_1, n_1⟩, ⟨t_2, d_2, n_2⟩, ⟨t_3, d_3, n_3⟩, ⟨t_4, d_4, n_4⟩, ⟨t_5, d_5, n_5⟩, ⟨t_6, n_6⟩, ⟨t_7, d_7, n_7⟩, ⟨t_8, d_8, n_8⟩, ⟨t_9, d_9, n_9⟩, ⟨t_10, d_10, n_10⟩, ⟨t_11, d_11, n_11⟩, ⟨t_12, d_12, n_12⟩, ⟨t_13, d_13, n_13⟩, ⟨t_14, d_14, n_14⟩, ⟨t_15, n_15⟩, ⟨t_16, n_16⟩, ⟨t_17, d_17, n_17⟩, ⟨t_18, d_18, n_18⟩⟩ := hm
  simp (maxSteps := 2000000) (disch := first | assumption | omega | (simp (disch := omega) only [gL_gL, gL_21, gtL, gnL, gL_1, gL_gL, gL_21, upd2_p]; first | assumption | omega)) only [gL_gL, gL_21, aft_v, aft_n, aft_t, Nat.add_assoc, Nat.reduceAdd, if_true, if_false, not_true_eq_false, not_false_eq_true, Classical.not_not, Int.reduceAdd, Int.reduceSub, Int.reduceMul, Int.reduceNeg, Int.reduceLT, Int.reduceLE, Int.reduceEq, Int.add_zero, Int.zero_add, Int.sub_zero, c_236, w_236_0, w_236_1, w_236_3, w_236_4, w_236_7, w_236_10, j1, u7, if_pos (show (0 : Int) < 1 by decide)]
end MEAN
