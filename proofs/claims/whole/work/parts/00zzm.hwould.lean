/-! The class: what would be. -/
section CPY
variable {I : Mm} {q o : Nat}
theorem cp_o {p : Nat} {i : Int} (h : p < q ∨ q + 16 < p) : cpP I q o p i = I p i := by
  unfold cpP
  (repeat rw [if_neg (by omega)])
theorem cp_00 : cpP I q o q 0 = I o 0 := by
  unfold cpP; rw [if_pos (by omega)]
theorem cp_01 : cpP I q o q 1 = I o 1 := by
  unfold cpP; rw [if_pos (by omega)]
theorem cp_2 {i : Int} : cpP I q o (q + 2) i = if 0 ≤ i ∧ i < 40 then I (o + 2) i else I (q + 2) i := by
  unfold cpP
  rw [if_neg (by omega)]
  by_cases h : 0 ≤ i ∧ i < 40
  · rw [if_pos (by omega), if_pos h]
  · (repeat rw [if_neg (by omega)])
theorem cp_4 {i : Int} : cpP I q o (q + 4) i = if 0 ≤ i ∧ i < 40 then I (o + 4) i else I (q + 4) i := by
  unfold cpP
  rw [if_neg (by omega), if_neg (by omega)]
  by_cases h : 0 ≤ i ∧ i < 40
  · rw [if_pos (by omega), if_pos h]
  · (repeat rw [if_neg (by omega)])
theorem cp_6 {i : Int} : cpP I q o (q + 6) i = if 0 ≤ i ∧ i < 120 then I (o + 6) i else I (q + 6) i := by
  unfold cpP
  rw [if_neg (by omega), if_neg (by omega), if_neg (by omega)]
  by_cases h : 0 ≤ i ∧ i < 120
  · rw [if_pos (by omega), if_pos h]
  · (repeat rw [if_neg (by omega)])
theorem cp_8 {i : Int} : cpP I q o (q + 8) i = if 0 ≤ i ∧ i < 120 then I (o + 8) i else I (q + 8) i := by
  unfold cpP
  rw [if_neg (by omega), if_neg (by omega), if_neg (by omega), if_neg (by omega)]
  by_cases h : 0 ≤ i ∧ i < 120
  · rw [if_pos (by omega), if_pos h]
  · (repeat rw [if_neg (by omega)])
theorem cp_10 {i : Int} : cpP I q o (q + 10) i = if 0 ≤ i ∧ i < 10 then I (o + 10) i else I (q + 10) i := by
  unfold cpP
  rw [if_neg (by omega), if_neg (by omega), if_neg (by omega), if_neg (by omega), if_neg (by omega)]
  by_cases h : 0 ≤ i ∧ i < 10
  · rw [if_pos (by omega), if_pos h]
  · (repeat rw [if_neg (by omega)])
theorem cp_12 {i : Int} : cpP I q o (q + 12) i = if 0 ≤ i ∧ i < 25 then I (o + 12) i else I (q + 12) i := by
  unfold cpP
  rw [if_neg (by omega), if_neg (by omega), if_neg (by omega), if_neg (by omega), if_neg (by omega), if_neg (by omega)]
  by_cases h : 0 ≤ i ∧ i < 25
  · rw [if_pos (by omega), if_pos h]
  · (repeat rw [if_neg (by omega)])
theorem cp_14 {i : Int} : cpP I q o (q + 14) i = if 0 ≤ i ∧ i < 25 then I (o + 14) i else I (q + 14) i := by
  unfold cpP
  rw [if_neg (by omega), if_neg (by omega), if_neg (by omega), if_neg (by omega), if_neg (by omega), if_neg (by omega), if_neg (by omega)]
  by_cases h : 0 ≤ i ∧ i < 25
  · rw [if_pos (by omega), if_pos h]
  · (repeat rw [if_neg (by omega)])
theorem cp_16 {i : Int} : cpP I q o (q + 16) i = if 0 ≤ i ∧ i < 25 then I (o + 16) i else I (q + 16) i := by
  unfold cpP
  rw [if_neg (by omega), if_neg (by omega), if_neg (by omega), if_neg (by omega), if_neg (by omega), if_neg (by omega), if_neg (by omega), if_neg (by omega)]
  by_cases h : 0 ≤ i ∧ i < 25
  · rw [if_pos (by omega), if_pos h]
  · rw [if_neg (by omega), if_neg h]
theorem ite_b {c : Prop} [Decidable c] {a b A B : Int} (h1 : A ≤ a ∧ a ≤ B) (h2 : A ≤ b ∧ b ≤ B) : A ≤ (if c then a else b) ∧ (if c then a else b) ≤ B := by split <;> assumption
theorem cp_pB (h : pB I o) (h' : pB I q) : pB (cpP I q o) q := by
  obtain ⟨a0, a1, a2, a4, a6, a8, a10, a12, a14, a16⟩ := h
  obtain ⟨b0, b1, b2, b4, b6, b8, b10, b12, b14, b16⟩ := h'
  refine ⟨by rw [cp_00]; exact a0, by rw [cp_01]; exact a1, fun i => ?_, fun i => ?_, fun i => ?_, fun i => ?_, fun i => ?_, fun i => ?_, fun i => ?_, fun i => ?_⟩
  · rw [cp_2]; exact ite_b (a2 i) (b2 i)
  · rw [cp_4]; exact ite_b (a4 i) (b4 i)
  · rw [cp_6]; exact ite_b (a6 i) (b6 i)
  · rw [cp_8]; exact ite_b (a8 i) (b8 i)
  · rw [cp_10]; exact ite_b (a10 i) (b10 i)
  · rw [cp_12]; exact ite_b (a12 i) (b12 i)
  · rw [cp_14]; exact ite_b (a14 i) (b14 i)
  · rw [cp_16]; exact ite_b (a16 i) (b16 i)
theorem cp_Agr (h : pB I o) : Agr (pv (cpP I q o) q) (pv I o) := by
  have h1 := h.2.1
  have h2 := h.2.2.1
  have hE : pE (pv (cpP I q o) q) = I o 1 := cp_01
  refine ⟨cp_00, cp_01, fun e a b => ?_, fun w a b => ?_, fun a b a1 a2 b1 b2 hn => ?_⟩
  · rw [hE] at b
    have hz : pSz (pv (cpP I q o) q) e = I (o + 2) e := by
      show cpP I q o (q + 2) e = _; rw [cp_2, if_pos (by omega)]
    have := h2 e
    refine ⟨hz, ?_, fun k k0 k1 => ⟨?_, ?_⟩⟩
    · show cpP I q o (q + 4) e = I (o + 4) e; rw [cp_4, if_pos (by omega)]
    · rw [hz] at k1
      show cpP I q o (q + 6) (e * 3 + k) = I (o + 6) (e * 3 + k); rw [cp_6, if_pos (by omega)]
    · rw [hz] at k1
      show cpP I q o (q + 8) (e * 3 + k) = I (o + 8) (e * 3 + k); rw [cp_8, if_pos (by omega)]
  · show cpP I q o (q + 10) w = I (o + 10) w; rw [cp_10, if_pos (by omega)]
  · refine ⟨?_, ?_, ?_⟩
    · show cpP I q o (q + 12) ((a - 1) * 5 + b - 1) = I (o + 12) ((a - 1) * 5 + b - 1); rw [cp_12, if_pos (by omega)]
    · show cpP I q o (q + 14) ((a - 1) * 5 + b - 1) = I (o + 14) ((a - 1) * 5 + b - 1); rw [cp_14, if_pos (by omega)]
    · show cpP I q o (q + 16) ((a - 1) * 5 + b - 1) = I (o + 16) ((a - 1) * 5 + b - 1); rw [cp_16, if_pos (by omega)]
/-- a piece in its bounds, as the document allows it, is good -/
theorem gd_of (h : pB I q) (hW : Wf (pv I q)) : gd I q := by
  refine ⟨h, fun e a b => ?_⟩
  obtain ⟨x1, x2, x3, x4⟩ := hW.2.2.1 e a b
  refine ⟨x1.1, fun k k0 k1 => ?_⟩
  exact x4 k k0 k1
end CPY
theorem fit_0 {P : PT} (hW : Wf P) : fitS P 0 := by
  have w1 := hW.2.1
  unfold fitS
  by_cases h : pE P = 0
  · exact Or.inl h
  · have a := (lk_rng hW w1.1 (Int.le_refl _)).2 (by omega)
    have b := (gk_rng hW w1.1 (Int.le_refl _)).2 (by omega)
    exact Or.inr (by omega)
theorem ezS_1 {P : PT} (hW : Wf P) (hz : ¬ lsS P 0 = -1) : ezS P 1 = (0, lsS P 0) := by
  have hc : cvS P (byS 0) = lsS P 0 := by
    unfold cvS byS
    rw [if_neg (show ¬ (0 : Int) % 2 = 1 by decide), show (0 : Int) / 2 = 0 from rfl, if_pos (fit_0 hW), if_neg hz]
    rfl
  have h := ezS_s (P := P) (k := 0) (Int.le_refl _)
  rw [show (0 : Int) + 1 = 1 from rfl] at h
  rw [h, hc, if_pos ⟨hz, Or.inl rfl⟩]
  rfl
theorem ezS_nz {P : PT} (hW : Wf P) (hz : ¬ lsS P 0 = -1) {k : Int} (h : 1 ≤ k) : ¬ (ezS P k).2 = -1 := by
  have key : ∀ n : Nat, ¬ (ezS P ((n + 1 : Nat) : Int)).2 = -1 := by
    intro n
    induction n with
    | zero => show ¬ (ezS P 1).2 = -1; rw [ezS_1 hW hz]; exact hz
    | succ n ih =>
      rw [show ((n + 1 + 1 : Nat) : Int) = ((n + 1 : Nat) : Int) + 1 from rfl, ezS_s (by omega)]
      by_cases hc : ¬ cvS P (byS ((n + 1 : Nat) : Int)) = -1 ∧ ((ezS P ((n + 1 : Nat) : Int)).2 = -1 ∨ cvS P (byS ((n + 1 : Nat) : Int)) < (ezS P ((n + 1 : Nat) : Int)).2)
      · rw [if_pos hc]; exact hc.1
      · rw [if_neg hc]; exact ih
  have := key (k - 1).toNat
  rw [show (((k - 1).toNat + 1 : Nat) : Int) = k by omega] at this
  exact this
section HWD
variable {g : Gm} {I : Mm} {x : Nat}
theorem s_canShift' {d : Int} {q : Nat} (hp : isPc g q) (hB : gd I q) (hd : -1000 ≤ d ∧ d ≤ 1000) : cl 8 [.ref q, .int (iI d)] (mk g I) = some (.inl (some (.int (iI (@ite _ (fitS (pv I q) d) (Classical.propDecidable _) 1 0)))), mk g I) := by
  rw [s_canShift hp hB.1 (fun e a b => (hB.2 e a b).1) hd]
  refine ans_i ?_
  by_cases h : fitS (pv I q) d
  · rw [if_pos h]; exact if_pos h
  · rw [if_neg h]; exact if_neg h
theorem s_needT {d : Int} (hx : isHn g x) (hB : gd I (x + 1)) (hd : -87 ≤ d ∧ d ≤ 87) (hf : fitS (pv I (x + 1)) d) : cl 136 [.ref x, .int (iI d)] (mk g I) = some (.inl none, mk g I) := by
  have q := s_isWithin (g := g) (I := I) (a := d) (b := -87) (c := 87) (by omega) (by omega) (by omega)
  rw [if_pos hd] at q
  obtain ⟨h5, hp⟩ := hx
  have q1 := s_canShift' (g := g) (I := I) (d := d) hp hB (by omega)
  rw [if_pos hf] at q1
  obtain ⟨p_0, ⟨p_1, q_1, p_2⟩, ⟨p_3, q_3, p_4⟩, ⟨p_5, q_5, p_6⟩, ⟨p_7, q_7, p_8⟩, ⟨p_9, q_9, p_10⟩, ⟨p_11, q_11, p_12⟩, ⟨p_13, q_13, p_14⟩, ⟨p_15, q_15, p_16⟩⟩ := hp
  simp (maxSteps := 2000000) (disch := first | assumption | omega) only [aft_v, aft_n, aft_t, Nat.add_assoc, Nat.reduceAdd, if_true, if_false, not_true_eq_false, not_false_eq_true, Classical.not_not, Int.reduceAdd, Int.reduceSub, Int.reduceMul, Int.reduceNeg, Int.reduceLT, Int.reduceLE, Int.reduceEq, Int.add_zero, Int.zero_add, Int.sub_zero, c_136, w_136_0, w_136_1, w_136_2, w_136_3, w_136_4, w_136_5, q, q1, show ¬ (1 : Int) = 0 by decide]
theorem s_needTBad {d : Int} (hx : isHn g x) (hB : gd I (x + 1)) (hr : (-2147483648 ≤ d ∧ d < 2147483648)) (h : ¬ ((-87 ≤ d ∧ d ≤ 87) ∧ fitS (pv I (x + 1)) d)) : cl 136 [.ref x, .int (iI d)] (mk g I) = some (.inr "java/lang/IllegalArgumentException", mk (gexc g) I) := by
  have q := s_isWithin (g := g) (I := I) (a := d) (b := -87) (c := 87) (by omega) (by omega) (by omega)
  obtain ⟨h5, hp⟩ := hx
  by_cases hd : -87 ≤ d ∧ d ≤ 87
  · rw [if_pos hd] at q
    have q1 := s_canShift' (g := g) (I := I) (d := d) hp hB (by omega)
    rw [if_neg (fun z => h ⟨hd, z⟩)] at q1
    obtain ⟨p_0, ⟨p_1, q_1, p_2⟩, ⟨p_3, q_3, p_4⟩, ⟨p_5, q_5, p_6⟩, ⟨p_7, q_7, p_8⟩, ⟨p_9, q_9, p_10⟩, ⟨p_11, q_11, p_12⟩, ⟨p_13, q_13, p_14⟩, ⟨p_15, q_15, p_16⟩⟩ := hp
    simp (maxSteps := 2000000) (disch := first | assumption | omega) only [aft_v, aft_n, aft_t, Nat.add_assoc, Nat.reduceAdd, if_true, if_false, not_true_eq_false, not_false_eq_true, Classical.not_not, Int.reduceAdd, Int.reduceSub, Int.reduceMul, Int.reduceNeg, Int.reduceLT, Int.reduceLE, Int.reduceEq, Int.add_zero, Int.zero_add, Int.sub_zero, c_136, w_136_0, w_136_1, w_136_2, w_136_3, w_136_4, q, q1, show ¬ (1 : Int) = 0 by decide]
  · rw [if_neg hd] at q
    simp (maxSteps := 2000000) (disch := first | assumption | omega) only [aft_v, aft_n, aft_t, Nat.add_assoc, Nat.reduceAdd, if_true, if_false, not_true_eq_false, not_false_eq_true, Classical.not_not, Int.reduceAdd, Int.reduceSub, Int.reduceMul, Int.reduceNeg, Int.reduceLT, Int.reduceLE, Int.reduceEq, Int.add_zero, Int.zero_add, Int.sub_zero, c_136, w_136_0, w_136_1, w_136_4, q]
theorem s_htransposed {d : Int} (hx : isHn g x) (hl : isPl g (x + 35)) (hB : gd I (x + 1)) (ho : plOk x I) (hd : -87 ≤ d ∧ d ≤ 87) (hf : fitS (pv I (x + 1)) d) :
    ∃ I', cl 114 [.ref x, .int (iI d)] (mk g I) = some (.inl (some (.int (iI (if lsS (pv I (x + 1)) 0 = -1 then -1 else lsS (pv I (x + 1)) (d % 12))))), mk g I') ∧ frP (x + 35) I I' ∧ Sol (pv I (x + 1)) (x + 35) I' := by
  have q := s_needT hx hB hd hf
  obtain ⟨I1, e1, f1, s1⟩ := s_hsolve hx hl hB ho
  obtain ⟨h5, hp⟩ := hx
  have pJ : pv I1 (x + 1) = pv I (x + 1) := frP_pv f1 (by omega)
  have gJ := gd_fr f1 (q := x + 1) (by omega) hB
  obtain ⟨I2, e2, f2, s2⟩ := s_leastShifted (g := g) (I := I1) (b := d) hp hl gJ pJ.symm (by omega) s1 hd
  refine ⟨I2, ?_, f1.trans f2, s2⟩
  have h1 : g.1 (x + 35) = sX1 (x + 35) := hl.1
  simp (maxSteps := 2000000) (disch := first | assumption | omega) only [aft_v, aft_n, aft_t, Nat.add_assoc, Nat.reduceAdd, if_true, if_false, not_true_eq_false, not_false_eq_true, Classical.not_not, Int.reduceAdd, Int.reduceSub, Int.reduceMul, Int.reduceNeg, Int.reduceLT, Int.reduceLE, Int.reduceEq, Int.add_zero, Int.zero_add, Int.sub_zero, c_114, w_114_0, w_114_1, w_114_2, w_114_3, q, e1, e2]
theorem s_htransposedBad {d : Int} (hx : isHn g x) (hB : gd I (x + 1)) (hr : (-2147483648 ≤ d ∧ d < 2147483648)) (h : ¬ ((-87 ≤ d ∧ d ≤ 87) ∧ fitS (pv I (x + 1)) d)) : cl 114 [.ref x, .int (iI d)] (mk g I) = some (.inr "java/lang/IllegalArgumentException", mk (gexc g) I) := by
  have q := s_needTBad hx hB hr h
  obtain ⟨h5, hp⟩ := hx
  simp (maxSteps := 2000000) (disch := first | assumption | omega) only [aft_v, aft_n, aft_t, Nat.add_assoc, Nat.reduceAdd, if_true, if_false, not_true_eq_false, not_false_eq_true, Classical.not_not, Int.reduceAdd, Int.reduceSub, Int.reduceMul, Int.reduceNeg, Int.reduceLT, Int.reduceLE, Int.reduceEq, Int.add_zero, Int.zero_add, Int.sub_zero, c_114, w_114_0, q]
theorem s_heasiest {r : Int} (hx : isHn g x) (hl : isPl g (x + 35)) (hB : gd I (x + 1)) (hW : Wf (pv I (x + 1))) (ho : plOk x I) (hr : 0 ≤ r ∧ r ≤ 24) (hz : ¬ lsS (pv I (x + 1)) 0 = -1) :
    ∃ I', cl 115 [.ref x, .int (iI r)] (mk g I) = some (.inl (some (.int (iI (ezS (pv I (x + 1)) (2 * r + 1)).1))), mk g I') ∧ frP (x + 35) I I' ∧ Sol (pv I (x + 1)) (x + 35) I' := by
  obtain ⟨I1, e1, f1, s1⟩ := s_needFingering hx hl hB ho
  rw [if_neg hz] at e1
  have q := s_isWithin (g := g) (I := I) (a := r) (b := 0) (c := 24) (by omega) (by omega) (by omega)
  rw [if_pos hr] at q
  obtain ⟨h5, hp⟩ := hx
  have hp' := hp
  have h1 : g.1 (x + 35) = sX1 (x + 35) := hl.1
  have hbd := gd_bd hB
  obtain ⟨p_0, ⟨p_1, q_1, p_2⟩, ⟨p_3, q_3, p_4⟩, ⟨p_5, q_5, p_6⟩, ⟨p_7, q_7, p_8⟩, ⟨p_9, q_9, p_10⟩, ⟨p_11, q_11, p_12⟩, ⟨p_13, q_13, p_14⟩, ⟨p_15, q_15, p_16⟩⟩ := hp
  -- one try
  have T : ∀ (n d : Int) (J : Mm), 1 ≤ n → n ≤ 48 → frP (x + 35) I J → Sol (pv I (x + 1)) (x + 35) J → ∃ J', rn 115 8 [some (.ref x), some (.int (iI r)), some (.int (iI (ezS (pv I (x + 1)) n).1)), some (.int (iI (ezS (pv I (x + 1)) n).2)), some (.int (iI d)), some (.int (iI (byS n)))] [] (mk g J) = rn 115 14 [some (.ref x), some (.int (iI r)), some (.int (iI (ezS (pv I (x + 1)) (n + 1)).1)), some (.int (iI (ezS (pv I (x + 1)) (n + 1)).2)), some (.int (iI d)), some (.int (iI (byS n)))] [] (mk g J') ∧ frP (x + 35) I J' ∧ Sol (pv I (x + 1)) (x + 35) J' := by
    intro n d J n0 n1 fJ sJ
    have pJ : pv J (x + 1) = pv I (x + 1) := frP_pv fJ (by omega)
    have gJ := gd_fr fJ (q := x + 1) (by omega) hB
    have bb : -25 ≤ byS n ∧ byS n ≤ 25 := by unfold byS; split <;> omega
    have q1 := s_canShift' (g := g) (I := J) (d := byS n) hp' gJ (by omega)
    rw [pJ] at q1
    have eb := ezS_b hbd (k := n) (by omega)
    have ez := ezS_nz hW hz n0
    have cb := cvS_b hbd (d := byS n)
    rw [ezS_s (by omega)]
    by_cases hf : fitS (pv I (x + 1)) (byS n)
    · rw [if_pos hf] at q1
      obtain ⟨J2, a1, a2, a3⟩ := s_leastShifted (g := g) (I := J) (b := byS n) hp' hl gJ pJ.symm (by omega) sJ (by omega)
      have pJ2 : pv J2 (x + 1) = pv I (x + 1) := frP_pv (fJ.trans a2) (by omega)
      have gJ2 := gd_fr (fJ.trans a2) (q := x + 1) (by omega) hB
      obtain ⟨J3, b1, b2, b3⟩ := s_leastShifted (g := g) (I := J2) (b := byS n) hp' hl gJ2 pJ2.symm (by omega) a3 (by omega)
      have hc : cvS (pv I (x + 1)) (byS n) = if lsS (pv I (x + 1)) 0 = -1 then -1 else lsS (pv I (x + 1)) (byS n % 12) := by unfold cvS; rw [if_pos hf]
      rw [← hc] at a1 b1
      have hcn : ¬ cvS (pv I (x + 1)) (byS n) = -1 := fun h => by
        rw [hc, if_neg hz] at h
        exact hz (ls_none hW h)
      by_cases hlt : cvS (pv I (x + 1)) (byS n) < (ezS (pv I (x + 1)) n).2
      · rw [if_pos ⟨hcn, Or.inr hlt⟩]
        refine ⟨J3, ?_, (fJ.trans a2).trans b2, b3⟩
        simp (maxSteps := 2000000) (disch := first | assumption | omega) only [aft_v, aft_n, aft_t, Nat.add_assoc, Nat.reduceAdd, if_true, if_false, not_true_eq_false, not_false_eq_true, Classical.not_not, Int.reduceAdd, Int.reduceSub, Int.reduceMul, Int.reduceNeg, Int.reduceLT, Int.reduceLE, Int.reduceEq, Int.add_zero, Int.zero_add, Int.sub_zero, w_115_8, w_115_9, w_115_10, w_115_11, w_115_12, w_115_13, q1, a1, b1, show ¬ (1 : Int) = 0 by decide, if_neg (show ¬ (ezS (pv I (x + 1)) n).2 ≤ cvS (pv I (x + 1)) (byS n) by omega)]
      · rw [if_neg (fun z => z.2.elim ez hlt)]
        refine ⟨J2, ?_, fJ.trans a2, a3⟩
        simp (maxSteps := 2000000) (disch := first | assumption | omega) only [aft_v, aft_n, aft_t, Nat.add_assoc, Nat.reduceAdd, if_true, if_false, not_true_eq_false, not_false_eq_true, Classical.not_not, Int.reduceAdd, Int.reduceSub, Int.reduceMul, Int.reduceNeg, Int.reduceLT, Int.reduceLE, Int.reduceEq, Int.add_zero, Int.zero_add, Int.sub_zero, w_115_8, w_115_9, w_115_10, w_115_11, q1, a1, show ¬ (1 : Int) = 0 by decide, if_pos (show (ezS (pv I (x + 1)) n).2 ≤ cvS (pv I (x + 1)) (byS n) by omega)]
    · rw [if_neg hf] at q1
      have hc : cvS (pv I (x + 1)) (byS n) = -1 := by unfold cvS; rw [if_neg hf]
      rw [if_neg (fun z => z.1 hc)]
      refine ⟨J, ?_, fJ, sJ⟩
      simp (maxSteps := 2000000) (disch := first | assumption | omega) only [aft_v, aft_n, aft_t, Nat.add_assoc, Nat.reduceAdd, if_true, if_false, not_true_eq_false, not_false_eq_true, Classical.not_not, Int.reduceAdd, Int.reduceSub, Int.reduceMul, Int.reduceNeg, Int.reduceLT, Int.reduceLE, Int.reduceEq, Int.add_zero, Int.zero_add, Int.sub_zero, w_115_8, w_115_9, q1]
  have key := loop_up (σ := Mm × Option Value) (head := fun d s => rn 115 5 [some (.ref x), some (.int (iI r)), some (.int (iI (ezS (pv I (x + 1)) (2 * d + 1)).1)), some (.int (iI (ezS (pv I (x + 1)) (2 * d + 1)).2)), some (.int (iI (d + 1))), s.2] [] (mk g s.1)) (Inv := fun d s => 0 ≤ d ∧ frP (x + 35) I s.1 ∧ Sol (pv I (x + 1)) (x + 35) s.1) (n := r) (by
    rintro d ⟨J, o⟩ d1 ⟨d0, fJ, sJ⟩
    have fJ : frP (x + 35) I J := fJ
    have sJ : Sol (pv I (x + 1)) (x + 35) J := sJ
    obtain ⟨J2, a1, a2, a3⟩ := T (2 * d + 1) (d + 1) J (by omega) (by omega) fJ sJ
    obtain ⟨J3, b1, b2, b3⟩ := T (2 * d + 1 + 1) (d + 1) J2 (by omega) (by omega) a2 a3
    have y1 : byS (2 * d + 1) = -(d + 1) := by unfold byS; rw [if_pos (by omega)]; omega
    have y2 : byS (2 * d + 1 + 1) = d + 1 := by unfold byS; rw [if_neg (by omega)]; omega
    rw [y1] at a1
    rw [y2] at b1
    have e2 : 2 * (d + 1) + 1 = 2 * d + 1 + 1 + 1 := by omega
    refine ⟨(J3, some (.int (iI (d + 1 + 2 * (d + 1))))), ?_, by omega, b2, b3⟩
    show rn _ _ _ _ (mk g J) = rn _ _ _ _ _
    rw [e2]
    refine (w_115_5 (by first | assumption | omega) (by first | assumption | omega) (by first | assumption | omega) (by first | assumption | omega)).trans ?_
    refine (if_neg (by omega)).trans ?_
    refine (w_115_6).trans ?_
    refine (w_115_7 (by first | assumption | omega) (by first | assumption | omega) (by first | assumption | omega) (by first | assumption | omega)).trans ?_
    refine (if_neg (by omega)).trans ?_
    rw [a1]
    refine (w_115_14).trans ?_
    rw [show -(d + 1) + 2 * (d + 1) = d + 1 by omega]
    refine (w_115_7 (by first | assumption | omega) (by first | assumption | omega) (by first | assumption | omega) (by first | assumption | omega)).trans ?_
    refine (if_neg (by omega)).trans ?_
    rw [b1]
    refine (w_115_14).trans ?_
    refine (w_115_7 (by first | assumption | omega) (by first | assumption | omega) (by first | assumption | omega) (by first | assumption | omega)).trans ?_
    refine (if_pos (by omega)).trans ?_
    simp (maxSteps := 2000000) (disch := first | assumption | omega) only [aft_v, aft_n, aft_t, Nat.add_assoc, Nat.reduceAdd, if_true, if_false, not_true_eq_false, not_false_eq_true, Classical.not_not, Int.reduceAdd, Int.reduceSub, Int.reduceMul, Int.reduceNeg, Int.reduceLT, Int.reduceLE, Int.reduceEq, Int.add_zero, Int.zero_add, Int.sub_zero, w_115_15]) 0 (I1, none) hr.1 ⟨Int.le_refl _, f1, s1⟩
  obtain ⟨⟨J, o⟩, k1, -, k2, k3⟩ := key
  have k1 : rn 115 5 [some (.ref x), some (.int (iI r)), some (.int (iI (ezS (pv I (x + 1)) 1).1)), some (.int (iI (ezS (pv I (x + 1)) 1).2)), some (.int (iI 1)), none] [] (mk g I1) = rn 115 5 [some (.ref x), some (.int (iI r)), some (.int (iI (ezS (pv I (x + 1)) (2 * r + 1)).1)), some (.int (iI (ezS (pv I (x + 1)) (2 * r + 1)).2)), some (.int (iI (r + 1))), o] [] (mk g J) := k1
  rw [ezS_1 hW hz] at k1
  have k1 : rn 115 5 [some (.ref x), some (.int (iI r)), some (.int (iI 0)), some (.int (iI (lsS (pv I (x + 1)) 0))), some (.int (iI 1)), none] [] (mk g I1) = rn 115 5 [some (.ref x), some (.int (iI r)), some (.int (iI (ezS (pv I (x + 1)) (2 * r + 1)).1)), some (.int (iI (ezS (pv I (x + 1)) (2 * r + 1)).2)), some (.int (iI (r + 1))), o] [] (mk g J) := k1
  have h2 : I1 (x + 35) 2 = lsS (pv I (x + 1)) 0 := s1.2.2.1
  refine ⟨J, ?_, k2, k3⟩
  simp (maxSteps := 2000000) (disch := first | assumption | omega) only [aft_v, aft_n, aft_t, Nat.add_assoc, Nat.reduceAdd, if_true, if_false, not_true_eq_false, not_false_eq_true, Classical.not_not, Int.reduceAdd, Int.reduceSub, Int.reduceMul, Int.reduceNeg, Int.reduceLT, Int.reduceLE, Int.reduceEq, Int.add_zero, Int.zero_add, Int.sub_zero, c_115, w_115_0, w_115_1, w_115_3, w_115_4, q, e1, h2, show ¬ (1 : Int) = 0 by decide]
  rw [k1]
  refine (w_115_5 (by first | assumption | omega) (by first | assumption | omega) (by first | assumption | omega) (by first | assumption | omega)).trans ?_
  refine (if_pos (by omega)).trans ?_
  simp (maxSteps := 2000000) (disch := first | assumption | omega) only [aft_v, aft_n, aft_t, Nat.add_assoc, Nat.reduceAdd, if_true, if_false, not_true_eq_false, not_false_eq_true, Classical.not_not, Int.reduceAdd, Int.reduceSub, Int.reduceMul, Int.reduceNeg, Int.reduceLT, Int.reduceLE, Int.reduceEq, Int.add_zero, Int.zero_add, Int.sub_zero, w_115_16]
theorem s_heasiestBad {r : Int} (hrr : (-2147483648 ≤ r ∧ r < 2147483648)) (hr : ¬ (0 ≤ r ∧ r ≤ 24)) : cl 115 [.ref x, .int (iI r)] (mk g I) = some (.inr "java/lang/IllegalArgumentException", mk (gexc g) I) := by
  have q := s_isWithin (g := g) (I := I) (a := r) (b := 0) (c := 24) (by omega) (by omega) (by omega)
  rw [if_neg hr] at q
  simp (maxSteps := 2000000) (disch := first | assumption | omega) only [aft_v, aft_n, aft_t, Nat.add_assoc, Nat.reduceAdd, if_true, if_false, not_true_eq_false, not_false_eq_true, Classical.not_not, Int.reduceAdd, Int.reduceSub, Int.reduceMul, Int.reduceNeg, Int.reduceLT, Int.reduceLE, Int.reduceEq, Int.add_zero, Int.zero_add, Int.sub_zero, c_115, w_115_0, w_115_1, w_115_2, q]
theorem s_heasiestNo {r : Int} (hx : isHn g x) (hl : isPl g (x + 35)) (hB : gd I (x + 1)) (ho : plOk x I) (hr : 0 ≤ r ∧ r ≤ 24) (hz : lsS (pv I (x + 1)) 0 = -1) :
    ∃ I', cl 115 [.ref x, .int (iI r)] (mk g I) = some (.inr "java/util/NoSuchElementException", mk (gexc g) I') ∧ frP (x + 35) I I' ∧ Sol (pv I (x + 1)) (x + 35) I' := by
  obtain ⟨I1, e1, f1, s1⟩ := s_needFingering hx hl hB ho
  rw [if_pos hz] at e1
  refine ⟨I1, ?_, f1, s1⟩
  have q := s_isWithin (g := g) (I := I) (a := r) (b := 0) (c := 24) (by omega) (by omega) (by omega)
  rw [if_pos hr] at q
  obtain ⟨h5, hp⟩ := hx
  simp (maxSteps := 2000000) (disch := first | assumption | omega) only [aft_v, aft_n, aft_t, Nat.add_assoc, Nat.reduceAdd, if_true, if_false, not_true_eq_false, not_false_eq_true, Classical.not_not, Int.reduceAdd, Int.reduceSub, Int.reduceMul, Int.reduceNeg, Int.reduceLT, Int.reduceLE, Int.reduceEq, Int.add_zero, Int.zero_add, Int.sub_zero, c_115, w_115_0, w_115_1, w_115_3, q, e1, show ¬ (1 : Int) = 0 by decide]
/-- without a fingering no shift has one -/
theorem ezS_none {P : PT} (hW : Wf P) (hz : lsS P 0 = -1) {k : Int} (h : 0 ≤ k) : (ezS P k).2 = -1 := by
  have := itI_ind (F := fun n (s : Int × Int) => if ¬ cvS P (byS n) = -1 ∧ (s.2 = -1 ∨ cvS P (byS n) < s.2) then (byS n, cvS P (byS n)) else s) (a := (0, -1)) (n := k) (fun _ s => s.2 = -1) rfl (fun i s _ _ hs => by
    have hc : cvS P (byS i) = -1 := by
      unfold cvS
      rw [if_pos hz]
      split <;> rfl
    show (if ¬ cvS P (byS i) = -1 ∧ (s.2 = -1 ∨ cvS P (byS i) < s.2) then (byS i, cvS P (byS i)) else s).2 = -1
    rw [if_neg (fun z => z.1 hc)]; exact hs) h
  exact this
theorem s_hrestBehind (hx : isHn g x) (hl : isPl g (x + 35)) (hB : gd I (x + 1)) (hW : Wf (pv I (x + 1))) (ho : plOk x I) :
    ∃ I', cl 116 [.ref x] (mk g I) = some (.inl (some (.int (iI (rbS (pv I (x + 1)) (max 0 (pE (pv I (x + 1)) - 1))).1))), mk g I') ∧ frP (x + 35) I I' ∧ Sol (pv I (x + 1)) (x + 35) I' := by
  obtain ⟨I1, e1, f1, s1⟩ := s_hsolve hx hl hB ho
  obtain ⟨h5, hp⟩ := hx
  have hp' := hp
  have h1 : g.1 (x + 35) = sX1 (x + 35) := hl.1
  have hbd := gd_bd hB
  have pJ : pv I1 (x + 1) = pv I (x + 1) := frP_pv f1 (by omega)
  have gJ := gd_fr f1 (q := x + 1) (by omega) hB
  have h2 : I1 (x + 35) 2 = lsS (pv I (x + 1)) 0 := s1.2.2.1
  have i11 : I1 (x + 1) 1 = pE (pv I (x + 1)) := by rw [← pJ]; rfl
  obtain ⟨p_0, ⟨p_1, q_1, p_2⟩, ⟨p_3, q_3, p_4⟩, ⟨p_5, q_5, p_6⟩, ⟨p_7, q_7, p_8⟩, ⟨p_9, q_9, p_10⟩, ⟨p_11, q_11, p_12⟩, ⟨p_13, q_13, p_14⟩, ⟨p_15, q_15, p_16⟩⟩ := hp
  obtain ⟨P, hP⟩ : ∃ P, P = pv I (x + 1) := ⟨_, rfl⟩
  rw [← hP] at s1 pJ hbd h2 i11 hW ⊢
  have w1 := hbd.2.1
  refine ⟨I1, ?_, f1, s1⟩
  have key := loop_up (σ := Option Value) (head := fun e o => rn 116 2 [some (.ref x), some (.int (iI (rbS P e).1)), some (.int (iI (rbS P e).2)), some (.int (iI e)), o] [] (mk g I1)) (Inv := fun e _ => 0 ≤ e) (n := max 0 (pE P - 1)) (by
    intro e o elt e0
    have q := s_leastWithRest (g := g) (I := I1) (e := e) hp' hl gJ pJ.symm s1 (by omega)
    have rb := rbS_b hW e0 (by omega)
    have lb := lrS_b hW e0 (by omega)
    refine ⟨some (.int (iI (lrS P e))), ?_, by omega⟩
    show rn _ _ _ _ _ = rn _ _ _ _ _
    rw [rbS_s e0]
    refine (w_116_2 (by first | assumption | omega) (by first | assumption | omega) (by first | assumption | omega) (by first | assumption | omega) (by first | assumption | omega) (by first | assumption | omega)).trans ?_
    rw [i11]
    refine (if_neg (by omega)).trans ?_
    by_cases h1 : lrS P e = -1
    · rw [if_neg (fun z => z.1 h1)]
      rw [h1] at q ⊢
      simp (maxSteps := 2000000) (disch := first | assumption | omega) only [aft_v, aft_n, aft_t, Nat.add_assoc, Nat.reduceAdd, if_true, if_false, not_true_eq_false, not_false_eq_true, Classical.not_not, Int.reduceAdd, Int.reduceSub, Int.reduceMul, Int.reduceNeg, Int.reduceLT, Int.reduceLE, Int.reduceEq, Int.add_zero, Int.zero_add, Int.sub_zero, w_116_3, w_116_4, w_116_8, q]
    · by_cases h2 : (rbS P e).2 = -1
      · rw [if_pos ⟨h1, Or.inl h2⟩]
        simp (maxSteps := 2000000) (disch := first | assumption | omega) only [aft_v, aft_n, aft_t, Nat.add_assoc, Nat.reduceAdd, if_true, if_false, not_true_eq_false, not_false_eq_true, Classical.not_not, Int.reduceAdd, Int.reduceSub, Int.reduceMul, Int.reduceNeg, Int.reduceLT, Int.reduceLE, Int.reduceEq, Int.add_zero, Int.zero_add, Int.sub_zero, w_116_3, w_116_4, w_116_5, w_116_7, w_116_8, q, h1, h2]
      · by_cases h3 : lrS P e < (rbS P e).2
        · rw [if_pos ⟨h1, Or.inr h3⟩]
          simp (maxSteps := 2000000) (disch := first | assumption | omega) only [aft_v, aft_n, aft_t, Nat.add_assoc, Nat.reduceAdd, if_true, if_false, not_true_eq_false, not_false_eq_true, Classical.not_not, Int.reduceAdd, Int.reduceSub, Int.reduceMul, Int.reduceNeg, Int.reduceLT, Int.reduceLE, Int.reduceEq, Int.add_zero, Int.zero_add, Int.sub_zero, w_116_3, w_116_4, w_116_5, w_116_6, w_116_7, w_116_8, q, h1, h2, if_neg (show ¬ (rbS P e).2 ≤ lrS P e by omega)]
        · rw [if_neg (fun z => z.2.elim h2 h3)]
          simp (maxSteps := 2000000) (disch := first | assumption | omega) only [aft_v, aft_n, aft_t, Nat.add_assoc, Nat.reduceAdd, if_true, if_false, not_true_eq_false, not_false_eq_true, Classical.not_not, Int.reduceAdd, Int.reduceSub, Int.reduceMul, Int.reduceNeg, Int.reduceLT, Int.reduceLE, Int.reduceEq, Int.add_zero, Int.zero_add, Int.sub_zero, w_116_3, w_116_4, w_116_5, w_116_6, w_116_8, q, h1, h2, if_pos (show (rbS P e).2 ≤ lrS P e by omega)]) 0 none (by omega) (Int.le_refl _)
  obtain ⟨o, k1, -⟩ := key
  have k1 : rn 116 2 [some (.ref x), some (.int (iI (-1))), some (.int (iI (lsS P 0))), some (.int (iI 0)), none] [] (mk g I1) = rn 116 2 [some (.ref x), some (.int (iI (rbS P (max 0 (pE P - 1))).1)), some (.int (iI (rbS P (max 0 (pE P - 1))).2)), some (.int (iI (max 0 (pE P - 1)))), o] [] (mk g I1) := k1
  simp (maxSteps := 2000000) (disch := first | assumption | omega) only [aft_v, aft_n, aft_t, Nat.add_assoc, Nat.reduceAdd, if_true, if_false, not_true_eq_false, not_false_eq_true, Classical.not_not, Int.reduceAdd, Int.reduceSub, Int.reduceMul, Int.reduceNeg, Int.reduceLT, Int.reduceLE, Int.reduceEq, Int.add_zero, Int.zero_add, Int.sub_zero, c_116, w_116_0, w_116_1, e1, h2]
  rw [k1]
  refine (w_116_2 (by first | assumption | omega) (by first | assumption | omega) (by first | assumption | omega) (by first | assumption | omega) (by first | assumption | omega) (by first | assumption | omega)).trans ?_
  rw [i11]
  refine (if_pos (by omega)).trans ?_
  simp (maxSteps := 2000000) (disch := first | assumption | omega) only [aft_v, aft_n, aft_t, Nat.add_assoc, Nat.reduceAdd, if_true, if_false, not_true_eq_false, not_false_eq_true, Classical.not_not, Int.reduceAdd, Int.reduceSub, Int.reduceMul, Int.reduceNeg, Int.reduceLT, Int.reduceLE, Int.reduceEq, Int.add_zero, Int.zero_add, Int.sub_zero, w_116_9]
theorem s_forget {l : Nat} (h : g.1 l = sX1 l) : cl 29 [.ref l] (mk g I) = some (.inl none, mk g (upd2 I l 0 0)) := by
  simp (maxSteps := 2000000) (disch := first | assumption | omega) only [aft_v, aft_n, aft_t, Nat.add_assoc, Nat.reduceAdd, if_true, if_false, not_true_eq_false, not_false_eq_true, Classical.not_not, Int.reduceAdd, Int.reduceSub, Int.reduceMul, Int.reduceNeg, Int.reduceLT, Int.reduceLE, Int.reduceEq, Int.add_zero, Int.zero_add, Int.sub_zero, c_29, w_29_0]
theorem s_hotherHand (hx : isHn g x) (hd : isPc g (x + 18)) (hl2 : isPl g (x + 55)) (hB : gd I (x + 1)) (hW : Wf (pv I (x + 1))) (hD : pB I (x + 18)) :
    ∃ I', cl 113 [.ref x] (mk g I) = some (.inl (some (.int (iI (lsS (ohP (pv I (x + 1)) (1 - pR (pv I (x + 1)))) 0)))), mk g I') ∧ (∀ p, p < x + 18 ∨ (x + 34 < p ∧ p < x + 55) ∨ x + 73 < p → I' p = I p) ∧ pB I' (x + 18) := by
  obtain ⟨h5, hp⟩ := hx
  have c := s_pcopy (g := g) (I := I) (q := x + 18) (o := x + 1) hd hp (by omega) hB.1.1
  obtain ⟨K, hK⟩ : ∃ K, K = cpP I (x + 18) (x + 1) := ⟨_, rfl⟩
  rw [← hK] at c
  have kB : pB K (x + 18) := by rw [hK]; exact cp_pB hB.1 hD
  have kA : Agr (pv K (x + 18)) (pv I (x + 1)) := by rw [hK]; exact cp_Agr hB.1
  have ko : ∀ p, p < x + 18 ∨ x + 34 < p → K p = I p := fun p h => by rw [hK]; exact funext fun j => cp_o (by omega)
  have k1 : K (x + 1) = I (x + 1) := ko _ (by omega)
  have r0 := hB.1.1
  obtain ⟨r, hr⟩ : ∃ r, r = 1 - I (x + 1) 0 := ⟨_, rfl⟩
  have hr01 : r = 0 ∨ r = 1 := by omega
  obtain ⟨K2, hK2⟩ : ∃ K2, K2 = upd2 (upd2 K (x + 18) 0 r) (x + 55) 0 0 := ⟨_, rfl⟩
  have k2o : ∀ p, ¬ p = x + 18 → ¬ p = x + 55 → K2 p = K p := fun p h1 h2 => by rw [hK2]; exact funext fun j => by rw [upd2_p h2, upd2_p h1]
  have k2f : K2 (x + 55) 0 = 0 := by rw [hK2, upd2_at]
  have k2r : K2 (x + 18) 0 = r := by rw [hK2, upd2_p (by omega), upd2_at]
  have k2i : ∀ i, ¬ i = 0 → K2 (x + 18) i = K (x + 18) i := fun i hi => by rw [hK2, upd2_p (by omega), upd2_i hi]
  have p2 : pv K2 (x + 18) = ohP (pv K (x + 18)) r := by
    unfold pv ohP
    rw [k2r, k2i 1 (by decide), k2o (x + 18 + 2) (by omega) (by omega), k2o (x + 18 + 4) (by omega) (by omega), k2o (x + 18 + 6) (by omega) (by omega), k2o (x + 18 + 8) (by omega) (by omega), k2o (x + 18 + 10) (by omega) (by omega), k2o (x + 18 + 12) (by omega) (by omega), k2o (x + 18 + 14) (by omega) (by omega), k2o (x + 18 + 16) (by omega) (by omega)]
    rfl
  have k2B : pB K2 (x + 18) := by
    obtain ⟨b0, b1, b2, b4, b6, b8, b10, b12, b14, b16⟩ := kB
    unfold pB
    rw [k2r, k2i 1 (by decide), k2o (x + 18 + 2) (by omega) (by omega), k2o (x + 18 + 4) (by omega) (by omega), k2o (x + 18 + 6) (by omega) (by omega), k2o (x + 18 + 8) (by omega) (by omega), k2o (x + 18 + 10) (by omega) (by omega), k2o (x + 18 + 12) (by omega) (by omega), k2o (x + 18 + 14) (by omega) (by omega), k2o (x + 18 + 16) (by omega) (by omega)]
    exact ⟨hr01, b1, b2, b4, b6, b8, b10, b12, b14, b16⟩
  have kA2 : Agr (pv K2 (x + 18)) (ohP (pv I (x + 1)) r) := by rw [p2]; exact oh_A kA
  have hWo : Wf (ohP (pv I (x + 1)) r) := oh_Wf hW hr01
  have hW2 := hWo.agr kA2.symm
  have g2 := gd_of k2B hW2
  obtain ⟨J, j1, j2, j3⟩ := s_solve0 (g := g) (I := K2) (q := x + 18) (l := x + 55) hd hl2 g2 rfl (Or.inl (by omega)) k2f
  have hls : J (x + 55) 2 = lsS (ohP (pv I (x + 1)) (1 - pR (pv I (x + 1)))) 0 := by
    rw [j3.2.2.1, ls_A kA2 hW2, hr]; rfl
  have hf := s_forget (g := g) (I := upd2 K (x + 18) 0 r) (l := x + 55) hl2.1
  rw [← hK2] at hf
  have h3 : g.1 (x + 55) = sX1 (x + 55) := hl2.1
  have h4 : g.1 (x + 18) = sX0 (x + 18) := hd.1
  have kr : K (x + 1) 0 = I (x + 1) 0 := by rw [k1]
  refine ⟨J, ?_, fun p hp => ?_, ?_⟩
  · obtain ⟨p_0, ⟨p_1, q_1, p_2⟩, ⟨p_3, q_3, p_4⟩, ⟨p_5, q_5, p_6⟩, ⟨p_7, q_7, p_8⟩, ⟨p_9, q_9, p_10⟩, ⟨p_11, q_11, p_12⟩, ⟨p_13, q_13, p_14⟩, ⟨p_15, q_15, p_16⟩⟩ := hp
    rcases r0 with r0 | r0
    · have : r = 1 := by omega
      rw [this] at hf
      simp (maxSteps := 2000000) (disch := first | assumption | omega) only [aft_v, aft_n, aft_t, Nat.add_assoc, Nat.reduceAdd, if_true, if_false, not_true_eq_false, not_false_eq_true, Classical.not_not, Int.reduceAdd, Int.reduceSub, Int.reduceMul, Int.reduceNeg, Int.reduceLT, Int.reduceLE, Int.reduceEq, Int.add_zero, Int.zero_add, Int.sub_zero, c_113, w_113_0, w_113_1, w_113_2, w_113_4, w_113_5, w_113_6, c, kr, r0, hf, j1, hls]
    · have : r = 0 := by omega
      rw [this] at hf
      simp (maxSteps := 2000000) (disch := first | assumption | omega) only [aft_v, aft_n, aft_t, Nat.add_assoc, Nat.reduceAdd, if_true, if_false, not_true_eq_false, not_false_eq_true, Classical.not_not, Int.reduceAdd, Int.reduceSub, Int.reduceMul, Int.reduceNeg, Int.reduceLT, Int.reduceLE, Int.reduceEq, Int.add_zero, Int.zero_add, Int.sub_zero, c_113, w_113_0, w_113_1, w_113_3, w_113_4, w_113_5, w_113_6, c, kr, r0, hf, j1, hls, show ¬ (1 : Int) = 0 by decide]
  · rw [j2 p (by omega), k2o p (by omega) (by omega), ko p (by omega)]
  · exact frPB j2 (Or.inl (by omega)) k2B
end HWD
