/-! Rounds of further questions. -/
section RQ4
variable {g : Gm} {I : Mm} {m : Nat}
theorem s_meventBad {e w : Int} (hm : isM g m) (hn : 0 ≤ I (m + 1) 0 ∧ I (m + 1) 0 ≤ 40) (hr : (-2147483648 ≤ e ∧ e < 2147483648)) (h : ¬ (0 ≤ e ∧ e < I (m + 1) 0)) : cl 220 [.ref m, .int (iI e), .int (iI w)] (mk g I) = some (.inl (some (.int (iI 0))), mk g (upd2 I m 7 1)) := by
  have q := s_isEvent (g := g) (I := I) (e := e) hm hr hn
  rw [if_neg h] at q
  have u7 : upd2 I m 7 1 m 7 = 1 := upd2_at
  obtain ⟨t_0, ⟨t_1, d_1, n_1⟩, ⟨t_2, d_2, n_2⟩, ⟨t_3, d_3, n_3⟩, ⟨t_4, d_4, n_4⟩, ⟨t_5, d_5, n_5⟩, ⟨t_6, n_6⟩, ⟨t_7, d_7, n_7⟩, ⟨t_8, d_8, n_8⟩, ⟨t_9, d_9, n_9⟩, ⟨t_10, d_10, n_10⟩, ⟨t_11, d_11, n_11⟩, ⟨t_12, d_12, n_12⟩, ⟨t_13, d_13, n_13⟩, ⟨t_14, d_14, n_14⟩, ⟨t_15, n_15⟩, ⟨t_16, n_16⟩, ⟨t_17, d_17, n_17⟩, ⟨t_18, d_18, n_18⟩⟩ := hm
  simp (maxSteps := 2000000) (disch := first | assumption | omega) only [aft_v, aft_n, aft_t, Nat.add_assoc, Nat.reduceAdd, if_true, if_false, not_true_eq_false, not_false_eq_true, Classical.not_not, Int.reduceAdd, Int.reduceSub, Int.reduceMul, Int.reduceNeg, Int.reduceLT, Int.reduceLE, Int.reduceEq, Int.add_zero, Int.zero_add, Int.sub_zero, c_220, w_220_0, w_220_1, w_220_2, w_220_7, w_220_8, q, u7, if_neg (show ¬ (1 : Int) ≤ 0 by decide)]
theorem s_meventBadW {e w : Int} (hm : isM g m) (hn : 0 ≤ I (m + 1) 0 ∧ I (m + 1) 0 ≤ 40) (he : 0 ≤ e ∧ e < I (m + 1) 0) (hrw : (-2147483648 ≤ w ∧ w < 2147483648)) (hw : ¬ (0 ≤ w ∧ w ≤ 2)) : cl 220 [.ref m, .int (iI e), .int (iI w)] (mk g I) = some (.inl (some (.int (iI 0))), mk g (upd2 I m 7 2)) := by
  have q := s_isEvent (g := g) (I := I) (e := e) hm (by omega) hn
  rw [if_pos he] at q
  have qw := s_isIn (g := g) (I := I) (a := w) (b := 0) (c := 2) (by omega) (by omega) (by omega)
  rw [if_neg hw] at qw
  have u7 : upd2 I m 7 2 m 7 = 2 := upd2_at
  obtain ⟨t_0, ⟨t_1, d_1, n_1⟩, ⟨t_2, d_2, n_2⟩, ⟨t_3, d_3, n_3⟩, ⟨t_4, d_4, n_4⟩, ⟨t_5, d_5, n_5⟩, ⟨t_6, n_6⟩, ⟨t_7, d_7, n_7⟩, ⟨t_8, d_8, n_8⟩, ⟨t_9, d_9, n_9⟩, ⟨t_10, d_10, n_10⟩, ⟨t_11, d_11, n_11⟩, ⟨t_12, d_12, n_12⟩, ⟨t_13, d_13, n_13⟩, ⟨t_14, d_14, n_14⟩, ⟨t_15, n_15⟩, ⟨t_16, n_16⟩, ⟨t_17, d_17, n_17⟩, ⟨t_18, d_18, n_18⟩⟩ := hm
  simp (maxSteps := 2000000) (disch := first | assumption | omega) only [aft_v, aft_n, aft_t, Nat.add_assoc, Nat.reduceAdd, if_true, if_false, not_true_eq_false, not_false_eq_true, Classical.not_not, Int.reduceAdd, Int.reduceSub, Int.reduceMul, Int.reduceNeg, Int.reduceLT, Int.reduceLE, Int.reduceEq, Int.add_zero, Int.zero_add, Int.sub_zero, c_220, w_220_0, w_220_1, w_220_3, w_220_4, w_220_6, w_220_7, w_220_8, q, qw, u7, if_neg (show ¬ (2 : Int) ≤ 0 by decide), show ¬ (1 : Int) = 0 by decide]
end RQ4
section RQ5
variable {s x N : Nat} {S : Int → Int} {g : Gm} {I J : Mm} {i : Int} {o6 o7 o8 : Option Value}
theorem plOk_S (hf : frP (x + 35) I J) (hS : Sol (pv I (x + 1)) (x + 35) J) : plOk x J := by
  refine Or.inr ?_
  rw [pv_c (I := I) (J := J) (fun p a b => hf p (by omega))]
  exact hS
theorem wy_r {P : PT} (hbd : bdP P) (hn : 0 ≤ pE P) {ch : Int} : 0 ≤ wyS P ch ∧ wyS P ch ≤ 1000000000000000 := by
  unfold wyS
  by_cases h : pE P = 0
  · rw [if_pos h]; omega
  · rw [if_neg h]
    have : 0 ≤ sumI (fun c => if ch = 0 ∨ ahS P 0 (pE P - 1) c = lsS P 0 then wyN P ch (pE P - 1).toNat c else 0) (cntS P (pE P - 1)) := sumI_nn (fun i i0 i1 => by
      split
      · exact (wy_b hbd _ _ (by omega)).1
      · omega)
    omega
theorem plOk_o {K : Mm} (h : ∀ p, (x + 1 ≤ p ∧ p ≤ x + 17) ∨ (x + 35 ≤ p ∧ p ≤ x + 54) → K p = I p) (hp : plOk x I) : plOk x K := by
  have e : pv K (x + 1) = pv I (x + 1) := pv_c (fun p a b => h p (by omega))
  rcases hp with hp | hp
  · exact Or.inl (by rw [h (x + 35) (by omega)]; exact hp)
  · exact Or.inr (by rw [e]; exact hp.mono (fun p a b => h p (by omega)) (h _ (by omega)))
theorem lvU_c {K : Mm} (h : ∀ p, p = x ∨ (x + 90 ≤ p ∧ p ≤ x + 92) ∨ x + 107 ≤ p → K p = I p) (h6 : K (x + 86) 6 = I (x + 86) 6) (hS : lvS g I x) (hU : lvU g I x) : lvU g K x := by
  obtain ⟨u1, u2, u3⟩ := hU
  have s1 := hS.1
  have jx := h x (by omega)
  have hA : ∀ A, x + 107 ≤ A → ∀ p, A ≤ p → p ≤ A + 16 → K p = I p := fun A a p b c => h p (by omega)
  refine ⟨by rw [jx, h6]; exact u1, ?_, ?_⟩
  · intro j j0 j1
    rw [jx] at j1 ⊢
    obtain ⟨A, a1, a2, a3⟩ := u2 j j0 j1
    have a4 := (s1 _ _ A (Or.inl rfl) a1).2.2.1
    refine ⟨A, a1, ?_, ?_⟩
    · rw [pv_c (hA A a4), h (x + 90) (by omega)]; exact a2
    · rw [pv_c (hA A a4)]; exact a3
  · intro k k0 k1'
    rcases u3 k k0 k1' with ⟨a1, a2⟩ | ⟨A, a1, a2, a3, a5⟩
    · exact Or.inl ⟨a1, by rw [h (x + 92) (by omega)]; exact a2⟩
    · have a4 := (s1 _ _ A (Or.inr rfl) a1).2.2.1
      refine Or.inr ⟨A, a1, by rw [h (x + 92) (by omega)]; exact a2, ?_, ?_⟩
      · rw [pv_c (hA A a4), h (x + 91) (by omega)]; exact a3
      · rw [pv_c (hA A a4)]; exact a5
theorem rd_event (hx : 64 ≤ x) (hs : s < x) (hi : 0 ≤ i ∧ i + 6 ≤ N) (hN : (N : Int) < 2147483648) (hS : ∀ j, (-2147483648 ≤ S j ∧ S j < 2147483648)) (h : lawI s x S N g I) : rndL s x N S 31 i o6 o7 o8 g I := by
  have h' := h
  obtain ⟨iH, iM, i105, i106, ⟨iS, iN, iI'⟩, ⟨c1, c2, c3, c4, c5, c6⟩, c7, ⟨t1, t2, t3, t4, L0, t5, t6, t7, t8, t9⟩, _, _⟩ := h
  have h0 := iH.1
  have m0 := iM.1
  have hii : 0 ≤ i ∧ i + 6 ≤ gn g s ∧ (gn g s : Int) < 2147483648 := by rw [iN]; omega
  have hWm : Wf (mv I (x + 86)) := c4.agr c5
  have eE : I (x + 1) 1 = I (x + 86 + 1) 0 := c5.2.1
  have eb : 0 ≤ I (x + 86 + 1) 0 ∧ I (x + 86 + 1) 0 ≤ 40 := hWm.2.1
  obtain ⟨a, ha⟩ : ∃ a, a = I s (i + 1) := ⟨_, rfl⟩
  have ra : (-2147483648 ≤ a ∧ a < 2147483648) := by rw [ha, iI']; exact hS _
  obtain ⟨b, hb⟩ : ∃ b, b = I s (i + 2) := ⟨_, rfl⟩
  have rb : (-2147483648 ≤ b ∧ b < 2147483648) := by rw [hb, iI']; exact hS _
  by_cases hq : 0 ≤ a ∧ a < I (x + 1) 1
  · have hqm : 0 ≤ a ∧ a < I (x + 86 + 1) 0 := by omega
    by_cases hw : 0 ≤ b ∧ b ≤ 2
    · obtain ⟨J, j1, j2, j3⟩ : ∃ J, cl 97 [.ref x, .int (iI a), .int (iI b)] (mk g I) = some (.inl (some (.int (iI (if b = 0 then pSz (pv I (x + 1)) a else if b = 1 then pRe (pv I (x + 1)) a else cntS (pv I (x + 1)) a)))), mk g J) ∧ frP (x + 35) I J ∧ plOk x J := by
        by_cases h2 : b = 2
        · obtain ⟨J, j1, j2, j3⟩ := s_hevent2 iH.hn iH.2.2.2.1 c3 c7 hq
          refine ⟨J, ?_, j2, plOk_S j2 j3⟩
          rw [h2, if_neg (show ¬ (2 : Int) = 0 by decide), if_neg (show ¬ (2 : Int) = 1 by decide)]; exact j1
        · refine ⟨I, ?_, fun p _ => rfl, c7⟩
          rw [s_hevent01 iH.hn c3 hq (show b = 0 ∨ b = 1 by omega)]
          by_cases h3 : b = 0
          · rw [if_pos h3, if_pos h3]
          · rw [if_neg h3, if_neg h3, if_pos (show b = 1 by omega)]
      have jm : mv J (x + 86) = mv I (x + 86) := by unfold mv; rw [j2 (x + 86 + 1) (by omega)]
      obtain ⟨v, hv⟩ : ∃ v, v = (if b = 0 then pSz (pv I (x + 1)) a else if b = 1 then pRe (pv I (x + 1)) a else cntS (pv I (x + 1)) a) := ⟨_, rfl⟩
      have ev : (if b = 0 then pSz (mv I (x + 86)) a else if b = 1 then pRe (mv I (x + 86)) a else cntS (mv I (x + 86)) a) = v := by
        have z := c5.2.2.1 a hq.1 hq.2
        rw [hv, z.1, z.2.1, cnt_A c5 c4 hq.1 hq.2]
      rw [← hv] at j1
      have l1 := lw_event (o := x + 105) h0 i105.1 i105.2 j1
      obtain ⟨K, k1, k2⟩ := s_eventM (P := mv I (x + 86)) (g := gL g (upd2 g.2.1 (x + 105) 0 (iI v).toInt)) (I := J) (e := a) (w := b) (isM_e (g := g) rfl iM) hWm jm.symm (by rw [j2 (x + 86 + 1) (by omega)]; exact hqm) hw
      rw [ev] at k1
      have k2' : frM (x + 86) (upd2 J (x + 86) 7 0) K := fun p z1 z2 z3 z4 _ => k2 p z1 z2 z3 z4
      have t0 : K (x + 86) 7 = 0 := by rw [k2 _ (by omega) (by omega) (by omega) (by omega), upd2_at]
      rw [ha, hb] at l1 k1
      obtain ⟨p6, p7, p8, e⟩ := lt_event (g := g) (g1 := gL g (upd2 g.2.1 (x + 105) 0 (iI v).toInt)) (g2 := gL g (upd2 g.2.1 (x + 105) 0 (iI v).toInt)) (I := I) (od := x + 106) (o6 := o6) (o7 := o7) (o8 := o8) iS hii m0 i105 rfl rfl (j2 s (by omega)) l1 k1 (by decide) t0 (fun _ => upd2_at)
      refine ⟨p6, p7, p8, _, K, e, lawI_keep (g' := gL g _) rfl rfl rfl ((kp_P hx hs j2).trans (kp_M hx hs k2')) (plOk_c (I := J) (fun p z1 z2 => ?_) j3) hx h', budg_L⟩
      rw [k2 p (by omega) (by omega) (by omega) (by omega)]
      exact funext fun j => upd2_p (by omega)
    · have q1 := s_heventBadW (g := g) (I := I) iH.hn c3 hq rb hw
      have l1 := lw_event_2 (o := x + 105) h0 q1
      have q2 := s_meventBadW (g := gexc g) (I := I) (m := x + 86) (isM_e (g := g) rfl iM) eb hqm rb hw
      rw [ha, hb] at l1 q2
      obtain ⟨p6, p7, p8, e⟩ := lt_event (g := g) (g1 := gexc g) (g2 := gexc g) (v := 2) (od := x + 106) (o6 := o6) (o7 := o7) (o8 := o8) iS hii m0 i105 rfl rfl rfl l1 q2 (by decide) upd2_at (fun z => absurd z (by decide))
      exact ⟨p6, p7, p8, gexc g, _, e, lawI_7 rfl rfl rfl hx hs h', budg_e⟩
  · have q1 := s_heventBad (g := g) (I := I) (w := b) iH.hn c3 ra hq
    have l1 := lw_event_1 (o := x + 105) h0 q1
    have q2 := s_meventBad (w := b) (g := gexc g) (I := I) (m := x + 86) (isM_e (g := g) rfl iM) eb ra (by omega)
    rw [ha, hb] at l1 q2
    obtain ⟨p6, p7, p8, e⟩ := lt_event (g := g) (g1 := gexc g) (g2 := gexc g) (v := 1) (od := x + 106) (o6 := o6) (o7 := o7) (o8 := o8) iS hii m0 i105 rfl rfl rfl l1 q2 (by decide) upd2_at (fun z => absurd z (by decide))
    exact ⟨p6, p7, p8, gexc g, _, e, lawI_7 rfl rfl rfl hx hs h', budg_e⟩
theorem rd_note (hx : 64 ≤ x) (hs : s < x) (hi : 0 ≤ i ∧ i + 6 ≤ N) (hN : (N : Int) < 2147483648) (hS : ∀ j, (-2147483648 ≤ S j ∧ S j < 2147483648)) (h : lawI s x S N g I) : rndL s x N S 40 i o6 o7 o8 g I := by
  have h' := h
  obtain ⟨iH, iM, i105, i106, ⟨iS, iN, iI'⟩, ⟨c1, c2, c3, c4, c5, c6⟩, c7, ⟨t1, t2, t3, t4, L0, t5, t6, t7, t8, t9⟩, _, _⟩ := h
  have h0 := iH.1
  have m0 := iM.1
  have hii : 0 ≤ i ∧ i + 6 ≤ gn g s ∧ (gn g s : Int) < 2147483648 := by rw [iN]; omega
  have hWm : Wf (mv I (x + 86)) := c4.agr c5
  have eE : I (x + 1) 1 = I (x + 86 + 1) 0 := c5.2.1
  have eb : 0 ≤ I (x + 86 + 1) 0 ∧ I (x + 86 + 1) 0 ≤ 40 := hWm.2.1
  obtain ⟨a, ha⟩ : ∃ a, a = I s (i + 1) := ⟨_, rfl⟩
  have ra : (-2147483648 ≤ a ∧ a < 2147483648) := by rw [ha, iI']; exact hS _
  obtain ⟨b, hb⟩ : ∃ b, b = I s (i + 2) := ⟨_, rfl⟩
  have rb : (-2147483648 ≤ b ∧ b < 2147483648) := by rw [hb, iI']; exact hS _
  obtain ⟨c, hc⟩ : ∃ c, c = I s (i + 3) := ⟨_, rfl⟩
  have rc : (-2147483648 ≤ c ∧ c < 2147483648) := by rw [hc, iI']; exact hS _
  by_cases hq : (0 ≤ a ∧ a < I (x + 1) 1) ∧ 0 ≤ b ∧ b < I (x + 1 + 2) a
  · have hqm := (nt_iff c5).mp hq
    by_cases hw : 0 ≤ c ∧ c ≤ 1
    · have q1 := s_hnote (g := g) (I := I) iH.hn c3 hq.1 hq.2 (show c = 0 ∨ c = 1 by omega)
      obtain ⟨v, hv⟩ : ∃ v, v = (if c = 0 then pKy (pv I (x + 1)) a b else pSe (pv I (x + 1)) a b) := ⟨_, rfl⟩
      have ev : (if c = 0 then pKy (mv I (x + 86)) a b else pSe (mv I (x + 86)) a b) = v := by
        have z := (c5.2.2.1 a hq.1.1 hq.1.2).2.2 b hq.2.1 hq.2.2
        rw [hv, z.1, z.2]
      rw [← hv] at q1
      have l1 := lw_note (o := x + 105) h0 i105.1 i105.2 q1
      have q2 := s_note (g := gL g (upd2 g.2.1 (x + 105) 0 (iI v).toInt)) (I := I) (m := x + 86) (isM_e (g := g) rfl iM) hWm hqm.1 hqm.2 (show c = 0 ∨ c = 1 by omega)
      rw [ev] at q2
      rw [ha, hb, hc] at l1 q2
      obtain ⟨p6, p7, p8, e⟩ := lt_note (g := g) (g1 := gL g (upd2 g.2.1 (x + 105) 0 (iI v).toInt)) (g2 := gL g (upd2 g.2.1 (x + 105) 0 (iI v).toInt)) (od := x + 106) (o6 := o6) (o7 := o7) (o8 := o8) iS hii m0 i105 rfl rfl rfl l1 q2 (by decide) upd2_at (fun _ => upd2_at)
      exact ⟨p6, p7, p8, _, _, e, lawI_7 (g' := gL g _) rfl rfl rfl hx hs h', budg_L⟩
    · have q1 := s_hnoteBadW (g := g) (I := I) iH.hn c3 hq.1 hq.2 rc hw
      have l1 := lw_note_2 (o := x + 105) h0 q1
      obtain ⟨f, _, _, hf, q2⟩ := s_noteBad (w := c) (g := gexc g) (I := I) (m := x + 86) (isM_e (g := g) rfl iM) hWm ra rb rc (Or.inr hw)
      rw [hf, if_pos hqm] at q2
      rw [ha, hb, hc] at l1 q2
      obtain ⟨p6, p7, p8, e⟩ := lt_note (g := g) (g1 := gexc g) (g2 := gexc g) (v := 2) (od := x + 106) (o6 := o6) (o7 := o7) (o8 := o8) iS hii m0 i105 rfl rfl rfl l1 q2 (by decide) upd2_at (fun z => absurd z (by decide))
      exact ⟨p6, p7, p8, gexc g, _, e, lawI_7 rfl rfl rfl hx hs h', budg_e⟩
  · have hqm : ¬ ((0 ≤ a ∧ a < I (x + 86 + 1) 0) ∧ 0 ≤ b ∧ b < I (x + 86 + 1) (42 + 8 * a)) := fun z => hq ((nt_iff c5).mpr z)
    have q1 := s_hnoteBad (g := g) (I := I) (w := c) iH.hn c3 ra rb hq
    have l1 := lw_note_1 (o := x + 105) h0 q1
    obtain ⟨f, _, _, hf, q2⟩ := s_noteBad (w := c) (g := gexc g) (I := I) (m := x + 86) (isM_e (g := g) rfl iM) hWm ra rb rc (Or.inl hqm)
    rw [hf, if_neg hqm] at q2
    rw [ha, hb, hc] at l1 q2
    obtain ⟨p6, p7, p8, e⟩ := lt_note (g := g) (g1 := gexc g) (g2 := gexc g) (v := 1) (od := x + 106) (o6 := o6) (o7 := o7) (o8 := o8) iS hii m0 i105 rfl rfl rfl l1 q2 (by decide) upd2_at (fun z => absurd z (by decide))
    exact ⟨p6, p7, p8, gexc g, _, e, lawI_7 rfl rfl rfl hx hs h', budg_e⟩
theorem rd_many (hx : 64 ≤ x) (hs : s < x) (hi : 0 ≤ i ∧ i + 6 ≤ N) (hN : (N : Int) < 2147483648) (hS : ∀ j, (-2147483648 ≤ S j ∧ S j < 2147483648)) (h : lawI s x S N g I) : rndL s x N S 98 i o6 o7 o8 g I := by
  have h' := h
  obtain ⟨iH, iM, i105, i106, ⟨iS, iN, iI'⟩, ⟨c1, c2, c3, c4, c5, c6⟩, c7, ⟨t1, t2, t3, t4, L0, t5, t6, t7, t8, t9⟩, _, _⟩ := h
  have h0 := iH.1
  have m0 := iM.1
  have hii : 0 ≤ i ∧ i + 6 ≤ gn g s ∧ (gn g s : Int) < 2147483648 := by rw [iN]; omega
  have hWm : Wf (mv I (x + 86)) := c4.agr c5
  have eE : I (x + 1) 1 = I (x + 86 + 1) 0 := c5.2.1
  have eb : 0 ≤ I (x + 86 + 1) 0 ∧ I (x + 86 + 1) 0 ≤ 40 := hWm.2.1
  obtain ⟨a, ha⟩ : ∃ a, a = I s (i + 1) := ⟨_, rfl⟩
  have ra : (-2147483648 ≤ a ∧ a < 2147483648) := by rw [ha, iI']; exact hS _
  obtain ⟨J, L1, j1, j2, j3, j4⟩ := s_hmany (ch := bzI a) iH.hn iH.2.2.2.1 c3 c7 bz_01
  have jm : mv J (x + 86) = mv I (x + 86) := by unfold mv; rw [j2 (x + 86 + 1) (by omega)]
  obtain ⟨K, L, k1, k2, k3⟩ := s_manyM (g := g) (I := J) (ch := bzI a) (L := L1) iM hWm jm.symm bz_01
  rw [many_A c5 c4 bz_01] at j1
  have wb := wy_r (P := pv I (x + 1)) (ch := bzI a) (Wf_bd c4) c4.2.1.1
  rw [many_A c5 c4 bz_01] at wb
  rw [ha] at j1 k1 wb
  have e := lt_many (od := x + 106) (o := x + 105) (o6 := o6) (o7 := o7) (o8 := o8) (g := g) (g1 := gL g L1) iS hii (fun j => by rw [iI']; exact hS j) h0 m0 rfl (j2 s (by omega)) (by omega) j1 k1
  exact ⟨o6, o7, o8, gL g L, K, e, lawI_keep (g' := gL g L) rfl rfl rfl ((kp_P hx hs j2).trans (kp_Q hx hs k2)) (plOk_Q j2 j3 k2) hx h', budg_L⟩
theorem rd_mean (hx : 64 ≤ x) (hs : s < x) (hi : 0 ≤ i ∧ i + 6 ≤ N) (hN : (N : Int) < 2147483648) (hS : ∀ j, (-2147483648 ≤ S j ∧ S j < 2147483648)) (h : lawI s x S N g I) : rndL s x N S 139 i o6 o7 o8 g I := by
  have h' := h
  obtain ⟨iH, iM, i105, i106, ⟨iS, iN, iI'⟩, ⟨c1, c2, c3, c4, c5, c6⟩, c7, ⟨t1, t2, t3, t4, L0, t5, t6, t7, t8, t9⟩, _, _⟩ := h
  have h0 := iH.1
  have m0 := iM.1
  have hii : 0 ≤ i ∧ i + 6 ≤ gn g s ∧ (gn g s : Int) < 2147483648 := by rw [iN]; omega
  have hWm : Wf (mv I (x + 86)) := c4.agr c5
  have eE : I (x + 1) 1 = I (x + 86 + 1) 0 := c5.2.1
  have eb : 0 ≤ I (x + 86 + 1) 0 ∧ I (x + 86 + 1) 0 ≤ 40 := hWm.2.1
  by_cases hz : lsS (pv I (x + 1)) 0 = -1
  · obtain ⟨J, j1, j2, j3⟩ := s_hmeanNo iH.hn iH.2.2.2.1 c3 c7 hz
    have jm : mv J (x + 86) = mv I (x + 86) := by unfold mv; rw [j2 (x + 86 + 1) (by omega)]
    obtain ⟨K, L, k1, k2, k3⟩ := s_meanNo (g := gexc g) (I := J) (L := g.2.1) (isM_e (g := g) rfl iM) hWm jm.symm (by rw [← ls_A c5 c4]; exact hz)
    have l1 := lw_mean_1 (o := x + 106) h0 j1
    obtain ⟨p6, p7, p8, e⟩ := lt_mean (g := g) (g1 := gexc g) (g2 := gL (gexc g) L) (v := 1) (I := I) (s := s) (i := i) (o := x + 105) (o6 := o6) (o7 := o7) (o8 := o8) m0 i106 rfl rfl l1 k1 (by decide) k2.2.2 (fun z => absurd z (by decide))
    exact ⟨p6, p7, p8, gL (gexc g) L, K, e, lawI_keep (g' := gL (gexc g) L) rfl rfl rfl ((kp_P hx hs j2).trans (kp_Q hx hs k2)) (plOk_Q j2 j3 k2) hx h', by show g.2.2.2.2.2.1 + 1 ≤ _; omega, by show g.2.2.2.2.2.2 + 6 ≤ _; omega⟩
  · obtain ⟨J, j1, j2, j3⟩ := s_hmean iH.hn iH.2.2.2.1 c3 c7 hz
    have jm : mv J (x + 86) = mv I (x + 86) := by unfold mv; rw [j2 (x + 86 + 1) (by omega)]
    rw [mn_A c5 c4] at j1
    obtain ⟨v, hv⟩ : ∃ v, v = mnD (mv I (x + 86)) := ⟨_, rfl⟩
    have nn := dc_self (mn_nn (P := mv I (x + 86)) (Wf_bd hWm))
    rw [← hv] at j1 nn
    have l1 := lw_mean (o := x + 106) h0 i106.1 i106.2 j1
    obtain ⟨g1, hg1⟩ : ∃ g1, g1 = gD g (updD g.2.2.1 (x + 106) 0 v) := ⟨_, rfl⟩
    have e1 : g1.1 = g.1 := by rw [hg1]; rfl
    have e2 : gL g1 g1.2.1 = g1 := rfl
    rw [← hg1, ← e2] at l1
    obtain ⟨K, L, k1, k2, k3⟩ := s_meanM (g := g1) (I := J) (L := g1.2.1) (isM_e e1 iM) hWm jm.symm (by rw [← ls_A c5 c4]; exact hz)
    rw [← hv] at k1
    obtain ⟨p6, p7, p8, e⟩ := lt_mean (g := g) (g1 := gL g1 g1.2.1) (g2 := gL g1 L) (v := 0) (I := I) (s := s) (i := i) (o := x + 105) (o6 := o6) (o7 := o7) (o8 := o8) m0 i106 e1 e1 l1 k1 (by decide) k2.2.2 (fun _ => ⟨by show g1.2.2.1 (x + 106) 0 = v; rw [hg1]; exact if_pos ⟨rfl, rfl⟩, nn⟩)
    exact ⟨p6, p7, p8, gL g1 L, K, e, lawI_keep (g' := gL g1 L) e1 (by rw [hg1]; rfl) (by rw [hg1]; rfl) ((kp_P hx hs j2).trans (kp_Q hx hs k2)) (plOk_Q j2 j3 k2) hx h', by rw [hg1]; exact ⟨Nat.le_add_right _ _, Nat.le_add_right _ _⟩⟩
theorem rd_transposed (hx : 64 ≤ x) (hs : s < x) (hi : 0 ≤ i ∧ i + 6 ≤ N) (hN : (N : Int) < 2147483648) (hS : ∀ j, (-2147483648 ≤ S j ∧ S j < 2147483648)) (h : lawI s x S N g I) : rndL s x N S 162 i o6 o7 o8 g I := by
  have h' := h
  obtain ⟨iH, iM, i105, i106, ⟨iS, iN, iI'⟩, ⟨c1, c2, c3, c4, c5, c6⟩, c7, ⟨t1, t2, t3, t4, L0, t5, t6, t7, t8, t9⟩, _, _⟩ := h
  have h0 := iH.1
  have m0 := iM.1
  have hii : 0 ≤ i ∧ i + 6 ≤ gn g s ∧ (gn g s : Int) < 2147483648 := by rw [iN]; omega
  have hWm : Wf (mv I (x + 86)) := c4.agr c5
  have eE : I (x + 1) 1 = I (x + 86 + 1) 0 := c5.2.1
  have eb : 0 ≤ I (x + 86 + 1) 0 ∧ I (x + 86 + 1) 0 ≤ 40 := hWm.2.1
  obtain ⟨a, ha⟩ : ∃ a, a = I s (i + 1) := ⟨_, rfl⟩
  have ra : (-2147483648 ≤ a ∧ a < 2147483648) := by rw [ha, iI']; exact hS _
  have ft : fitS (pv I (x + 1)) a ↔ fitS (mv I (x + 86)) a := fit_A c5 c4
  by_cases hq : (-87 ≤ a ∧ a ≤ 87) ∧ fitS (pv I (x + 1)) a
  · obtain ⟨J, j1, j2, j3⟩ := s_htransposed iH.hn iH.2.2.2.1 c3 c7 hq.1 hq.2
    have jm : mv J (x + 86) = mv I (x + 86) := by unfold mv; rw [j2 (x + 86 + 1) (by omega)]
    obtain ⟨v, hv⟩ : ∃ v, v = (if lsS (pv I (x + 1)) 0 = -1 then -1 else lsS (pv I (x + 1)) (a % 12)) := ⟨_, rfl⟩
    rw [← hv] at j1
    have l1 := lw_transposed (o := x + 105) h0 i105.1 i105.2 j1
    obtain ⟨K, L, k1, k2, k3⟩ := s_transposedM (g := g) (I := J) (d := a) (L := upd2 g.2.1 (x + 105) 0 (iI v).toInt) iM hWm jm.symm hq.1 (ft.mp hq.2)
    rw [← ls_A c5 c4, ← ls_A c5 c4, ← hv] at k1
    have kl : L (x + 105) 0 = (iI v).toInt := by rw [k3 (x + 105) (by omega) (by omega), upd2_at]
    rw [ha] at l1 k1
    obtain ⟨p6, p7, p8, e⟩ := lt_transposed (g := g) (g1 := gL g (upd2 g.2.1 (x + 105) 0 (iI v).toInt)) (g2 := gL g L) (I := I) (od := x + 106) (o6 := o6) (o7 := o7) (o8 := o8) iS hii m0 i105 rfl rfl (j2 s (by omega)) l1 k1 (by decide) k2.2.2 (fun _ => kl)
    exact ⟨p6, p7, p8, gL g L, K, e, lawI_keep (g' := gL g L) rfl rfl rfl ((kp_P hx hs j2).trans (kp_Q hx hs k2)) (plOk_Q j2 j3 k2) hx h', budg_L⟩
  · have q1 := s_htransposedBad (g := g) (I := I) iH.hn c3 ra hq
    have l1 := lw_transposed_1 (o := x + 105) h0 q1
    have q2 := s_transposedBad (g := gexc g) (I := I) (m := x + 86) (isM_e (g := g) rfl iM) hWm rfl ra (fun z => hq ⟨z.1, ft.mpr z.2⟩)
    rw [ha] at l1 q2
    obtain ⟨p6, p7, p8, e⟩ := lt_transposed (g := g) (g1 := gexc g) (g2 := gexc g) (v := 1) (od := x + 106) (o6 := o6) (o7 := o7) (o8 := o8) iS hii m0 i105 rfl rfl rfl l1 q2 (by decide) upd2_at (fun z => absurd z (by decide))
    exact ⟨p6, p7, p8, gexc g, _, e, lawI_7 rfl rfl rfl hx hs h', budg_e⟩
theorem rd_easiest (hx : 64 ≤ x) (hs : s < x) (hi : 0 ≤ i ∧ i + 6 ≤ N) (hN : (N : Int) < 2147483648) (hS : ∀ j, (-2147483648 ≤ S j ∧ S j < 2147483648)) (h : lawI s x S N g I) : rndL s x N S 171 i o6 o7 o8 g I := by
  have h' := h
  obtain ⟨iH, iM, i105, i106, ⟨iS, iN, iI'⟩, ⟨c1, c2, c3, c4, c5, c6⟩, c7, ⟨t1, t2, t3, t4, L0, t5, t6, t7, t8, t9⟩, _, _⟩ := h
  have h0 := iH.1
  have m0 := iM.1
  have hii : 0 ≤ i ∧ i + 6 ≤ gn g s ∧ (gn g s : Int) < 2147483648 := by rw [iN]; omega
  have hWm : Wf (mv I (x + 86)) := c4.agr c5
  have eE : I (x + 1) 1 = I (x + 86 + 1) 0 := c5.2.1
  have eb : 0 ≤ I (x + 86 + 1) 0 ∧ I (x + 86 + 1) 0 ≤ 40 := hWm.2.1
  obtain ⟨a, ha⟩ : ∃ a, a = I s (i + 1) := ⟨_, rfl⟩
  have ra : (-2147483648 ≤ a ∧ a < 2147483648) := by rw [ha, iI']; exact hS _
  by_cases hq : 0 ≤ a ∧ a ≤ 24
  · by_cases hz : lsS (pv I (x + 1)) 0 = -1
    · have en : (ezS (mv I (x + 86)) (2 * a + 1)).2 = -1 := ezS_none hWm (by rw [← ls_A c5 c4]; exact hz) (by omega)
      obtain ⟨J, j1, j2, j3⟩ := s_heasiestNo iH.hn iH.2.2.2.1 c3 c7 hq hz
      have jm : mv J (x + 86) = mv I (x + 86) := by unfold mv; rw [j2 (x + 86 + 1) (by omega)]
      obtain ⟨K, L, k1, k2, k3⟩ := s_easiestM (g := gexc g) (I := J) (r := a) (L := g.2.1) (isM_e (g := g) rfl iM) hWm jm.symm hq
      rw [if_pos en] at k1 k2
      have l1 := lw_easiest_2 (o := x + 105) h0 j1
      rw [ha] at l1 k1
      obtain ⟨p6, p7, p8, e⟩ := lt_easiest (g := g) (g1 := gexc g) (g2 := gL (gexc g) L) (v := 2) (I := I) (od := x + 106) (o6 := o6) (o7 := o7) (o8 := o8) iS hii m0 i105 rfl rfl (j2 s (by omega)) l1 k1 (by decide) k2.2.2 (fun z => absurd z (by decide))
      exact ⟨p6, p7, p8, gL (gexc g) L, K, e, lawI_keep (g' := gL (gexc g) L) rfl rfl rfl ((kp_P hx hs j2).trans (kp_Q hx hs k2)) (plOk_Q j2 j3 k2) hx h', by show g.2.2.2.2.2.1 + 1 ≤ _; omega, by show g.2.2.2.2.2.2 + 6 ≤ _; omega⟩
    · have en : ¬ (ezS (mv I (x + 86)) (2 * a + 1)).2 = -1 := ezS_nz hWm (by rw [← ls_A c5 c4]; exact hz) (by omega)
      obtain ⟨J, j1, j2, j3⟩ := s_heasiest (r := a) iH.hn iH.2.2.2.1 c3 c4 c7 hq hz
      have jm : mv J (x + 86) = mv I (x + 86) := by unfold mv; rw [j2 (x + 86 + 1) (by omega)]
      obtain ⟨v, hv⟩ : ∃ v, v = (ezS (pv I (x + 1)) (2 * a + 1)).1 := ⟨_, rfl⟩
      rw [← hv] at j1
      have l1 := lw_easiest (o := x + 105) h0 i105.1 i105.2 j1
      obtain ⟨K, L, k1, k2, k3⟩ := s_easiestM (g := g) (I := J) (r := a) (L := upd2 g.2.1 (x + 105) 0 (iI v).toInt) iM hWm jm.symm hq
      rw [if_neg en] at k1 k2
      rw [← ez_A c5 c4 (by omega), ← hv] at k1
      have kl : L (x + 105) 0 = (iI v).toInt := by rw [k3 (x + 105) (by omega) (by omega), upd2_at]
      rw [ha] at l1 k1
      obtain ⟨p6, p7, p8, e⟩ := lt_easiest (g := g) (g1 := gL g (upd2 g.2.1 (x + 105) 0 (iI v).toInt)) (g2 := gL g L) (I := I) (od := x + 106) (o6 := o6) (o7 := o7) (o8 := o8) iS hii m0 i105 rfl rfl (j2 s (by omega)) l1 k1 (by decide) k2.2.2 (fun _ => kl)
      exact ⟨p6, p7, p8, gL g L, K, e, lawI_keep (g' := gL g L) rfl rfl rfl ((kp_P hx hs j2).trans (kp_Q hx hs k2)) (plOk_Q j2 j3 k2) hx h', budg_L⟩
  · have q1 := s_heasiestBad (g := g) (I := I) (x := x) ra hq
    have l1 := lw_easiest_1 (o := x + 105) h0 q1
    have q2 := s_easiestBad (g := gexc g) (I := I) (m := x + 86) (isM_e (g := g) rfl iM) ra hq
    rw [ha] at l1 q2
    obtain ⟨p6, p7, p8, e⟩ := lt_easiest (g := g) (g1 := gexc g) (g2 := gexc g) (v := 1) (od := x + 106) (o6 := o6) (o7 := o7) (o8 := o8) iS hii m0 i105 rfl rfl rfl l1 q2 (by decide) upd2_at (fun z => absurd z (by decide))
    exact ⟨p6, p7, p8, gexc g, _, e, lawI_7 rfl rfl rfl hx hs h', budg_e⟩
theorem rd_writtenByte (hx : 64 ≤ x) (hs : s < x) (hi : 0 ≤ i ∧ i + 6 ≤ N) (hN : (N : Int) < 2147483648) (hS : ∀ j, (-2147483648 ≤ S j ∧ S j < 2147483648)) (h : lawI s x S N g I) : rndL s x N S 305 i o6 o7 o8 g I := by
  have h' := h
  obtain ⟨iH, iM, i105, i106, ⟨iS, iN, iI'⟩, ⟨c1, c2, c3, c4, c5, c6⟩, c7, ⟨t1, t2, t3, t4, L0, t5, t6, t7, t8, t9⟩, _, _⟩ := h
  have h0 := iH.1
  have m0 := iM.1
  have hii : 0 ≤ i ∧ i + 6 ≤ gn g s ∧ (gn g s : Int) < 2147483648 := by rw [iN]; omega
  have hWm : Wf (mv I (x + 86)) := c4.agr c5
  have eE : I (x + 1) 1 = I (x + 86 + 1) 0 := c5.2.1
  have eb : 0 ≤ I (x + 86 + 1) 0 ∧ I (x + 86 + 1) 0 ≤ 40 := hWm.2.1
  obtain ⟨a, ha⟩ : ∃ a, a = I s (i + 1) := ⟨_, rfl⟩
  have ra : (-2147483648 ≤ a ∧ a < 2147483648) := by rw [ha, iI']; exact hS _
  by_cases hq : 0 ≤ a ∧ a < L0.length
  · have q1 := s_hwrittenByte (g := g) (I := I) (i := a) h0 ⟨iH.2.2.2.2.2.2.2.1.1, iH.2.2.2.2.2.2.2.1.2.2⟩ t6 t5 t9 hq
    obtain ⟨v, hv⟩ : ∃ v, v = L0.getD a.toNat 0 := ⟨_, rfl⟩
    rw [← hv] at q1
    have l1 := lw_writtenByte (o := x + 105) h0 i105.1 i105.2 q1
    have q2 := s_writtenByteM (g := gL g (upd2 g.2.1 (x + 105) 0 (iI v).toInt)) (I := I) (m := x + 86) (i := a) (isM_e (g := g) rfl iM) t8 t7 (by omega) hq
    rw [← hv] at q2
    rw [ha] at l1 q2
    obtain ⟨p6, p7, p8, e⟩ := lt_writtenByte (g := g) (g1 := gL g (upd2 g.2.1 (x + 105) 0 (iI v).toInt)) (g2 := gL g (upd2 g.2.1 (x + 105) 0 (iI v).toInt)) (od := x + 106) (o6 := o6) (o7 := o7) (o8 := o8) iS hii m0 i105 rfl rfl rfl l1 q2 (by decide) upd2_at (fun _ => upd2_at)
    exact ⟨p6, p7, p8, _, _, e, lawI_7 (g' := gL g _) rfl rfl rfl hx hs h', budg_L⟩
  · have q1 := s_hwrittenByteBad (g := g) (I := I) (i := a) h0 t6 t9 ra hq
    have l1 := lw_writtenByte_1 (o := x + 105) h0 q1
    have q2 := s_writtenByteBad (g := gexc g) (I := I) (m := x + 86) (isM_e (g := g) rfl iM) t8 (by omega) ra hq
    rw [ha] at l1 q2
    obtain ⟨p6, p7, p8, e⟩ := lt_writtenByte (g := g) (g1 := gexc g) (g2 := gexc g) (v := 1) (od := x + 106) (o6 := o6) (o7 := o7) (o8 := o8) iS hii m0 i105 rfl rfl rfl l1 q2 (by decide) upd2_at (fun z => absurd z (by decide))
    exact ⟨p6, p7, p8, gexc g, _, e, lawI_7 rfl rfl rfl hx hs h', budg_e⟩
theorem rd_restBehind (hx : 64 ≤ x) (hs : s < x) (hi : 0 ≤ i ∧ i + 6 ≤ N) (hN : (N : Int) < 2147483648) (hS : ∀ j, (-2147483648 ≤ S j ∧ S j < 2147483648)) (h : lawI s x S N g I) : rndL s x N S 180 i o6 o7 o8 g I := by
  have h' := h
  obtain ⟨iH, iM, i105, i106, ⟨iS, iN, iI'⟩, ⟨c1, c2, c3, c4, c5, c6⟩, c7, ⟨t1, t2, t3, t4, L0, t5, t6, t7, t8, t9⟩, _, _⟩ := h
  have h0 := iH.1
  have m0 := iM.1
  have hii : 0 ≤ i ∧ i + 6 ≤ gn g s ∧ (gn g s : Int) < 2147483648 := by rw [iN]; omega
  have hWm : Wf (mv I (x + 86)) := c4.agr c5
  have eE : I (x + 1) 1 = I (x + 86 + 1) 0 := c5.2.1
  have eb : 0 ≤ I (x + 86 + 1) 0 ∧ I (x + 86 + 1) 0 ≤ 40 := hWm.2.1
  obtain ⟨J, j1, j2, j3⟩ := s_hrestBehind iH.hn iH.2.2.2.1 c3 c4 c7
  have jm : mv J (x + 86) = mv I (x + 86) := by unfold mv; rw [j2 (x + 86 + 1) (by omega)]
  obtain ⟨K, L, k1, k2, k3⟩ := s_restBehindM (g := g) (I := J) (L := g.2.1) iM hWm jm.symm
  refine ⟨o6, o7, o8, gL g L, K, lt_restBehind h0 m0 j1 k1 ?_, lawI_keep (g' := gL g L) rfl rfl rfl ((kp_P hx hs j2).trans (kp_Q hx hs k2)) (plOk_Q j2 j3 k2) hx h', budg_L⟩
  have e2 : pE (pv I (x + 1)) = pE (mv I (x + 86)) := c5.2.1
  have e3 : 0 ≤ pE (pv I (x + 1)) := c4.2.1.1
  rw [← e2]
  by_cases hz : pE (pv I (x + 1)) = 0
  · have e4 : max 0 (pE (pv I (x + 1)) - 1) = 0 := by omega
    rw [e4]
    unfold rbS
    rw [itI_0, itI_0]
  · rw [rb_A c5 c4 (by omega) (by omega)]
theorem rd_otherHand (hx : 64 ≤ x) (hs : s < x) (hi : 0 ≤ i ∧ i + 6 ≤ N) (hN : (N : Int) < 2147483648) (hS : ∀ j, (-2147483648 ≤ S j ∧ S j < 2147483648)) (h : lawI s x S N g I) : rndL s x N S 158 i o6 o7 o8 g I := by
  have h' := h
  obtain ⟨iH, iM, i105, i106, ⟨iS, iN, iI'⟩, ⟨c1, c2, c3, c4, c5, c6⟩, c7, ⟨t1, t2, t3, t4, L0, t5, t6, t7, t8, t9⟩, _, _⟩ := h
  have h0 := iH.1
  have m0 := iM.1
  have hii : 0 ≤ i ∧ i + 6 ≤ gn g s ∧ (gn g s : Int) < 2147483648 := by rw [iN]; omega
  have hWm : Wf (mv I (x + 86)) := c4.agr c5
  have eE : I (x + 1) 1 = I (x + 86 + 1) 0 := c5.2.1
  have eb : 0 ≤ I (x + 86 + 1) 0 ∧ I (x + 86 + 1) 0 ≤ 40 := hWm.2.1
  obtain ⟨J, j1, j2, j3⟩ := s_hotherHand iH.hn iH.2.2.1 iH.2.2.2.2.1 c3 c4 c6
  have jm : mv J (x + 86) = mv I (x + 86) := by unfold mv; rw [j2 (x + 86 + 1) (by omega)]
  obtain ⟨K, L, k1, k2, k3⟩ := s_otherHandM (g := g) (I := J) (L := g.2.1) iM hWm jm.symm
  have eR : pR (pv I (x + 1)) = pR (mv I (x + 86)) := c5.1
  have hr1 : 1 - pR (pv I (x + 1)) = 0 ∨ 1 - pR (pv I (x + 1)) = 1 := by rcases c4.1 with z | z <;> omega
  refine ⟨o6, o7, o8, gL g L, K, lt_otherHand h0 m0 j1 k1 ?_, ?_, budg_L⟩
  · rw [← eR, ls_A (oh_A c5) (oh_Wf c4 hr1)]
  · have kf : ∀ p, ¬ p = x + 86 → (p < x + 18 ∨ (x + 34 < p ∧ p < x + 55) ∨ x + 73 < p) → p < x + 94 ∨ x + 100 < p → K p = I p := fun p z1 z2 z3 => (k2.1 p z1 (by omega)).trans (j2 p z2)
    have km : ∀ i, ¬ i = 7 → K (x + 86) i = I (x + 86) i := fun i z => by rw [k2.2.1 i z, j2 _ (by omega)]
    have hU := h'.2.2.2.2.2.2.2.2.1
    have hSh := h'.2.2.2.2.2.2.2.2.2
    have kA : ∀ q, x + 107 ≤ q → K q = I q := fun q z => kf q (by omega) (by omega) (by omega)
    refine lawI_new (g2 := gL g L) h' rfl (fun p z => kf p (by omega) (by omega) (by omega)) (pB_c (fun p z1 z2 => k2.1 p (by omega) (by omega)) j3) (pB_c (fun p z1 z2 => kf p (by omega) (by omega) (by omega)) c3.1) ?_ ?_ (plOk_o (fun p z => kf p (by omega) (by omega) (by omega)) c7) ⟨?_, ?_, ?_, ?_, L0, ?_, ?_, ?_, ?_, t9⟩ ?_ (lvS_g (g := g) rfl rfl rfl kA hSh)
    · rw [pv_c (fun p z1 z2 => kf p (by omega) (by omega) (by omega))]; exact c4
    · have e : mv K (x + 86) = mv I (x + 86) := by unfold mv; rw [kf (x + 86 + 1) (by omega) (by omega) (by omega)]
      rw [pv_c (fun p z1 z2 => kf p (by omega) (by omega) (by omega)), e]; exact c5
    · rw [kf (x + 77) (by omega) (by omega) (by omega), kf (x + 75) (by omega) (by omega) (by omega)]; exact t1
    · rw [kf (x + 77) (by omega) (by omega) (by omega), kf (x + 93) (by omega) (by omega) (by omega)]; exact t2
    · rw [kf (x + 75) (by omega) (by omega) (by omega), km 9 (by decide)]; exact t3
    · rw [kf (x + 75) (by omega) (by omega) (by omega), km 16 (by decide)]; exact t4
    · exact hL_c t5 (kf (x + 81) (by omega) (by omega) (by omega))
    · rw [kf x (by omega) (by omega) (by omega)]; exact t6
    · exact hL_c t7 (kf (x + 104) (by omega) (by omega) (by omega))
    · rw [km 29 (by decide)]; exact t8
    · exact lvU_g (g := g) rfl (lvU_c (fun p z => kf p (by omega) (by omega) (by omega)) (km 6 (by decide)) hSh hU)
end RQ5
