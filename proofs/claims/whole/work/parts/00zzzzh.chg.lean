/-! Rounds of the changes. -/
section CG
variable {s x N : Nat} {S : Int → Int} {g g' : Gm} {I I1 J K : Mm} {A : Nat} {i : Int} {o6 o7 o8 : Option Value}
theorem rmF.o (h : rmF x g g' I I1 A) (hS : lvS g I x) (hJ : ∀ p, p < x + 1 ∨ (x + 17 < p ∧ p < x + 35) ∨ x + 54 < p → J p = I1 p) : ∀ p, p < x ∨ (x + 17 < p ∧ p < x + 35) ∨ (x + 54 < p ∧ p < x + 107) → J p = I p := by
  intro p hp
  have := (h.ps.d (Or.inl rfl) hS).1
  rw [hJ p (by omega), h.2.2.1 p (by omega) (by omega) (by omega)]
theorem rmF.pv (h : rmF x g g' I I1 A) : pv I1 (x + 1) = pv I (x + 1) := pv_c (fun p a b => rm_piece h p a (by omega))
theorem rmF.pB (h : rmF x g g' I I1 A) (hB : pB I (x + 1)) : pB I1 (x + 1) := pB_c (fun p a b => rm_piece h p a (by omega)) hB
theorem le_pB {q : Nat} {e n : Int} (hB : pB I q) : pB (clE I q e n) q := by
  obtain ⟨b0, b1, b2, b4, b6, b8, b10, b12, b14, b16⟩ := hB
  have cp : ∀ p i, ¬ p = q + 2 → ¬ p = q + 4 → ¬ p = q + 6 → ¬ p = q + 8 → clE I q e n p i = I p i := fun p i z2 z4 z6 z8 => by
    unfold clE; rw [if_neg (by omega), if_neg (by omega)]
  have c : ∀ p i, ∃ j, clE I q e n p i = I p j := fun p i => by
    unfold clE
    by_cases h1 : (p = q + 2 ∨ p = q + 4) ∧ e ≤ i ∧ i < n
    · exact ⟨_, if_pos h1⟩
    · rw [if_neg h1]
      by_cases h2 : (p = q + 6 ∨ p = q + 8) ∧ e * 3 ≤ i ∧ i < n * 3
      · exact ⟨_, if_pos h2⟩
      · exact ⟨_, if_neg h2⟩
  refine ⟨?_, ?_, fun i => ?_, fun i => ?_, fun i => ?_, fun i => ?_, fun i => ?_, fun i => ?_, fun i => ?_, fun i => ?_⟩
  · rw [cp q 0 (by omega) (by omega) (by omega) (by omega)]; exact b0
  · rw [cp q 1 (by omega) (by omega) (by omega) (by omega)]; exact b1
  · obtain ⟨j, hj⟩ := c (q + 2) i; rw [hj]; exact b2 j
  · obtain ⟨j, hj⟩ := c (q + 4) i; rw [hj]; exact b4 j
  · obtain ⟨j, hj⟩ := c (q + 6) i; rw [hj]; exact b6 j
  · obtain ⟨j, hj⟩ := c (q + 8) i; rw [hj]; exact b8 j
  · obtain ⟨j, hj⟩ := c (q + 10) i; rw [hj]; exact b10 j
  · obtain ⟨j, hj⟩ := c (q + 12) i; rw [hj]; exact b12 j
  · obtain ⟨j, hj⟩ := c (q + 14) i; rw [hj]; exact b14 j
  · obtain ⟨j, hj⟩ := c (q + 16) i; rw [hj]; exact b16 j
theorem clE_o {q p : Nat} {e n : Int} (h : p < q + 1 ∨ q + 8 < p) : clE I q e n p = I p := by
  funext i
  unfold clE; rw [if_neg (by omega), if_neg (by omega)]
theorem rd_setRest (hx : 64 ≤ x) (hs : s < x) (hi : 0 ≤ i ∧ i + 6 ≤ N) (hN : (N : Int) < 2147483648) (hS : ∀ j, (-2147483648 ≤ S j ∧ S j < 2147483648)) (h : lawI s x S N g I) : rndL s x N S 202 i o6 o7 o8 g I := by
  have h' := h
  have hC := law_ch hx h'
  obtain ⟨iH, iM, i105, i106, ⟨iS, iN, iI'⟩, ⟨c1, c2, c3, c4, c5, c6⟩, c7, _, ⟨⟨u9, u10, u6⟩, _⟩, hSh⟩ := h
  have h0 := iH.1
  have m0 := iM.1
  have hii : 0 ≤ i ∧ i + 6 ≤ gn g s ∧ (gn g s : Int) < 2147483648 := by rw [iN]; omega
  have hWm : Wf (mv I (x + 86)) := c4.agr c5
  have eE : I (x + 1) 1 = I (x + 86 + 1) 0 := c5.2.1
  have eb : 0 ≤ I (x + 86 + 1) 0 ∧ I (x + 86 + 1) 0 ≤ 40 := hWm.2.1
  obtain ⟨a, ha⟩ : ∃ a, a = I s (i + 1) := ⟨_, rfl⟩
  have ra : (-2147483648 ≤ a ∧ a < 2147483648) := by rw [ha, iI']; exact hS _
  obtain ⟨b, hb⟩ : ∃ b, b = I s (i + 2) := ⟨_, rfl⟩
  have rb : (-2147483648 ≤ b ∧ b < 2147483648) := by rw [hb, iI']; exact hS _
  by_cases hq : 0 ≤ a ∧ a < I (x + 1) 1
  · have hqm : 0 ≤ a ∧ a < I (x + 86 + 1) 0 := by omega
    by_cases hw : 0 ≤ b ∧ b ≤ 9
    · obtain ⟨g', I1, A, j1, j2⟩ := s_hsetRest hC hq hw
      obtain ⟨J, hJ⟩ : ∃ J, J = upd2 I1 (x + 5) a b := ⟨_, rfl⟩
      rw [← hJ] at j1
      have jo : ∀ p, p < x + 1 ∨ (x + 17 < p ∧ p < x + 35) ∨ x + 54 < p → J p = I1 p := fun p hp => by rw [hJ]; exact funext fun j => upd2_p (by omega)
      have j35 : J (x + 35) 0 = 0 := by rw [hJ]; exact (upd2_p (by omega)).trans j2.2.2.2.2.2.2.1
      obtain ⟨v, hv⟩ : ∃ v, v = I (x + 5) a := ⟨_, rfl⟩
      rw [← hv] at j1
      have l1 := lw_setRest (o := x + 105) h0 (by rw [gt_e j2.e]; exact i105.1) (by rw [gn_e j2.e]; exact i105.2) j1
      have jI := j2.o hSh jo
      have js : J s = I s := jI s (by omega)
      have j86 : J (x + 86) = I (x + 86) := jI _ (by omega)
      have j87 : J (x + 86 + 1) = I (x + 86 + 1) := jI _ (by omega)
      have hB1 : pB I1 (x + 1) := j2.pB c3.1
      have hv1 : pv I1 (x + 1) = pv I (x + 1) := j2.pv
      have mJ : mv J (x + 86) = mv I (x + 86) := by unfold mv; rw [j87]
      obtain ⟨L, hL⟩ : ∃ L, L = upd2 g'.2.1 (x + 105) 0 (iI v).toInt := ⟨_, rfl⟩
      rw [← hL] at l1
      have e1 : (gL g' L).1 = g.1 := j2.e
      have h6 : 0 ≤ J (x + 86) 6 ∧ J (x + 86) 6 ≤ 8 := by rw [j86, u6]; exact u10
      obtain ⟨K, k1, k2⟩ := s_setRestM (g := gL g' L) (I := J) (m := x + 86) (isM_e e1 iM) (by rw [j87]; exact eb) h6 (by rw [j87]; exact hqm) hw
      have k87 : K (x + 86 + 1) = I (x + 86 + 1) := (kpM_mv k2).trans j87
      have kmv : mv K (x + 86) = mv I (x + 86) := by unfold mv; rw [k87]
      have ev : J (x + 86 + 1) (42 + 8 * a + 1) = v := by rw [j87, hv]; exact (c5.2.2.1 a hq.1 hq.2).2.1.symm
      rw [ev] at k1
      obtain ⟨K', hK'⟩ : ∃ K', K' = upd2 K (x + 86 + 1) (42 + 8 * a + 1) b := ⟨_, rfl⟩
      rw [← hK'] at k1
      rw [ha, hb] at l1 k1
      have ko : ∀ p, ¬ p = x + 86 + 1 → K' p = K p := fun p hp => by rw [hK']; exact funext fun j => upd2_p (by omega)
      have t7 : K' (x + 86) 7 = 0 := by rw [ko (x + 86) (by omega), k2.2.1 7 (by decide), upd2_at]
      obtain ⟨p6, p7, p8, e⟩ := lt_setRest (g := g) (g1 := gL g' L) (g2 := gL g' L) (I := I) (od := x + 106) (o6 := o6) (o7 := o7) (o8 := o8) iS hii m0 i105 e1 e1 js l1 k1 (by decide) t7 (fun _ => by show L (x + 105) 0 = _; rw [hL, upd2_at])
      have a1 : Agr (pv J (x + 1)) (rsP (pv I (x + 1)) a b) := by rw [hJ]; exact (by rw [← hv1]; exact c_rs (J := I1) (q := x + 1))
      have a2 : Agr (mv K' (x + 86)) (rsP (mv I (x + 86)) a b) := by rw [hK']; exact (by rw [← kmv]; exact agr_rs hq.1 (by rw [k87]; exact fun e' e0 e1 => (hWm.2.2.1 e' e0 e1).1.2))
      have hB : pB J (x + 1) := by rw [hJ]; exact pB_u hB1 (by omega)
      exact ⟨p6, p7, p8, gL g' L, K', e, lawI_rm (g' := g') hx hs h' j2 jo ⟨fun p p1 _ => funext fun j => upd2_p p1, fun i i7 => upd2_i i7⟩ k2 (fun p p1 p2 _ => ko p p2) (fun i i0 => by rw [ko (x + 86) (by omega)]) hB (Wf.agr (rs_Wf c4 hw) a1.symm) (a1.trans ((rs_A c5).trans a2.symm)) (Or.inl j35) rfl rfl rfl, j2.ps.b⟩
    · have q1 := s_hsetRestBadR (g := g) (I := I) iH.hn c3 hq rb hw
      have l1 := lw_setRest_2 (o := x + 105) h0 q1
      have q2 := s_setRestBadR (g := gexc g) (I := I) (m := x + 86) (isM_e (g := g) rfl iM) eb hqm rb hw
      rw [ha, hb] at l1 q2
      obtain ⟨p6, p7, p8, e⟩ := lt_setRest (g := g) (g1 := gexc g) (g2 := gexc g) (v := 2) (od := x + 106) (o6 := o6) (o7 := o7) (o8 := o8) iS hii m0 i105 rfl rfl rfl l1 q2 (by decide) upd2_at (fun z => absurd z (by decide))
      exact ⟨p6, p7, p8, gexc g, _, e, lawI_7 rfl rfl rfl hx hs h', budg_e⟩
  · have q1 := s_hsetRestBad (g := g) (I := I) (r := b) iH.hn c3 ra hq
    have l1 := lw_setRest_1 (o := x + 105) h0 q1
    have q2 := s_setRestBad (r := b) (g := gexc g) (I := I) (m := x + 86) (isM_e (g := g) rfl iM) eb ra (by omega)
    rw [ha, hb] at l1 q2
    obtain ⟨p6, p7, p8, e⟩ := lt_setRest (g := g) (g1 := gexc g) (g2 := gexc g) (v := 1) (od := x + 106) (o6 := o6) (o7 := o7) (o8 := o8) iS hii m0 i105 rfl rfl rfl l1 q2 (by decide) upd2_at (fun z => absurd z (by decide))
    exact ⟨p6, p7, p8, gexc g, _, e, lawI_7 rfl rfl rfl hx hs h', budg_e⟩
theorem rd_setWeight (hx : 64 ≤ x) (hs : s < x) (hi : 0 ≤ i ∧ i + 6 ≤ N) (hN : (N : Int) < 2147483648) (hS : ∀ j, (-2147483648 ≤ S j ∧ S j < 2147483648)) (h : lawI s x S N g I) : rndL s x N S 226 i o6 o7 o8 g I := by
  have h' := h
  have hC := law_ch hx h'
  obtain ⟨iH, iM, i105, i106, ⟨iS, iN, iI'⟩, ⟨c1, c2, c3, c4, c5, c6⟩, c7, _, ⟨⟨u9, u10, u6⟩, _⟩, hSh⟩ := h
  have h0 := iH.1
  have m0 := iM.1
  have hii : 0 ≤ i ∧ i + 6 ≤ gn g s ∧ (gn g s : Int) < 2147483648 := by rw [iN]; omega
  have hWm : Wf (mv I (x + 86)) := c4.agr c5
  have eE : I (x + 1) 1 = I (x + 86 + 1) 0 := c5.2.1
  have eb : 0 ≤ I (x + 86 + 1) 0 ∧ I (x + 86 + 1) 0 ≤ 40 := hWm.2.1
  obtain ⟨a, ha⟩ : ∃ a, a = I s (i + 1) := ⟨_, rfl⟩
  have ra : (-2147483648 ≤ a ∧ a < 2147483648) := by rw [ha, iI']; exact hS _
  obtain ⟨b, hb⟩ : ∃ b, b = I s (i + 2) := ⟨_, rfl⟩
  have rb : (-2147483648 ≤ b ∧ b < 2147483648) := by rw [hb, iI']; exact hS _
  by_cases hq : 0 ≤ a ∧ a ≤ 9
  · by_cases hw : 0 ≤ b ∧ b ≤ 99
    · obtain ⟨g', I1, A, j1, j2⟩ := s_hsetWeight hC hq hw
      obtain ⟨J, hJ⟩ : ∃ J, J = upd2 I1 (x + 11) a b := ⟨_, rfl⟩
      rw [← hJ] at j1
      have jo : ∀ p, p < x + 1 ∨ (x + 17 < p ∧ p < x + 35) ∨ x + 54 < p → J p = I1 p := fun p hp => by rw [hJ]; exact funext fun j => upd2_p (by omega)
      have j35 : J (x + 35) 0 = 0 := by rw [hJ]; exact (upd2_p (by omega)).trans j2.2.2.2.2.2.2.1
      obtain ⟨v, hv⟩ : ∃ v, v = I (x + 11) a := ⟨_, rfl⟩
      rw [← hv] at j1
      have l1 := lw_setWeight (o := x + 105) h0 (by rw [gt_e j2.e]; exact i105.1) (by rw [gn_e j2.e]; exact i105.2) j1
      have jI := j2.o hSh jo
      have js : J s = I s := jI s (by omega)
      have j86 : J (x + 86) = I (x + 86) := jI _ (by omega)
      have j87 : J (x + 86 + 1) = I (x + 86 + 1) := jI _ (by omega)
      have hB1 : pB I1 (x + 1) := j2.pB c3.1
      have hv1 : pv I1 (x + 1) = pv I (x + 1) := j2.pv
      have mJ : mv J (x + 86) = mv I (x + 86) := by unfold mv; rw [j87]
      obtain ⟨L, hL⟩ : ∃ L, L = upd2 g'.2.1 (x + 105) 0 (iI v).toInt := ⟨_, rfl⟩
      rw [← hL] at l1
      have e1 : (gL g' L).1 = g.1 := j2.e
      have h6 : 0 ≤ J (x + 86) 6 ∧ J (x + 86) 6 ≤ 8 := by rw [j86, u6]; exact u10
      obtain ⟨K, k1, k2⟩ := s_setWeightM (g := gL g' L) (I := J) (m := x + 86) (isM_e e1 iM) h6 hq hw
      have k87 : K (x + 86 + 1) = I (x + 86 + 1) := (kpM_mv k2).trans j87
      have kmv : mv K (x + 86) = mv I (x + 86) := by unfold mv; rw [k87]
      have ev : J (x + 86 + 1) (2 + a) = v := by rw [j87, hv]; exact (c5.2.2.2.1 a hq.1 (by omega)).symm
      rw [ev] at k1
      obtain ⟨K', hK'⟩ : ∃ K', K' = upd2 K (x + 86 + 1) (2 + a) b := ⟨_, rfl⟩
      rw [← hK'] at k1
      rw [ha, hb] at l1 k1
      have ko : ∀ p, ¬ p = x + 86 + 1 → K' p = K p := fun p hp => by rw [hK']; exact funext fun j => upd2_p (by omega)
      have t7 : K' (x + 86) 7 = 0 := by rw [ko (x + 86) (by omega), k2.2.1 7 (by decide), upd2_at]
      obtain ⟨p6, p7, p8, e⟩ := lt_setWeight (g := g) (g1 := gL g' L) (g2 := gL g' L) (I := I) (od := x + 106) (o6 := o6) (o7 := o7) (o8 := o8) iS hii m0 i105 e1 e1 js l1 k1 (by decide) t7 (fun _ => by show L (x + 105) 0 = _; rw [hL, upd2_at])
      have a1 : Agr (pv J (x + 1)) (paW (pv I (x + 1)) a b) := by rw [hJ]; exact paW_A (J := I1) (q := x + 1) (by rw [hv1]; exact Agr.rfl)
      have a2 : Agr (mv K' (x + 86)) (paW (pv I (x + 1)) a b) := by rw [hK']; exact mWt_A (by omega) (by rw [kmv]; exact c5.symm)
      have hB : pB J (x + 1) := by rw [hJ]; exact pB_u hB1 (by omega)
      exact ⟨p6, p7, p8, gL g' L, K', e, lawI_rm (g' := g') hx hs h' j2 jo ⟨fun p p1 _ => funext fun j => upd2_p p1, fun i i7 => upd2_i i7⟩ k2 (fun p p1 p2 _ => ko p p2) (fun i i0 => by rw [ko (x + 86) (by omega)]) hB (Wf.agr (paW_Wf c4 hw) a1.symm) (a1.trans ((Agr.rfl).trans a2.symm)) (Or.inl j35) rfl rfl rfl, j2.ps.b⟩
    · have q1 := s_hsetWeightBadV (g := g) (I := I) h0 hq rb hw
      have l1 := lw_setWeight_2 (o := x + 105) h0 q1
      have q2 := s_setWeightBadV (g := gexc g) (I := I) (m := x + 86) (isM_e (g := g) rfl iM) hq rb hw
      rw [ha, hb] at l1 q2
      obtain ⟨p6, p7, p8, e⟩ := lt_setWeight (g := g) (g1 := gexc g) (g2 := gexc g) (v := 2) (od := x + 106) (o6 := o6) (o7 := o7) (o8 := o8) iS hii m0 i105 rfl rfl rfl l1 q2 (by decide) upd2_at (fun z => absurd z (by decide))
      exact ⟨p6, p7, p8, gexc g, _, e, lawI_7 rfl rfl rfl hx hs h', budg_e⟩
  · have q1 := s_hsetWeightBad (g := g) (I := I) (v := b) h0 ra hq
    have l1 := lw_setWeight_1 (o := x + 105) h0 q1
    have q2 := s_setWeightBad (v := b) (g := gexc g) (I := I) (m := x + 86) (isM_e (g := g) rfl iM) ra hq
    rw [ha, hb] at l1 q2
    obtain ⟨p6, p7, p8, e⟩ := lt_setWeight (g := g) (g1 := gexc g) (g2 := gexc g) (v := 1) (od := x + 106) (o6 := o6) (o7 := o7) (o8 := o8) iS hii m0 i105 rfl rfl rfl l1 q2 (by decide) upd2_at (fun z => absurd z (by decide))
    exact ⟨p6, p7, p8, gexc g, _, e, lawI_7 rfl rfl rfl hx hs h', budg_e⟩
theorem rd_setSpan (hx : 64 ≤ x) (hs : s < x) (hi : 0 ≤ i ∧ i + 6 ≤ N) (hN : (N : Int) < 2147483648) (hS : ∀ j, (-2147483648 ≤ S j ∧ S j < 2147483648)) (h : lawI s x S N g I) : rndL s x N S 235 i o6 o7 o8 g I := by
  have h' := h
  have hC := law_ch hx h'
  obtain ⟨iH, iM, i105, i106, ⟨iS, iN, iI'⟩, ⟨c1, c2, c3, c4, c5, c6⟩, c7, _, ⟨⟨u9, u10, u6⟩, _⟩, hSh⟩ := h
  have h0 := iH.1
  have m0 := iM.1
  have hii : 0 ≤ i ∧ i + 6 ≤ gn g s ∧ (gn g s : Int) < 2147483648 := by rw [iN]; omega
  have hWm : Wf (mv I (x + 86)) := c4.agr c5
  have eE : I (x + 1) 1 = I (x + 86 + 1) 0 := c5.2.1
  have eb : 0 ≤ I (x + 86 + 1) 0 ∧ I (x + 86 + 1) 0 ≤ 40 := hWm.2.1
  obtain ⟨a, ha⟩ : ∃ a, a = I s (i + 1) := ⟨_, rfl⟩
  have ra : (-2147483648 ≤ a ∧ a < 2147483648) := by rw [ha, iI']; exact hS _
  obtain ⟨b, hb⟩ : ∃ b, b = I s (i + 2) := ⟨_, rfl⟩
  have rb : (-2147483648 ≤ b ∧ b < 2147483648) := by rw [hb, iI']; exact hS _
  obtain ⟨c, hc⟩ : ∃ c, c = I s (i + 3) := ⟨_, rfl⟩
  have rc : (-2147483648 ≤ c ∧ c < 2147483648) := by rw [hc, iI']; exact hS _
  obtain ⟨d, hd⟩ : ∃ d, d = I s (i + 4) := ⟨_, rfl⟩
  have rd : (-2147483648 ≤ d ∧ d < 2147483648) := by rw [hd, iI']; exact hS _
  obtain ⟨e, he⟩ : ∃ e, e = I s (i + 5) := ⟨_, rfl⟩
  have re : (-2147483648 ≤ e ∧ e < 2147483648) := by rw [he, iI']; exact hS _
  by_cases hq : (1 ≤ a ∧ a ≤ 5) ∧ 1 ≤ b ∧ b ≤ 5
  · obtain ⟨ba, bb⟩ := hq
    by_cases hw : spOk a b c d e
    · obtain ⟨g', I1, A, j1, j2⟩ := s_hsetSpan hC ba bb hw
      obtain ⟨J, hJ⟩ : ∃ J, J = spU I1 (x + 1) a b c d e := ⟨_, rfl⟩
      rw [← hJ] at j1
      have jo : ∀ p, p < x + 1 ∨ (x + 17 < p ∧ p < x + 35) ∨ x + 54 < p → J p = I1 p := fun p hp => by rw [hJ]; exact funext fun j => (upd2_p (by omega)).trans <| (upd2_p (by omega)).trans <| (upd2_p (by omega)).trans <| (upd2_p (by omega)).trans <| (upd2_p (by omega)).trans <| (upd2_p (by omega))
      have j35 : J (x + 35) 0 = 0 := by rw [hJ]; exact ((upd2_p (by omega)).trans <| (upd2_p (by omega)).trans <| (upd2_p (by omega)).trans <| (upd2_p (by omega)).trans <| (upd2_p (by omega)).trans <| (upd2_p (by omega))).trans j2.2.2.2.2.2.2.1
      obtain ⟨v, hv⟩ : ∃ v, v = pLi (pv I (x + 1)) a b := ⟨_, rfl⟩
      rw [← hv] at j1
      have l1 := lw_setSpan (o := x + 105) h0 (by rw [gt_e j2.e]; exact i105.1) (by rw [gn_e j2.e]; exact i105.2) j1
      have jI := j2.o hSh jo
      have js : J s = I s := jI s (by omega)
      have j86 : J (x + 86) = I (x + 86) := jI _ (by omega)
      have j87 : J (x + 86 + 1) = I (x + 86 + 1) := jI _ (by omega)
      have sw : (1 ≤ c ∧ c ≤ 24) ∧ (c ≤ d ∧ d ≤ 24) ∧ (d ≤ e ∧ e ≤ 24) := hw.2
      have hB1 : pB I1 (x + 1) := j2.pB c3.1
      have hv1 : pv I1 (x + 1) = pv I (x + 1) := j2.pv
      have mJ : mv J (x + 86) = mv I (x + 86) := by unfold mv; rw [j87]
      obtain ⟨L, hL⟩ : ∃ L, L = upd2 g'.2.1 (x + 105) 0 (iI v).toInt := ⟨_, rfl⟩
      rw [← hL] at l1
      have e1 : (gL g' L).1 = g.1 := j2.e
      have h6 : 0 ≤ J (x + 86) 6 ∧ J (x + 86) 6 ≤ 8 := by rw [j86, u6]; exact u10
      obtain ⟨K, k1, k2⟩ := s_setSpanM (g := gL g' L) (I := J) (m := x + 86) (isM_e e1 iM) h6 ba bb hw
      have k87 : K (x + 86 + 1) = I (x + 86 + 1) := (kpM_mv k2).trans j87
      have kmv : mv K (x + 86) = mv I (x + 86) := by unfold mv; rw [k87]
      have ev : J (x + 86 + 1) (prS a b + 2) = v := by rw [j87, hv]; exact (c5.2.2.2.2 a b ba.1 ba.2 bb.1 bb.2 hw.1).2.2.symm
      rw [ev] at k1
      obtain ⟨K', hK'⟩ : ∃ K', K' = psU K (x + 86) a b c d e := ⟨_, rfl⟩
      rw [← hK'] at k1
      rw [ha, hb, hc, hd, he] at l1 k1
      have ko : ∀ p, ¬ p = x + 86 + 1 → K' p = K p := fun p hp => by rw [hK']; exact funext fun j => (congrFun (psU_p hp) j)
      have t7 : K' (x + 86) 7 = 0 := by rw [ko (x + 86) (by omega), k2.2.1 7 (by decide), upd2_at]
      obtain ⟨p6, p7, p8, ee⟩ := lt_setSpan (g := g) (g1 := gL g' L) (g2 := gL g' L) (I := I) (od := x + 106) (o6 := o6) (o7 := o7) (o8 := o8) iS hii m0 i105 e1 e1 js l1 k1 (by decide) t7 (fun _ => by show L (x + 105) 0 = _; rw [hL, upd2_at])
      have a1 : Agr (pv J (x + 1)) (paS (pv I (x + 1)) a b c d e) := by rw [hJ]; exact paS_A (J := I1) (q := x + 1) ba bb (by rw [hv1]; exact Agr.rfl)
      have a2 : Agr (mv K' (x + 86)) (paS (pv I (x + 1)) a b c d e) := by rw [hK']; exact mS_A ba bb hw.1 (by rw [kmv]; exact c5.symm)
      have hB : pB J (x + 1) := by rw [hJ]; exact pB_sp hB1 (by omega) (by omega) (by omega)
      exact ⟨p6, p7, p8, gL g' L, K', ee, lawI_rm (g' := g') hx hs h' j2 jo ⟨fun p p1 _ => funext fun j => upd2_p p1, fun i i7 => upd2_i i7⟩ k2 (fun p p1 p2 _ => ko p p2) (fun i i0 => by rw [ko (x + 86) (by omega)]) hB (Wf.agr (paS_Wf c4 (by omega) (by omega) (by omega) (by omega)) a1.symm) (a1.trans ((Agr.rfl).trans a2.symm)) (Or.inl j35) rfl rfl rfl, j2.ps.b⟩
    · have q1 := s_hsetSpanBadS (g := g) (I := I) h0 ba bb rc rd re hw
      have l1 := lw_setSpan_2 (o := x + 105) h0 q1
      have q2 := s_setSpanBadS (g := gexc g) (I := I) (m := x + 86) (isM_e (g := g) rfl iM) ba bb rc rd re hw
      rw [ha, hb, hc, hd, he] at l1 q2
      obtain ⟨p6, p7, p8, ee⟩ := lt_setSpan (g := g) (g1 := gexc g) (g2 := gexc g) (v := 2) (od := x + 106) (o6 := o6) (o7 := o7) (o8 := o8) iS hii m0 i105 rfl rfl rfl l1 q2 (by decide) upd2_at (fun z => absurd z (by decide))
      exact ⟨p6, p7, p8, gexc g, _, ee, lawI_7 rfl rfl rfl hx hs h', budg_e⟩
  · have q1 := s_hsetSpanBadF (g := g) (I := I) (lo := c) (hi := d) (li := e) h0 ra rb hq
    have l1 := lw_setSpan_1 (o := x + 105) h0 q1
    have q2 := s_setSpanBadF (lo := c) (hi := d) (li := e) (g := gexc g) (I := I) (m := x + 86) (isM_e (g := g) rfl iM) ra rb rc rd re hq
    rw [ha, hb, hc, hd, he] at l1 q2
    obtain ⟨p6, p7, p8, ee⟩ := lt_setSpan (g := g) (g1 := gexc g) (g2 := gexc g) (v := 1) (od := x + 106) (o6 := o6) (o7 := o7) (o8 := o8) iS hii m0 i105 rfl rfl rfl l1 q2 (by decide) upd2_at (fun z => absurd z (by decide))
    exact ⟨p6, p7, p8, gexc g, _, ee, lawI_7 rfl rfl rfl hx hs h', budg_e⟩
theorem rd_drop (hx : 64 ≤ x) (hs : s < x) (hi : 0 ≤ i ∧ i + 6 ≤ N) (hN : (N : Int) < 2147483648) (hS : ∀ j, (-2147483648 ≤ S j ∧ S j < 2147483648)) (h : lawI s x S N g I) : rndL s x N S 193 i o6 o7 o8 g I := by
  have h' := h
  have hC := law_ch hx h'
  obtain ⟨iH, iM, i105, i106, ⟨iS, iN, iI'⟩, ⟨c1, c2, c3, c4, c5, c6⟩, c7, _, ⟨⟨u9, u10, u6⟩, _⟩, hSh⟩ := h
  have h0 := iH.1
  have m0 := iM.1
  have hii : 0 ≤ i ∧ i + 6 ≤ gn g s ∧ (gn g s : Int) < 2147483648 := by rw [iN]; omega
  have hWm : Wf (mv I (x + 86)) := c4.agr c5
  have eE : I (x + 1) 1 = I (x + 86 + 1) 0 := c5.2.1
  have eb : 0 ≤ I (x + 86 + 1) 0 ∧ I (x + 86 + 1) 0 ≤ 40 := hWm.2.1
  obtain ⟨a, ha⟩ : ∃ a, a = I s (i + 1) := ⟨_, rfl⟩
  have ra : (-2147483648 ≤ a ∧ a < 2147483648) := by rw [ha, iI']; exact hS _
  by_cases hq : 0 ≤ a ∧ a < I (x + 1) 1
  · have hqm : 0 ≤ a ∧ a < I (x + 86 + 1) 0 := by omega
    obtain ⟨g', I1, A, j1, j2⟩ := s_hdrop hC hq
    obtain ⟨J, hJ⟩ : ∃ J, J = clE (upd2 I1 (x + 1) 1 (I (x + 1) 1 - 1)) (x + 1) a (I (x + 1) 1 - 1) := ⟨_, rfl⟩
    rw [← hJ] at j1
    have jo : ∀ p, p < x + 1 ∨ (x + 17 < p ∧ p < x + 35) ∨ x + 54 < p → J p = I1 p := fun p hp => by rw [hJ]; exact funext fun j => (congrFun (clE_o (by omega)) j).trans (upd2_p (by omega))
    have j35 : J (x + 35) 0 = 0 := by rw [hJ]; exact ((congrFun (clE_o (by omega)) 0).trans (upd2_p (by omega))).trans j2.2.2.2.2.2.2.1
    obtain ⟨v, hv⟩ : ∃ v, v = I (x + 1) 1 - 1 := ⟨_, rfl⟩
    rw [← hv] at j1
    have l1 := lw_drop (o := x + 105) h0 (by rw [gt_e j2.e]; exact i105.1) (by rw [gn_e j2.e]; exact i105.2) j1
    have jI := j2.o hSh jo
    have js : J s = I s := jI s (by omega)
    have j86 : J (x + 86) = I (x + 86) := jI _ (by omega)
    have j87 : J (x + 86 + 1) = I (x + 86 + 1) := jI _ (by omega)
    have bE := c3.1.2.1
    have hB1 : pB I1 (x + 1) := j2.pB c3.1
    have hv1 : pv I1 (x + 1) = pv I (x + 1) := j2.pv
    have mJ : mv J (x + 86) = mv I (x + 86) := by unfold mv; rw [j87]
    obtain ⟨L, hL⟩ : ∃ L, L = upd2 g'.2.1 (x + 105) 0 (iI v).toInt := ⟨_, rfl⟩
    rw [← hL] at l1
    have e1 : (gL g' L).1 = g.1 := j2.e
    have h6 : 0 ≤ J (x + 86) 6 ∧ J (x + 86) 6 ≤ 8 := by rw [j86, u6]; exact u10
    obtain ⟨K, k1, k2⟩ := s_dropM (g := gL g' L) (I := J) (m := x + 86) (isM_e e1 iM) h6 (by rw [j87]; exact eb) (by rw [j87]; exact hqm)
    have k87 : K (x + 86 + 1) = I (x + 86 + 1) := (kpM_mv k2).trans j87
    have kmv : mv K (x + 86) = mv I (x + 86) := by unfold mv; rw [k87]
    have ev : J (x + 86 + 1) 0 - 1 = v := by rw [j87, hv, eE]
    rw [ev] at k1
    obtain ⟨K', hK'⟩ : ∃ K', K' = upd2 (dwU K (x + 86 + 1) (42 + 8 * a) 354) (x + 86 + 1) 0 v := ⟨_, rfl⟩
    rw [← hK'] at k1
    rw [ha] at l1 k1
    have ko : ∀ p, ¬ p = x + 86 + 1 → K' p = K p := fun p hp => by rw [hK']; exact funext fun j => (upd2_p hp).trans (congrFun (dwU_p hp) j)
    have t7 : K' (x + 86) 7 = 0 := by rw [ko (x + 86) (by omega), k2.2.1 7 (by decide), upd2_at]
    obtain ⟨p6, p7, p8, e⟩ := lt_drop (g := g) (g1 := gL g' L) (g2 := gL g' L) (I := I) (od := x + 106) (o6 := o6) (o7 := o7) (o8 := o8) iS hii m0 i105 e1 e1 js l1 k1 (by decide) t7 (fun _ => by show L (x + 105) 0 = _; rw [hL, upd2_at])
    have a1 : Agr (pv J (x + 1)) (dpP (pv I (x + 1)) a) := by rw [hJ]; exact (by rw [← hv1]; exact c_dp (J := I1) (q := x + 1) (by rw [rm_piece j2 (x + 1) (by omega) (by omega)]) hB1 hq.1 hq.2)
    have a2 : Agr (mv K' (x + 86)) (dpP (mv I (x + 86)) a) := by rw [hK']; exact (by rw [← kmv, hv, eE]; exact m_dp (J := K) (m := x + 86) (by rw [k87]) (by rw [kmv]; exact hWm) hqm.1 hqm.2)
    have hB : pB J (x + 1) := by rw [hJ]; exact le_pB (pB_u hB1 (by omega))
    exact ⟨p6, p7, p8, gL g' L, K', e, lawI_rm (g' := g') hx hs h' j2 jo ⟨fun p p1 _ => funext fun j => upd2_p p1, fun i i7 => upd2_i i7⟩ k2 (fun p p1 p2 _ => ko p p2) (fun i i0 => by rw [ko (x + 86) (by omega)]) hB (Wf.agr (dp_Wf c4 hq.1 hq.2) a1.symm) (a1.trans ((dp_A c5 hq.1).trans a2.symm)) (Or.inl j35) rfl rfl rfl, j2.ps.b⟩
  · have q1 := s_hdropBad (g := g) (I := I) iH.hn c3 ra hq
    have l1 := lw_drop_1 (o := x + 105) h0 q1
    have q2 := s_dropBad (g := gexc g) (I := I) (m := x + 86) (isM_e (g := g) rfl iM) eb ra (by omega)
    rw [ha] at l1 q2
    obtain ⟨p6, p7, p8, e⟩ := lt_drop (g := g) (g1 := gexc g) (g2 := gexc g) (v := 1) (od := x + 106) (o6 := o6) (o7 := o7) (o8 := o8) iS hii m0 i105 rfl rfl rfl l1 q2 (by decide) upd2_at (fun z => absurd z (by decide))
    exact ⟨p6, p7, p8, gexc g, _, e, lawI_7 rfl rfl rfl hx hs h', budg_e⟩
end CG
