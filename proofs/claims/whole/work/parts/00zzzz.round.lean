/-! Rounds of the questions that leave no trace. -/
section RQ
variable {s x N : Nat} {S : Int → Int} {g : Gm} {I : Mm} {i : Int} {o6 o7 o8 : Option Value}
theorem rd_weight (hx : 64 ≤ x) (hs : s < x) (hi : 0 ≤ i ∧ i + 6 ≤ N) (hN : (N : Int) < 2147483648) (hS : ∀ j, (-2147483648 ≤ S j ∧ S j < 2147483648)) (h : lawI s x S N g I) : rndL s x N S 49 i o6 o7 o8 g I := by
  have h' := h
  obtain ⟨iH, iM, i105, i106, ⟨iS, iN, iI'⟩, ⟨c1, c2, c3, c4, c5, c6⟩, _, _, _, _⟩ := h
  have h0 := iH.1
  have m0 := iM.1
  have hii : 0 ≤ i ∧ i + 6 ≤ gn g s ∧ (gn g s : Int) < 2147483648 := by rw [iN]; omega
  have hWm : Wf (mv I (x + 86)) := c4.agr c5
  obtain ⟨a, ha⟩ : ∃ a, a = I s (i + 1) := ⟨_, rfl⟩
  have ra : (-2147483648 ≤ a ∧ a < 2147483648) := by rw [ha, iI']; exact hS _
  by_cases hq : 0 ≤ a ∧ a ≤ 9
  · have q1 := s_hweight (g := g) (I := I) iH.hn hq
    have l1 := lw_weight (o := x + 105) h0 i105.1 i105.2 q1
    obtain ⟨g1, hg1⟩ : ∃ g1, g1 = gL g (upd2 g.2.1 (x + 105) 0 (iI (pW (pv I (x + 1)) a)).toInt) := ⟨_, rfl⟩
    rw [← hg1] at l1
    have e1 : g1.1 = g.1 := by rw [hg1]; rfl
    have q2 := s_weightM (g := g1) (I := I) (m := x + 86) (isM_e e1 iM) hq
    have eq := c5.2.2.2.1 a hq.1 (by omega)
    rw [← eq] at q2
    rw [ha] at l1 q2
    obtain ⟨p6, p7, p8, e⟩ := lt_weight (od := x + 106) (o6 := o6) (o7 := o7) (o8 := o8) iS hii m0 i105 e1 e1 rfl l1 q2 (by decide) upd2_at (fun _ => by
      rw [hg1]
      show upd2 g.2.1 (x + 105) 0 _ (x + 105) 0 = _
      rw [upd2_at, ha])
    exact ⟨p6, p7, p8, g1, _, e, lawI_7 e1 (by rw [hg1]; rfl) (by rw [hg1]; rfl) hx hs h', by rw [hg1]; exact budg_L⟩
  · have q1 := s_hweightBad (g := g) (I := I) iH.hn ra hq
    have l1 := lw_weight_1 (o := x + 105) h0 q1
    have q2 := s_weightBad (g := gexc g) (I := I) (m := x + 86) (isM_e (g := g) rfl iM) ra hq
    rw [ha] at l1 q2
    obtain ⟨p6, p7, p8, e⟩ := lt_weight (g := g) (g1 := gexc g) (g2 := gexc g) (v := 1) (od := x + 106) (o6 := o6) (o7 := o7) (o8 := o8) iS hii m0 i105 rfl rfl rfl l1 q2 (by decide) upd2_at (fun z => absurd z (by decide))
    exact ⟨p6, p7, p8, gexc g, _, e, lawI_7 rfl rfl rfl hx hs h', budg_e⟩
theorem rd_span (hx : 64 ≤ x) (hs : s < x) (hi : 0 ≤ i ∧ i + 6 ≤ N) (hN : (N : Int) < 2147483648) (hS : ∀ j, (-2147483648 ≤ S j ∧ S j < 2147483648)) (h : lawI s x S N g I) : rndL s x N S 58 i o6 o7 o8 g I := by
  have h' := h
  obtain ⟨iH, iM, i105, i106, ⟨iS, iN, iI'⟩, ⟨c1, c2, c3, c4, c5, c6⟩, _, _, _, _⟩ := h
  have h0 := iH.1
  have m0 := iM.1
  have hii : 0 ≤ i ∧ i + 6 ≤ gn g s ∧ (gn g s : Int) < 2147483648 := by rw [iN]; omega
  have hWm : Wf (mv I (x + 86)) := c4.agr c5
  obtain ⟨a, ha⟩ : ∃ a, a = I s (i + 1) := ⟨_, rfl⟩
  have ra : (-2147483648 ≤ a ∧ a < 2147483648) := by rw [ha, iI']; exact hS _
  obtain ⟨b, hb⟩ : ∃ b, b = I s (i + 2) := ⟨_, rfl⟩
  have rb : (-2147483648 ≤ b ∧ b < 2147483648) := by rw [hb, iI']; exact hS _
  obtain ⟨c, hc⟩ : ∃ c, c = I s (i + 3) := ⟨_, rfl⟩
  have rc : (-2147483648 ≤ c ∧ c < 2147483648) := by rw [hc, iI']; exact hS _
  by_cases hq : (1 ≤ a ∧ a ≤ 5) ∧ 1 ≤ b ∧ b ≤ 5
  · obtain ⟨ba, bb⟩ := hq
    by_cases hw : a = b ∨ ¬ (0 ≤ c ∧ c ≤ 2)
    · have q1 := s_hspanBadW (g := g) (I := I) iH.hn ba bb rc hw
      have l1 := lw_span_2 (o := x + 105) h0 q1
      have q2 := s_spanBadW (g := gexc g) (I := I) (m := x + 86) (isM_e (g := g) rfl iM) ba bb rc hw
      rw [ha, hb, hc] at l1 q2
      obtain ⟨p6, p7, p8, e⟩ := lt_span (g := g) (g1 := gexc g) (g2 := gexc g) (v := 2) (od := x + 106) (o6 := o6) (o7 := o7) (o8 := o8) iS hii m0 i105 rfl rfl rfl l1 q2 (by decide) upd2_at (fun z => absurd z (by decide))
      exact ⟨p6, p7, p8, gexc g, _, e, lawI_7 rfl rfl rfl hx hs h', budg_e⟩
    · have n1 : ¬ a = b := fun z => hw (Or.inl z)
      have n2 : 0 ≤ c ∧ c ≤ 2 := Classical.byContradiction fun z => hw (Or.inr z)
      have q1 := s_hspan (g := g) (I := I) iH.hn ba bb n1 n2
      have l1 := lw_span (o := x + 105) h0 i105.1 i105.2 q1
      obtain ⟨g1, hg1⟩ : ∃ g1, g1 = gL g (upd2 g.2.1 (x + 105) 0 (iI (spS (pv I (x + 1)) a b c)).toInt) := ⟨_, rfl⟩
      rw [← hg1] at l1
      have e1 : g1.1 = g.1 := by rw [hg1]; rfl
      have q2 := s_spanM (g := g1) (I := I) (m := x + 86) (isM_e e1 iM) ba bb n1 n2
      have eq := sp_A (w := c) c5 ba bb n1
      rw [← eq] at q2
      rw [ha, hb, hc] at l1 q2
      obtain ⟨p6, p7, p8, e⟩ := lt_span (od := x + 106) (o6 := o6) (o7 := o7) (o8 := o8) iS hii m0 i105 e1 e1 rfl l1 q2 (by decide) upd2_at (fun _ => by
        rw [hg1]
        show upd2 g.2.1 (x + 105) 0 _ (x + 105) 0 = _
        rw [upd2_at, ha, hb, hc])
      exact ⟨p6, p7, p8, g1, _, e, lawI_7 e1 (by rw [hg1]; rfl) (by rw [hg1]; rfl) hx hs h', by rw [hg1]; exact budg_L⟩
  · have q1 := s_hspanBadF (g := g) (I := I) (w := c) iH.hn ra rb hq
    have l1 := lw_span_1 (o := x + 105) h0 q1
    have q2 := s_spanBadF (g := gexc g) (I := I) (m := x + 86) (isM_e (g := g) rfl iM) (w := c) ra rb hq
    rw [ha, hb, hc] at l1 q2
    obtain ⟨p6, p7, p8, e⟩ := lt_span (g := g) (g1 := gexc g) (g2 := gexc g) (v := 1) (od := x + 106) (o6 := o6) (o7 := o7) (o8 := o8) iS hii m0 i105 rfl rfl rfl l1 q2 (by decide) upd2_at (fun z => absurd z (by decide))
    exact ⟨p6, p7, p8, gexc g, _, e, lawI_7 rfl rfl rfl hx hs h', budg_e⟩
theorem rd_link (hx : 64 ≤ x) (hs : s < x) (hi : 0 ≤ i ∧ i + 6 ≤ N) (hN : (N : Int) < 2147483648) (hS : ∀ j, (-2147483648 ≤ S j ∧ S j < 2147483648)) (h : lawI s x S N g I) : rndL s x N S 67 i o6 o7 o8 g I := by
  have h' := h
  obtain ⟨iH, iM, i105, i106, ⟨iS, iN, iI'⟩, ⟨c1, c2, c3, c4, c5, c6⟩, _, _, _, _⟩ := h
  have h0 := iH.1
  have m0 := iM.1
  have hii : 0 ≤ i ∧ i + 6 ≤ gn g s ∧ (gn g s : Int) < 2147483648 := by rw [iN]; omega
  have hWm : Wf (mv I (x + 86)) := c4.agr c5
  obtain ⟨a, ha⟩ : ∃ a, a = I s (i + 1) := ⟨_, rfl⟩
  have ra : (-2147483648 ≤ a ∧ a < 2147483648) := by rw [ha, iI']; exact hS _
  obtain ⟨b, hb⟩ : ∃ b, b = I s (i + 2) := ⟨_, rfl⟩
  have rb : (-2147483648 ≤ b ∧ b < 2147483648) := by rw [hb, iI']; exact hS _
  obtain ⟨c, hc⟩ : ∃ c, c = I s (i + 3) := ⟨_, rfl⟩
  have rc : (-2147483648 ≤ c ∧ c < 2147483648) := by rw [hc, iI']; exact hS _
  obtain ⟨d, hd⟩ : ∃ d, d = I s (i + 4) := ⟨_, rfl⟩
  have rd : (-2147483648 ≤ d ∧ d < 2147483648) := by rw [hd, iI']; exact hS _
  by_cases hq : (1 ≤ a ∧ a ≤ 5) ∧ 1 ≤ c ∧ c ≤ 5
  · obtain ⟨ba, bb⟩ := hq
    by_cases hw : (21 ≤ b ∧ b ≤ 108) ∧ 21 ≤ d ∧ d ≤ 108
    · have q1 := s_hlink (g := g) (I := I) iH.hn c3 ba bb hw.1 hw.2
      have l1 := lw_link (o := x + 105) h0 i105.1 i105.2 q1
      obtain ⟨g1, hg1⟩ : ∃ g1, g1 = gL g (upd2 g.2.1 (x + 105) 0 (iI (linkS (pv I (x + 1)) a b c d)).toInt) := ⟨_, rfl⟩
      rw [← hg1] at l1
      have e1 : g1.1 = g.1 := by rw [hg1]; rfl
      have q2 := s_linkM (g := g1) (I := I) (m := x + 86) (isM_e e1 iM) hWm ba bb hw.1 hw.2
      have eq := link_A (k := b) (k' := d) c5 ba bb
      rw [← eq] at q2
      rw [ha, hb, hc, hd] at l1 q2
      obtain ⟨p6, p7, p8, e⟩ := lt_link (od := x + 106) (o6 := o6) (o7 := o7) (o8 := o8) iS hii m0 i105 e1 e1 rfl l1 q2 (by decide) upd2_at (fun _ => by
        rw [hg1]
        show upd2 g.2.1 (x + 105) 0 _ (x + 105) 0 = _
        rw [upd2_at, ha, hb, hc, hd])
      exact ⟨p6, p7, p8, g1, _, e, lawI_7 e1 (by rw [hg1]; rfl) (by rw [hg1]; rfl) hx hs h', by rw [hg1]; exact budg_L⟩
    · have q1 := s_hlinkBadK (g := g) (I := I) iH.hn ba bb rb rd hw
      have l1 := lw_link_2 (o := x + 105) h0 q1
      have q2 := s_linkBadK (g := gexc g) (I := I) (m := x + 86) (isM_e (g := g) rfl iM) ba bb rb rd hw
      rw [ha, hb, hc, hd] at l1 q2
      obtain ⟨p6, p7, p8, e⟩ := lt_link (g := g) (g1 := gexc g) (g2 := gexc g) (v := 2) (od := x + 106) (o6 := o6) (o7 := o7) (o8 := o8) iS hii m0 i105 rfl rfl rfl l1 q2 (by decide) upd2_at (fun z => absurd z (by decide))
      exact ⟨p6, p7, p8, gexc g, _, e, lawI_7 rfl rfl rfl hx hs h', budg_e⟩
  · have q1 := s_hlinkBadF (g := g) (I := I) (k := b) (l := d) iH.hn ra rc hq
    have l1 := lw_link_1 (o := x + 105) h0 q1
    have q2 := s_linkBadF (k := b) (l := d) (g := gexc g) (I := I) (m := x + 86) (isM_e (g := g) rfl iM) ra rc hq
    rw [ha, hb, hc, hd] at l1 q2
    obtain ⟨p6, p7, p8, e⟩ := lt_link (g := g) (g1 := gexc g) (g2 := gexc g) (v := 1) (od := x + 106) (o6 := o6) (o7 := o7) (o8 := o8) iS hii m0 i105 rfl rfl rfl l1 q2 (by decide) upd2_at (fun z => absurd z (by decide))
    exact ⟨p6, p7, p8, gexc g, _, e, lawI_7 rfl rfl rfl hx hs h', budg_e⟩
end RQ
