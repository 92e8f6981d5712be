/-! The round of part. -/
section RD7
variable {s x N : Nat} {S : Int → Int} {g : Gm} {I J : Mm} {i : Int} {o6 o7 o8 : Option Value}
theorem rd_part (hx : 64 ≤ x) (hs : s < x) (hi : 0 ≤ i ∧ i + 6 ≤ N) (hN : (N : Int) < 2147483648) (hS : ∀ j, (-2147483648 ≤ S j ∧ S j < 2147483648)) (h : lawI s x S N g I) : rndL s x N S 89 i o6 o7 o8 g I := by
  have h' := h
  obtain ⟨iH, iM, i105, i106, ⟨iS, iN, iI'⟩, ⟨c1, c2, c3, c4, c5, c6⟩, c7, _, _, _⟩ := h
  have hii : 0 ≤ i ∧ i + 6 ≤ gn g s ∧ (gn g s : Int) < 2147483648 := by rw [iN]; omega
  have hWm : Wf (mv I (x + 86)) := c4.agr c5
  have eE : I (x + 1) 1 = I (x + 86 + 1) 0 := c5.2.1
  have eb : 0 ≤ I (x + 86 + 1) 0 ∧ I (x + 86 + 1) 0 ≤ 40 := hWm.2.1
  obtain ⟨a, ha⟩ : ∃ a, a = I s (i + 1) := ⟨_, rfl⟩
  have ra : (-2147483648 ≤ a ∧ a < 2147483648) := by rw [ha, iI']; exact hS _
  obtain ⟨b, hb⟩ : ∃ b, b = I s (i + 2) := ⟨_, rfl⟩
  have rb : (-2147483648 ≤ b ∧ b < 2147483648) := by rw [hb, iI']; exact hS _
  by_cases hq : 0 ≤ a ∧ a < I (x + 1) 1
  · have hqm : 0 ≤ a ∧ a < I (x + 86 + 1) 0 := by omega
    by_cases hw : 0 ≤ b ∧ b ≤ 2
    · by_cases hz : lsS (pv I (x + 1)) 0 = -1
      · obtain ⟨J, j1, j2, j3⟩ := s_hpartNo (e := a) (w := b) iH.hn iH.2.2.2.1 c3 c7 hq hw hz
        have jm : mv J (x + 86) = mv I (x + 86) := by unfold mv; rw [j2 (x + 86 + 1) (by omega)]
        obtain ⟨K, L, k1, k2, k3⟩ := s_partNo (g := gexc g) (I := J) (L := g.2.1) (e := a) (w := b) (isM_e (g := g) rfl iM) hWm jm.symm hqm hw (by rw [← ls_A c5 c4]; exact hz)
        have l1 := lw_part_3 (o := x + 105) iH.1 j1
        rw [ha, hb] at l1 k1
        obtain ⟨p6, p7, p8, e⟩ := lt_part (g := g) (g1 := gexc g) (g2 := gL (gexc g) L) (v := 3) (I := I) (od := x + 106) (o6 := o6) (o7 := o7) (o8 := o8) iS hii iM.1 i105 rfl rfl (j2 s (by omega)) l1 k1 (by decide) k2.2.2 (fun z => absurd z (by decide))
        exact ⟨p6, p7, p8, gL (gexc g) L, K, e, lawI_keep (g' := gL (gexc g) L) rfl rfl rfl ((kp_P hx hs j2).trans (kp_Q hx hs k2)) (plOk_Q j2 j3 k2) hx h', by show g.2.2.2.2.2.1 + 1 ≤ _; omega, by show g.2.2.2.2.2.2 + 6 ≤ _; omega⟩
      · obtain ⟨J, j1, j2, j3⟩ := s_hpart (e := a) (w := b) iH.hn iH.2.2.2.1 c3 c7 hq hw hz
        have jm : mv J (x + 86) = mv I (x + 86) := by unfold mv; rw [j2 (x + 86 + 1) (by omega)]
        obtain ⟨v, hv⟩ : ∃ v, v = ptS (pv I (x + 1)) a b := ⟨_, rfl⟩
        rw [← hv] at j1
        have l1 := lw_part (o := x + 105) iH.1 i105.1 i105.2 j1
        obtain ⟨K, L, k1, k2, k3⟩ := s_partM (g := g) (I := J) (e := a) (w := b) (L := upd2 g.2.1 (x + 105) 0 (iI v).toInt) iM hWm jm.symm hqm hw (by rw [← ls_A c5 c4]; exact hz)
        rw [← pt_A c5 c4 hq.1 hq.2, ← hv] at k1
        have kl : L (x + 105) 0 = (iI v).toInt := by rw [k3 (x + 105) (by omega) (by omega), upd2_at]
        rw [ha, hb] at l1 k1
        obtain ⟨p6, p7, p8, e⟩ := lt_part (g := g) (g1 := gL g (upd2 g.2.1 (x + 105) 0 (iI v).toInt)) (g2 := gL g L) (I := I) (od := x + 106) (o6 := o6) (o7 := o7) (o8 := o8) iS hii iM.1 i105 rfl rfl (j2 s (by omega)) l1 k1 (by decide) k2.2.2 (fun _ => kl)
        exact ⟨p6, p7, p8, gL g L, K, e, lawI_keep (g' := gL g L) rfl rfl rfl ((kp_P hx hs j2).trans (kp_Q hx hs k2)) (plOk_Q j2 j3 k2) hx h', budg_L⟩
    · have q1 := s_hpartBadW (g := g) (I := I) (x := x) iH.hn c3 hq rb hw
      have l1 := lw_part_2 (o := x + 105) iH.1 q1
      have q2 := s_partBadW (g := gexc g) (I := I) (m := x + 86) (isM_e (g := g) rfl iM) eb hqm rb hw
      rw [ha, hb] at l1 q2
      obtain ⟨p6, p7, p8, e⟩ := lt_part (g := g) (g1 := gexc g) (g2 := gexc g) (v := 2) (od := x + 106) (o6 := o6) (o7 := o7) (o8 := o8) iS hii iM.1 i105 rfl rfl rfl l1 q2 (by decide) upd2_at (fun z => absurd z (by decide))
      exact ⟨p6, p7, p8, gexc g, _, e, lawI_7 rfl rfl rfl hx hs h', budg_e⟩
  · have hqm : ¬ (0 ≤ a ∧ a < I (x + 86 + 1) 0) := by omega
    have q1 := s_hpartBad (g := g) (I := I) (x := x) (w := b) iH.hn c3 ra hq
    have l1 := lw_part_1 (o := x + 105) iH.1 q1
    have q2 := s_partBad (g := gexc g) (I := I) (m := x + 86) (w := b) (isM_e (g := g) rfl iM) eb ra hqm
    rw [ha, hb] at l1 q2
    obtain ⟨p6, p7, p8, e⟩ := lt_part (g := g) (g1 := gexc g) (g2 := gexc g) (v := 1) (od := x + 106) (o6 := o6) (o7 := o7) (o8 := o8) iS hii iM.1 i105 rfl rfl rfl l1 q2 (by decide) upd2_at (fun z => absurd z (by decide))
    exact ⟨p6, p7, p8, gexc g, _, e, lawI_7 rfl rfl rfl hx hs h', budg_e⟩
end RD7
