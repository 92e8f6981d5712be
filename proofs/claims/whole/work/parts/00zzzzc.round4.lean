/-! Rounds of questions of notes. -/
section RD4
variable {s x N : Nat} {S : Int → Int} {g : Gm} {I J : Mm} {i : Int} {o6 o7 o8 : Option Value}
theorem nt_iff {m : Nat} {a b : Int} (h : Agr (pv I (x + 1)) (mv I m)) : ((0 ≤ a ∧ a < I (x + 1) 1) ∧ 0 ≤ b ∧ b < I (x + 1 + 2) a) ↔ ((0 ≤ a ∧ a < I (m + 1) 0) ∧ 0 ≤ b ∧ b < I (m + 1) (42 + 8 * a)) := by
  have e : I (x + 1) 1 = I (m + 1) 0 := h.2.1
  have z : 0 ≤ a → a < I (x + 1) 1 → I (x + 1 + 2) a = I (m + 1) (42 + 8 * a) := fun a0 a1 => (h.2.2.1 a a0 a1).1
  constructor
  · rintro ⟨⟨a0, a1⟩, b0, b1⟩
    have := z a0 a1
    exact ⟨⟨a0, by omega⟩, b0, by omega⟩
  · rintro ⟨⟨a0, a1⟩, b0, b1⟩
    have := z a0 (by omega)
    exact ⟨⟨a0, by omega⟩, b0, by omega⟩
theorem rd_finger (hx : 64 ≤ x) (hs : s < x) (hi : 0 ≤ i ∧ i + 6 ≤ N) (hN : (N : Int) < 2147483648) (hS : ∀ j, (-2147483648 ≤ S j ∧ S j < 2147483648)) (h : lawI s x S N g I) : rndL s x N S 80 i o6 o7 o8 g I := by
  have h' := h
  obtain ⟨iH, iM, i105, i106, ⟨iS, iN, iI'⟩, ⟨c1, c2, c3, c4, c5, c6⟩, c7, _, _, _⟩ := h
  have hii : 0 ≤ i ∧ i + 6 ≤ gn g s ∧ (gn g s : Int) < 2147483648 := by rw [iN]; omega
  have hWm : Wf (mv I (x + 86)) := c4.agr c5
  obtain ⟨a, ha⟩ : ∃ a, a = I s (i + 1) := ⟨_, rfl⟩
  have ra : (-2147483648 ≤ a ∧ a < 2147483648) := by rw [ha, iI']; exact hS _
  obtain ⟨b, hb⟩ : ∃ b, b = I s (i + 2) := ⟨_, rfl⟩
  have rb : (-2147483648 ≤ b ∧ b < 2147483648) := by rw [hb, iI']; exact hS _
  by_cases hq : (0 ≤ a ∧ a < I (x + 1) 1) ∧ 0 ≤ b ∧ b < I (x + 1 + 2) a
  · have hqm := (nt_iff c5).mp hq
    by_cases hz : lsS (pv I (x + 1)) 0 = -1
    · obtain ⟨J, j1, j2, j3⟩ := s_hfingerNo (e := a) (k := b) iH.hn iH.2.2.2.1 c3 c7 hq.1 hq.2 hz
      have jm : mv J (x + 86) = mv I (x + 86) := by unfold mv; rw [j2 (x + 86 + 1) (by omega)]
      obtain ⟨K, L, k1, k2, k3⟩ := s_fingerNo (g := gexc g) (I := J) (L := g.2.1) (e := a) (k := b) (isM_e (g := g) rfl iM) hWm jm.symm hqm.1 hqm.2 (by rw [← ls_A c5 c4]; exact hz)
      have l1 := lw_finger_2 (o := x + 105) iH.1 j1
      rw [ha, hb] at l1 k1
      obtain ⟨p6, p7, p8, e⟩ := lt_finger (g := g) (g1 := gexc g) (g2 := gL (gexc g) L) (v := 2) (I := I) (od := x + 106) (o6 := o6) (o7 := o7) (o8 := o8) iS hii iM.1 i105 rfl rfl (j2 s (by omega)) l1 k1 (by decide) k2.2.2 (fun z => absurd z (by decide))
      exact ⟨p6, p7, p8, gL (gexc g) L, K, e, lawI_keep (g' := gL (gexc g) L) rfl rfl rfl ((kp_P hx hs j2).trans (kp_Q hx hs k2)) (plOk_Q j2 j3 k2) hx h', by show g.2.2.2.2.2.1 + 1 ≤ _; omega, by show g.2.2.2.2.2.2 + 6 ≤ _; omega⟩
    · obtain ⟨J, j1, j2, j3⟩ := s_hfinger (e := a) (k := b) iH.hn iH.2.2.2.1 c3 c7 hq.1 hq.2 hz
      have jm : mv J (x + 86) = mv I (x + 86) := by unfold mv; rw [j2 (x + 86 + 1) (by omega)]
      obtain ⟨v, hv⟩ : ∃ v, v = fgP (pv I (x + 1)) a (fsS (pv I (x + 1)) a) b := ⟨_, rfl⟩
      rw [← hv] at j1
      have l1 := lw_finger (o := x + 105) iH.1 i105.1 i105.2 j1
      obtain ⟨K, L, k1, k2, k3⟩ := s_fingerM (g := g) (I := J) (e := a) (k := b) (L := upd2 g.2.1 (x + 105) 0 (iI v).toInt) iM hWm jm.symm hqm.1 hqm.2 (by rw [← ls_A c5 c4]; exact hz)
      rw [← fg2_A c5 c4 hq.1.1 hq.1.2, ← hv] at k1
      have kl : L (x + 105) 0 = (iI v).toInt := by rw [k3 (x + 105) (by omega) (by omega), upd2_at]
      rw [ha, hb] at l1 k1
      obtain ⟨p6, p7, p8, e⟩ := lt_finger (g := g) (g1 := gL g (upd2 g.2.1 (x + 105) 0 (iI v).toInt)) (g2 := gL g L) (I := I) (od := x + 106) (o6 := o6) (o7 := o7) (o8 := o8) iS hii iM.1 i105 rfl rfl (j2 s (by omega)) l1 k1 (by decide) k2.2.2 (fun _ => kl)
      exact ⟨p6, p7, p8, gL g L, K, e, lawI_keep (g' := gL g L) rfl rfl rfl ((kp_P hx hs j2).trans (kp_Q hx hs k2)) (plOk_Q j2 j3 k2) hx h', budg_L⟩
  · have hqm : ¬ ((0 ≤ a ∧ a < I (x + 86 + 1) 0) ∧ 0 ≤ b ∧ b < I (x + 86 + 1) (42 + 8 * a)) := fun z => hq ((nt_iff c5).mpr z)
    have q1 := s_hfingerBad (g := g) (I := I) (x := x) iH.hn c3 ra rb hq
    have l1 := lw_finger_1 (o := x + 105) iH.1 q1
    have q2 := s_fingerBad (g := gexc g) (I := I) (m := x + 86) (isM_e (g := g) rfl iM) hWm ra rb hqm
    rw [ha, hb] at l1 q2
    obtain ⟨p6, p7, p8, e⟩ := lt_finger (g := g) (g1 := gexc g) (g2 := gexc g) (v := 1) (od := x + 106) (o6 := o6) (o7 := o7) (o8 := o8) iS hii iM.1 i105 rfl rfl rfl l1 q2 (by decide) upd2_at (fun z => absurd z (by decide))
    exact ⟨p6, p7, p8, gexc g, _, e, lawI_7 rfl rfl rfl hx hs h', budg_e⟩
theorem rd_costWith (hx : 64 ≤ x) (hs : s < x) (hi : 0 ≤ i ∧ i + 6 ≤ N) (hN : (N : Int) < 2147483648) (hS : ∀ j, (-2147483648 ≤ S j ∧ S j < 2147483648)) (h : lawI s x S N g I) : rndL s x N S 108 i o6 o7 o8 g I := by
  have h' := h
  obtain ⟨iH, iM, i105, i106, ⟨iS, iN, iI'⟩, ⟨c1, c2, c3, c4, c5, c6⟩, c7, _, _, _⟩ := h
  have hii : 0 ≤ i ∧ i + 6 ≤ gn g s ∧ (gn g s : Int) < 2147483648 := by rw [iN]; omega
  have hWm : Wf (mv I (x + 86)) := c4.agr c5
  obtain ⟨a, ha⟩ : ∃ a, a = I s (i + 1) := ⟨_, rfl⟩
  have ra : (-2147483648 ≤ a ∧ a < 2147483648) := by rw [ha, iI']; exact hS _
  obtain ⟨b, hb⟩ : ∃ b, b = I s (i + 2) := ⟨_, rfl⟩
  have rb : (-2147483648 ≤ b ∧ b < 2147483648) := by rw [hb, iI']; exact hS _
  obtain ⟨c, hc⟩ : ∃ c, c = I s (i + 3) := ⟨_, rfl⟩
  have rc : (-2147483648 ≤ c ∧ c < 2147483648) := by rw [hc, iI']; exact hS _
  by_cases hq : ((0 ≤ a ∧ a < I (x + 1) 1) ∧ 0 ≤ b ∧ b < I (x + 1 + 2) a) ∧ 1 ≤ c ∧ c ≤ 5
  · have hqm := (nt_iff c5).mp hq.1
    obtain ⟨J, j1, j2, j3⟩ := s_hcostWith (e := a) (k := b) (f := c) iH.hn iH.2.2.2.1 c3 c7 hq.1.1 hq.1.2 hq.2
    have jm : mv J (x + 86) = mv I (x + 86) := by unfold mv; rw [j2 (x + 86 + 1) (by omega)]
    obtain ⟨v, hv⟩ : ∃ v, v = lwS (pv I (x + 1)) a b c := ⟨_, rfl⟩
    rw [← hv] at j1
    have l1 := lw_costWith (o := x + 105) iH.1 i105.1 i105.2 j1
    obtain ⟨K, L, k1, k2, k3⟩ := s_costWithM (g := g) (I := J) (e := a) (k := b) (f := c) (L := upd2 g.2.1 (x + 105) 0 (iI v).toInt) iM hWm jm.symm hqm.1 hqm.2 hq.2
    rw [← lw_A c5 c4 hq.1.1.1 hq.1.1.2, ← hv] at k1
    have kl : L (x + 105) 0 = (iI v).toInt := by rw [k3 (x + 105) (by omega) (by omega), upd2_at]
    rw [ha, hb, hc] at l1 k1
    obtain ⟨p6, p7, p8, e⟩ := lt_costWith (g := g) (g1 := gL g (upd2 g.2.1 (x + 105) 0 (iI v).toInt)) (g2 := gL g L) (I := I) (od := x + 106) (o6 := o6) (o7 := o7) (o8 := o8) iS hii iM.1 i105 rfl rfl (j2 s (by omega)) l1 k1 (by decide) k2.2.2 (fun _ => kl)
    exact ⟨p6, p7, p8, gL g L, K, e, lawI_keep (g' := gL g L) rfl rfl rfl ((kp_P hx hs j2).trans (kp_Q hx hs k2)) (plOk_Q j2 j3 k2) hx h', budg_L⟩
  · have hqm : ¬ (((0 ≤ a ∧ a < I (x + 86 + 1) 0) ∧ 0 ≤ b ∧ b < I (x + 86 + 1) (42 + 8 * a)) ∧ 1 ≤ c ∧ c ≤ 5) := fun z => hq ⟨(nt_iff c5).mpr z.1, z.2⟩
    have q1 := s_hcostWithBad (g := g) (I := I) (x := x) iH.hn c3 ra rb rc hq
    have l1 := lw_costWith_1 (o := x + 105) iH.1 q1
    have q2 := s_costWithBad (g := gexc g) (I := I) (m := x + 86) (isM_e (g := g) rfl iM) hWm ra rb rc hqm
    rw [ha, hb, hc] at l1 q2
    obtain ⟨p6, p7, p8, e⟩ := lt_costWith (g := g) (g1 := gexc g) (g2 := gexc g) (v := 1) (od := x + 106) (o6 := o6) (o7 := o7) (o8 := o8) iS hii iM.1 i105 rfl rfl rfl l1 q2 (by decide) upd2_at (fun z => absurd z (by decide))
    exact ⟨p6, p7, p8, gexc g, _, e, lawI_7 rfl rfl rfl hx hs h', budg_e⟩
end RD4
