/-! Rounds of undo, save, restore, load, writeFingers. -/
section CI
variable {s x N : Nat} {S : Int → Int} {g g' : Gm} {I I1 I2 J K : Mm} {A : Nat} {i : Int} {o6 o7 o8 : Option Value}
/-- a piece of the shelves as class and reference see it -/
theorem rw_A {F G : Int → Int} {P : PT} (h : Agr P (rv F)) (hW : Wf P) (e : ∀ i, 0 ≤ i → i < 362 → G i = F i) : Agr P (rv G) := h.trans (rv_A e (hW.agr h)).symm
theorem rd_writeFingers (hx : 64 ≤ x) (hs : s < x) (hi : 0 ≤ i ∧ i + 6 ≤ N) (hN : (N : Int) < 2147483648) (hS : ∀ j, (-2147483648 ≤ S j ∧ S j < 2147483648)) (h : lawI s x S N g I) : rndL s x N S 296 i o6 o7 o8 g I := by
  have h' := h
  have hC := law_ch hx h'
  obtain ⟨iH, iM, i105, i106, ⟨iS, iN, iI'⟩, ⟨c1, c2, c3, c4, c5, c6⟩, c7, ⟨t1, t2, t3, t4, L0, t5, t6, t7, t8, t9⟩, ⟨⟨u9, u10, u6⟩, u2, u3⟩, hSh⟩ := h
  have h0 := iH.1
  have m0 := iM.1
  have hii : 0 ≤ i ∧ i + 6 ≤ gn g s ∧ (gn g s : Int) < 2147483648 := by rw [iN]; omega
  have hWm : Wf (mv I (x + 86)) := c4.agr c5
  have eE : I (x + 1) 1 = I (x + 86 + 1) 0 := c5.2.1
  have eb : 0 ≤ I (x + 86 + 1) 0 ∧ I (x + 86 + 1) 0 ≤ 40 := hWm.2.1
  by_cases hz : lsS (pv I (x + 1)) 0 = -1
  · obtain ⟨J, j1, j2, j3⟩ := s_hwriteFingersNo iH.hn iH.2.2.2.1 c3 c7 hz
    have jm : mv J (x + 86) = mv I (x + 86) := by unfold mv; rw [j2 (x + 86 + 1) (by omega)]
    obtain ⟨K, L, k1, k2, k3⟩ := s_writeFingersNo (g := gexc g) (I := J) (Lg := g.2.1) (isM_e (g := g) rfl iM) hWm jm.symm (by rw [← ls_A c5 c4]; exact hz)
    have l1 := lw_writeFingers_1 (o := x + 105) h0 j1
    obtain ⟨p6, p7, p8, e⟩ := lt_writeFingers (g := g) (g1 := gexc g) (g2 := gL (gexc g) L) (v := 1) (I := I) (od := x + 106) (o6 := o6) (o7 := o7) (o8 := o8) iS hii m0 i105 rfl rfl (j2 s (by omega)) l1 k1 (by decide) k2.2.2 (fun z => absurd z (by decide))
    exact ⟨p6, p7, p8, gL (gexc g) L, K, e, lawI_keep (g' := gL (gexc g) L) rfl rfl rfl ((kp_P hx hs j2).trans (kp_Q hx hs k2)) (plOk_Q j2 j3 k2) hx h', by show g.2.2.2.2.2.1 + 1 ≤ _; omega, by show g.2.2.2.2.2.2 + 6 ≤ _; omega⟩
  · have hbd := Wf_bd c4
    obtain ⟨I', J, j1, j2, j3, j4, j5, j6, j7⟩ := s_hwriteFingers iH.hn iH.2.2.2.1 ⟨iH.2.2.2.2.2.2.2.1.1, iH.2.2.2.2.2.2.2.1.2.2⟩ c3 c7 hz
    obtain ⟨L, hL⟩ : ∃ L, L = wtS (pv I (x + 1)) (I (x + 1) 1) := ⟨_, rfl⟩
    have eL : wtS (mv I (x + 86)) (pE (mv I (x + 86))) = L := by rw [hL, ← wt_A c5 c4]; rfl
    have hl : L.length ≤ 200 := by
      have z1 := wtS_l hbd (e := pE (pv I (x + 1))) c4.2.1.1 (Int.le_refl _)
      have z2 := c4.2.1.2
      have z3 : wtS (pv I (x + 1)) (pE (pv I (x + 1))) = L := by rw [hL]; rfl
      rw [z3] at z1
      omega
    obtain ⟨v, hv⟩ : ∃ v : Int, v = (L.length : Int) := ⟨_, rfl⟩
    rw [← hL, ← hv] at j1
    rw [← hL] at j4 j5
    have jf : ∀ p, ¬ p = x → ¬ p = x + 81 → p < x + 35 ∨ x + 35 + 18 < p → J p = I p := fun p p1 p2 p3 => (j6 p p1 p2).trans (j2 p p3)
    have jm : mv J (x + 86) = mv I (x + 86) := by unfold mv; rw [jf (x + 86 + 1) (by omega) (by omega) (by omega)]
    have l1 := lw_writeFingers (o := x + 105) h0 i105.1 i105.2 j1
    obtain ⟨K, Lr, k1, ⟨K0, k0, k2, k3, k4, k5⟩, kL⟩ := s_writeFingersM (g := g) (I := J) (Lg := upd2 g.2.1 (x + 105) 0 (iI v).toInt) iM hWm jm.symm (by rw [← ls_A c5 c4]; exact hz)
    rw [eL, ← hv] at k1
    rw [eL] at k2 k3
    have kl : Lr (x + 105) 0 = (iI v).toInt := by rw [kL (x + 105) (by omega) (by omega), upd2_at]
    have t07 : K (x + 86) 7 = 0 := by rw [k5 7 (by decide)]; exact k0.2.2
    obtain ⟨p6, p7, p8, e⟩ := lt_writeFingers (g := g) (g1 := gL g (upd2 g.2.1 (x + 105) 0 (iI v).toInt)) (g2 := gL g Lr) (I := I) (od := x + 106) (o6 := o6) (o7 := o7) (o8 := o8) iS hii m0 i105 rfl rfl (jf s (by omega) (by omega) (by omega)) l1 k1 (by decide) t07 (fun _ => kl)
    have kJ : ∀ p, ¬ p = x + 86 → ¬ p = x + 104 → p < x + 94 ∨ x + 100 < p → K p = J p := fun p p1 p2 p3 => (k4 p p1 (by omega)).trans (k0.1 p p1 (by omega))
    have kI : ∀ p, ¬ p = x → ¬ p = x + 81 → p < x + 35 ∨ x + 53 < p → ¬ p = x + 86 → ¬ p = x + 104 → p < x + 94 ∨ x + 100 < p → K p = I p := fun p a1 a2 a3 a4 a5 a6 => (kJ p a4 a5 a6).trans (jf p a1 a2 (by omega))
    have km : ∀ i, ¬ i = 29 → ¬ i = 7 → K (x + 86) i = I (x + 86) i := fun i i0 i7 => by
      rw [k5 i i0, k0.2.1 i i7, jf (x + 86) (by omega) (by omega) (by omega)]
    have kx : ∀ i, ¬ i = 7 → K x i = I x i := fun i i7 => by
      rw [kJ x (by omega) (by omega) (by omega), j7 i i7, j2 x (by omega)]
    have kS : plOk x K := plOk_c (I := I') (fun p p0 p1 => (kJ p (by omega) (by omega) (by omega)).trans (j6 p (by omega) (by omega))) (plOk_S j2 j3)
    have hA : ∀ q, x + 107 ≤ q → K q = I q := fun q q0 => kI q (by omega) (by omega) (by omega) (by omega) (by omega) (by omega)
    have s1 := hSh.1
    have pA : ∀ B, x + 107 ≤ B → pv K B = pv I B := fun B b => pv_c (fun p p0 p1 => hA p (by omega))
    refine ⟨p6, p7, p8, gL g Lr, K, e, lawI_new (g2 := gL g Lr) h' rfl (fun p z => kI p (by omega) (by omega) (by omega) (by omega) (by omega) (by omega)) (pB_c (fun p z1 z2 => kI p (by omega) (by omega) (by omega) (by omega) (by omega) (by omega)) c6) (pB_c (fun p z1 z2 => kI p (by omega) (by omega) (by omega) (by omega) (by omega) (by omega)) c3.1) ?_ ?_ kS ⟨?_, ?_, ?_, ?_, L, ?_, ?_, ?_, ?_, hl⟩ ⟨?_, ?_, ?_⟩ (lvS_g (g := g) rfl rfl rfl hA hSh), budg_L⟩
    · rw [pv_c (fun p z1 z2 => kI p (by omega) (by omega) (by omega) (by omega) (by omega) (by omega))]; exact c4
    · have e : mv K (x + 86) = mv I (x + 86) := by unfold mv; rw [kI (x + 86 + 1) (by omega) (by omega) (by omega) (by omega) (by omega) (by omega)]
      rw [pv_c (fun p z1 z2 => kI p (by omega) (by omega) (by omega) (by omega) (by omega) (by omega)), e]; exact c5
    · rw [kI (x + 77) (by omega) (by omega) (by omega) (by omega) (by omega) (by omega), kI (x + 75) (by omega) (by omega) (by omega) (by omega) (by omega) (by omega)]; exact t1
    · rw [kI (x + 77) (by omega) (by omega) (by omega) (by omega) (by omega) (by omega), kI (x + 93) (by omega) (by omega) (by omega) (by omega) (by omega) (by omega)]; exact t2
    · rw [kI (x + 75) (by omega) (by omega) (by omega) (by omega) (by omega) (by omega), km 9 (by decide) (by decide)]; exact t3
    · rw [kI (x + 75) (by omega) (by omega) (by omega) (by omega) (by omega) (by omega), km 16 (by decide) (by decide)]; exact t4
    · exact hL_c j4 (kJ (x + 81) (by omega) (by omega) (by omega))
    · rw [kJ x (by omega) (by omega) (by omega)]; exact j5
    · exact k2
    · exact k3
    · rw [kx 9 (by decide), kx 10 (by decide), km 6 (by decide) (by decide)]; exact ⟨u9, u10, u6⟩
    · intro j j0 j1
      rw [kx 10 (by decide)] at j1
      rw [kx 9 (by decide)]
      obtain ⟨B, b1, b2, b3⟩ := u2 j j0 j1
      have eB := pA B (s1 _ _ B (Or.inl rfl) b1).2.2.1
      refine ⟨B, b1, ?_, by rw [eB]; exact b3⟩
      rw [eB, kI (x + 90) (by omega) (by omega) (by omega) (by omega) (by omega) (by omega)]; exact b2
    · intro k k0 k1
      rw [kI (x + 92) (by omega) (by omega) (by omega) (by omega) (by omega) (by omega), kI (x + 91) (by omega) (by omega) (by omega) (by omega) (by omega) (by omega)]
      rcases u3 k k0 k1 with z | ⟨B, b1, b2, b3, b4⟩
      · exact Or.inl z
      · have eB := pA B (s1 _ _ B (Or.inr rfl) b1).2.2.1
        exact Or.inr ⟨B, b1, b2, by rw [eB]; exact b3, by rw [eB]; exact b4⟩
theorem rd_undo (hx : 64 ≤ x) (hs : s < x) (hi : 0 ≤ i ∧ i + 6 ≤ N) (hN : (N : Int) < 2147483648) (hS : ∀ j, (-2147483648 ≤ S j ∧ S j < 2147483648)) (h : lawI s x S N g I) : rndL s x N S 272 i o6 o7 o8 g I := by
  have h' := h
  have hC := law_ch hx h'
  obtain ⟨iH, iM, i105, i106, ⟨iS, iN, iI'⟩, ⟨c1, c2, c3, c4, c5, c6⟩, c7, ⟨t1, t2, t3, t4, L0, t5, t6, t7, t8, t9⟩, ⟨⟨u9, u10, u6⟩, u2, u3⟩, hSh⟩ := h
  have h0 := iH.1
  have m0 := iM.1
  have hii : 0 ≤ i ∧ i + 6 ≤ gn g s ∧ (gn g s : Int) < 2147483648 := by rw [iN]; omega
  have hWm : Wf (mv I (x + 86)) := c4.agr c5
  have eE : I (x + 1) 1 = I (x + 86 + 1) 0 := c5.2.1
  have eb : 0 ≤ I (x + 86 + 1) 0 ∧ I (x + 86 + 1) 0 ≤ 40 := hWm.2.1
  by_cases hq : I x 10 = 0
  · have q1 := s_hundoBad (g := g) (I := I) h0 hq
    have l1 := lw_undo_1 (o := x + 105) h0 q1
    have q2 := s_undoBad (g := gexc g) (I := I) (m := x + 86) (isM_e (g := g) rfl iM) (by rw [u6]; exact hq)
    obtain ⟨p6, p7, p8, e⟩ := lt_undo (g := g) (g1 := gexc g) (g2 := gexc g) (v := 1) (s := s) (i := i) (od := x + 106) (o6 := o6) (o7 := o7) (o8 := o8) iS hii m0 i105 rfl rfl rfl l1 q2 (by decide) upd2_at (fun z => absurd z (by decide))
    exact ⟨p6, p7, p8, gexc g, _, e, lawI_7 rfl rfl rfl hx hs h', budg_e⟩
  · obtain ⟨A, a1, a2, a3⟩ := u2 (I x 10 - 1) (by omega) (by omega)
    obtain ⟨b1, b2, b3, b4, b5⟩ := hSh.1 _ _ A (Or.inl rfl) a1
    have j1 := s_hundo (g := g) (I := I) (A := A) iH u9 (by omega) a1 b1 (by omega) b2.1
    obtain ⟨J0, hJ0⟩ : ∃ J0, J0 = upd2 I x 10 (I x 10 - 1) := ⟨_, rfl⟩
    obtain ⟨J, hJ⟩ : ∃ J, J = upd2 (cpP J0 (x + 1) A) (x + 35) 0 0 := ⟨_, rfl⟩
    obtain ⟨v, hv⟩ : ∃ v, v = I x 10 - 1 := ⟨_, rfl⟩
    rw [← hJ0, ← hJ, ← hv] at j1
    have e0 : ∀ p, ¬ p = x → J0 p = I p := fun p hp => by rw [hJ0]; exact funext fun j => upd2_p hp
    have eA : pv J0 A = pv I A := pv_c (fun p p0 p1 => e0 p (by omega))
    have bA : pB J0 A := pB_c (fun p p0 p1 => e0 p (by omega)) b2
    have eJ : ∀ p, ¬ p = x + 35 → J p = cpP J0 (x + 1) A p := fun p hp => by rw [hJ]; exact funext fun j => upd2_p hp
    have jo : ∀ p, ¬ p = x → ¬ p = x + 35 → p < x + 1 ∨ x + 17 < p → J p = I p := fun p p0 p1 p2 => by
      rw [eJ p p1, ← e0 p p0]; exact funext fun j => cp_o (by omega)
    have jx : J x = J0 x := by rw [eJ x (by omega)]; exact funext fun j => cp_o (by omega)
    have jB : pB J (x + 1) := pB_c (I := cpP J0 (x + 1) A) (fun p p0 p1 => eJ p (by omega)) (cp_pB bA (pB_c (fun p p0 p1 => e0 p (by omega)) c3.1))
    have pJ : pv J (x + 1) = pv (cpP J0 (x + 1) A) (x + 1) := pv_c (fun p p0 p1 => eJ p (by omega))
    have aJ : Agr (pv J (x + 1)) (pv I A) := by rw [pJ, ← eA]; exact cp_Agr bA
    have l1 := lw_undo (o := x + 105) h0 i105.1 i105.2 j1
    have j86 : J (x + 86) = I (x + 86) := jo _ (by omega) (by omega) (by omega)
    have j90 : J (x + 86 + 4) = I (x + 90) := jo _ (by omega) (by omega) (by omega)
    obtain ⟨K, k1, k2, k3, k4, k5, k6⟩ := s_undoM (g := gL g (upd2 g.2.1 (x + 105) 0 (iI v).toInt)) (I := J) (m := x + 86) (isM_e (g := g) rfl iM) (by rw [j86, u6]; omega)
    rw [j86, u6] at k4 k6
    rw [j86, u6, ← hv] at k1
    rw [j90] at k6
    obtain ⟨p6, p7, p8, e⟩ := lt_undo (g := g) (g1 := gL g (upd2 g.2.1 (x + 105) 0 (iI v).toInt)) (g2 := gL g (upd2 g.2.1 (x + 105) 0 (iI v).toInt)) (I := I) (s := s) (i := i) (od := x + 106) (o6 := o6) (o7 := o7) (o8 := o8) iS hii m0 i105 rfl rfl (jo s (by omega) (by omega) (by omega)) l1 k1 (by decide) k5 (fun _ => upd2_at)
    have kI : ∀ p, ¬ p = x → ¬ p = x + 35 → p < x + 1 ∨ x + 17 < p → ¬ p = x + 86 → ¬ p = x + 87 → K p = I p := fun p p0 p1 p2 p3 p4 => (k2 p p3 p4).trans (jo p p0 p1 p2)
    have km : ∀ i, ¬ i = 6 → ¬ i = 7 → K (x + 86) i = I (x + 86) i := fun i i6 i7 => by rw [k3 i i6 i7, j86]
    have kx : K x = J0 x := (k2 x (by omega) (by omega)).trans jx
    have x9 : K x 9 = I x 9 := by rw [kx, hJ0]; exact upd2_i (by decide)
    have x10 : K x 10 = I x 10 - 1 := by rw [kx, hJ0]; exact upd2_at
    have x7 : K x 7 = I x 7 := by rw [kx, hJ0]; exact upd2_i (by decide)
    have kP : pv K (x + 1) = pv J (x + 1) := pv_c (fun p p0 p1 => k2 p (by omega) (by omega))
    have hA : ∀ q, x + 107 ≤ q → K q = I q := fun q q0 => kI q (by omega) (by omega) (by omega) (by omega) (by omega)
    have pA : ∀ B, x + 107 ≤ B → pv K B = pv I B := fun B b => pv_c (fun p p0 p1 => hA p (by omega))
    have s1 := hSh.1
    have hWJ : Wf (pv J (x + 1)) := a3.agr aJ.symm
    refine ⟨p6, p7, p8, _, K, e, lawI_new (g2 := gL g _) h' rfl (fun p z => kI p (by omega) (by omega) (by omega) (by omega) (by omega)) (pB_c (fun p z1 z2 => kI p (by omega) (by omega) (by omega) (by omega) (by omega)) c6) (pB_c (fun p z1 z2 => k2 p (by omega) (by omega)) jB) (by rw [kP]; exact hWJ) ?_ (Or.inl ?_) ⟨?_, ?_, ?_, ?_, L0, ?_, ?_, ?_, ?_, t9⟩ ⟨?_, ?_, ?_⟩ (lvS_g (g := g) rfl rfl rfl hA hSh), budg_L⟩
    · rw [kP]
      exact rw_A (aJ.trans a2) hWJ (fun i i0 i1 => k6 i i0 i1)
    · rw [k2 (x + 35) (by omega) (by omega), hJ, upd2_at]
    · rw [kI (x + 77) (by omega) (by omega) (by omega) (by omega) (by omega), kI (x + 75) (by omega) (by omega) (by omega) (by omega) (by omega)]; exact t1
    · rw [kI (x + 77) (by omega) (by omega) (by omega) (by omega) (by omega), kI (x + 93) (by omega) (by omega) (by omega) (by omega) (by omega)]; exact t2
    · rw [kI (x + 75) (by omega) (by omega) (by omega) (by omega) (by omega), km 9 (by decide) (by decide)]; exact t3
    · rw [kI (x + 75) (by omega) (by omega) (by omega) (by omega) (by omega), km 16 (by decide) (by decide)]; exact t4
    · exact hL_c t5 (kI (x + 81) (by omega) (by omega) (by omega) (by omega) (by omega))
    · rw [x7]; exact t6
    · exact hL_c t7 (kI (x + 104) (by omega) (by omega) (by omega) (by omega) (by omega))
    · rw [km 29 (by decide) (by decide)]; exact t8
    · rw [x9, x10, k4]; omega
    · intro j z0 z1
      rw [x10] at z1
      rw [x9]
      obtain ⟨B, y1, y2, y3⟩ := u2 j z0 (by omega)
      have eB := pA B (s1 _ _ B (Or.inl rfl) y1).2.2.1
      refine ⟨B, y1, ?_, by rw [eB]; exact y3⟩
      rw [eB, kI (x + 90) (by omega) (by omega) (by omega) (by omega) (by omega)]; exact y2
    · intro k z0 z1
      rw [kI (x + 92) (by omega) (by omega) (by omega) (by omega) (by omega), kI (x + 91) (by omega) (by omega) (by omega) (by omega) (by omega)]
      rcases u3 k z0 z1 with z | ⟨B, y1, y2, y3, y4⟩
      · exact Or.inl z
      · have eB := pA B (s1 _ _ B (Or.inr rfl) y1).2.2.1
        exact Or.inr ⟨B, y1, y2, by rw [eB]; exact y3, by rw [eB]; exact y4⟩
theorem rd_save (hx : 64 ≤ x) (hs : s < x) (hi : 0 ≤ i ∧ i + 6 ≤ N) (hN : (N : Int) < 2147483648) (hS : ∀ j, (-2147483648 ≤ S j ∧ S j < 2147483648)) (h : lawI s x S N g I) : rndL s x N S 281 i o6 o7 o8 g I := by
  have h' := h
  have hC := law_ch hx h'
  obtain ⟨iH, iM, i105, i106, ⟨iS, iN, iI'⟩, ⟨c1, c2, c3, c4, c5, c6⟩, c7, ⟨t1, t2, t3, t4, L0, t5, t6, t7, t8, t9⟩, ⟨⟨u9, u10, u6⟩, u2, u3⟩, hSh⟩ := h
  have h0 := iH.1
  have m0 := iM.1
  have hii : 0 ≤ i ∧ i + 6 ≤ gn g s ∧ (gn g s : Int) < 2147483648 := by rw [iN]; omega
  have hWm : Wf (mv I (x + 86)) := c4.agr c5
  have eE : I (x + 1) 1 = I (x + 86 + 1) 0 := c5.2.1
  have eb : 0 ≤ I (x + 86 + 1) 0 ∧ I (x + 86 + 1) 0 ≤ 40 := hWm.2.1
  obtain ⟨a, ha⟩ : ∃ a, a = I s (i + 1) := ⟨_, rfl⟩
  have ra : (-2147483648 ≤ a ∧ a < 2147483648) := by rw [ha, iI']; exact hS _
  by_cases hq : 0 ≤ a ∧ a ≤ 1
  · obtain ⟨g', J, A, j1, ⟨j2, j3, j4, j5⟩, j6⟩ := s_hsave iH c3.1 hq (law_rmOk (Or.inr rfl) hx h')
    have hg : putS (x + 85) a.toNat g g' A := j2
    obtain ⟨d1, d2, d3, d4, d5, d6, d7⟩ := hg.d (Or.inr rfl) hSh
    have l1 := lw_save h0 j1
    have e1 : g'.1 = g.1 := hg.e
    have j86 : J (x + 86) = I (x + 86) := j3 _ (by omega)
    have j87 : J (x + 86 + 1) = I (x + 87) := j3 _ (by omega)
    obtain ⟨K, k1, k2, k3, k4, k5, k6, k7, k8⟩ := s_saveM (g := g') (I := J) (m := x + 86) (s := a) (isM_e e1 iM) hq
    rw [ha] at l1 k1
    obtain ⟨p6, p7, p8, e⟩ := lt_save (g := g) (g1 := g') (g2 := g') (I := I) (o := x + 105) (od := x + 106) (o6 := o6) (o7 := o7) (o8 := o8) iS hii m0 e1 e1 (j3 s (by omega)) l1 k1 (by decide) k4
    have kI : ∀ p, ¬ p = x + 86 → ¬ p = x + 91 → ¬ p = x + 92 → p < A ∨ A + 16 < p → K p = I p := fun p p0 p1 p2 p3 => (k2 p p0 p1 p2).trans (j3 p p3)
    have km : ∀ i, ¬ i = 7 → K (x + 86) i = I (x + 86) i := fun i i7 => by rw [k3 i i7, j86]
    have hI : ∀ q, x + 107 ≤ q → (q < A ∨ A + 16 < q) → K q = I q := fun q q0 q1 => kI q (by omega) (by omega) (by omega) q1
    have kA : pv K A = pv J A := pv_c (fun p p0 p1 => k2 p (by omega) (by omega) (by omega))
    have bA : pB K A := pB_c (fun p p0 p1 => k2 p (by omega) (by omega) (by omega)) j5
    have s1 := hSh.1
    have hpv : ∀ p' i' A', (p' = x + 83 ∨ p' = x + 85) → ¬ (p' = x + 85 ∧ i' = a.toNat) → g.2.2.2.1 p' i' = some A' → pv K A' = pv I A' := fun p' i' A' hp' hn hA' => by
      have hd := d7 p' i' A' hp' hn hA'
      have b3 := (s1 p' i' A' hp' hA').2.2.1
      exact pv_c (fun q q0 q1 => hI q (by omega) (by omega))
    refine ⟨p6, p7, p8, g', K, e, lawI_new h' e1 (fun p z => kI p (by omega) (by omega) (by omega) (by omega)) (pB_c (fun p z1 z2 => kI p (by omega) (by omega) (by omega) (by omega)) c6) (pB_c (fun p z1 z2 => kI p (by omega) (by omega) (by omega) (by omega)) c3.1) ?_ ?_ (plOk_c (fun p z1 z2 => kI p (by omega) (by omega) (by omega) (by omega)) c7) ⟨?_, ?_, ?_, ?_, L0, ?_, ?_, ?_, ?_, t9⟩ ⟨?_, ?_, ?_⟩ (lvS_put (Or.inr rfl) hSh hg hI bA), hg.b⟩
    · rw [pv_c (fun p z1 z2 => kI p (by omega) (by omega) (by omega) (by omega))]; exact c4
    · have e : mv K (x + 86) = mv I (x + 86) := by unfold mv; rw [kI (x + 86 + 1) (by omega) (by omega) (by omega) (by omega)]
      rw [pv_c (fun p z1 z2 => kI p (by omega) (by omega) (by omega) (by omega)), e]; exact c5
    · rw [kI (x + 77) (by omega) (by omega) (by omega) (by omega), kI (x + 75) (by omega) (by omega) (by omega) (by omega)]; exact t1
    · rw [kI (x + 77) (by omega) (by omega) (by omega) (by omega), kI (x + 93) (by omega) (by omega) (by omega) (by omega)]; exact t2
    · rw [kI (x + 75) (by omega) (by omega) (by omega) (by omega), km 9 (by decide)]; exact t3
    · rw [kI (x + 75) (by omega) (by omega) (by omega) (by omega), km 16 (by decide)]; exact t4
    · exact hL_c t5 (kI (x + 81) (by omega) (by omega) (by omega) (by omega))
    · rw [kI x (by omega) (by omega) (by omega) (by omega)]; exact t6
    · exact hL_c t7 (kI (x + 104) (by omega) (by omega) (by omega) (by omega))
    · rw [km 29 (by decide)]; exact t8
    · rw [kI x (by omega) (by omega) (by omega) (by omega), km 6 (by decide)]; exact ⟨u9, u10, u6⟩
    · intro j z0 z1
      rw [kI x (by omega) (by omega) (by omega) (by omega)] at z1 ⊢
      obtain ⟨B, y1, y2, y3⟩ := u2 j z0 z1
      have hn : ¬ (x + 83 = x + 85 ∧ ((I x 9 + j) % 8).toNat = a.toNat) := by omega
      have eB := hpv _ _ B (Or.inl rfl) hn y1
      refine ⟨B, by rw [hg.o hn]; exact y1, ?_, by rw [eB]; exact y3⟩
      rw [eB, kI (x + 90) (by omega) (by omega) (by omega) (by omega)]; exact y2
    · intro k z0 z1
      by_cases hk : k = a
      · refine Or.inr ⟨A, by rw [hk]; exact hg.at, by rw [hk]; exact k5, ?_, ?_⟩
        · rw [kA]
          refine rw_A (F := I (x + 87)) (j4.trans c5) (c4.agr j4.symm) (fun i i0 i1 => ?_)
          have z := k7 i i0 i1
          rw [j87] at z
          show K (x + 86 + 5) (362 * k + i) = _
          rw [hk]; exact z
        · rw [kA]; exact c4.agr j4.symm
      · have hn : ¬ (x + 85 = x + 85 ∧ k.toNat = a.toNat) := by omega
        have e92 : K (x + 92) k = I (x + 92) k := (k6 k hk).trans (congrFun (j3 (x + 92) (by omega)) k)
        rw [e92]
        rcases u3 k z0 z1 with ⟨y1, y2⟩ | ⟨B, y1, y2, y3, y4⟩
        · exact Or.inl ⟨by rw [hg.o hn]; exact y1, y2⟩
        · have eB := hpv _ _ B (Or.inr rfl) hn y1
          refine Or.inr ⟨B, by rw [hg.o hn]; exact y1, y2, ?_, by rw [eB]; exact y4⟩
          rw [eB]
          refine rw_A y3 y4 (fun i i0 i1 => ?_)
          have z := k8 k i z0 (by omega) hk i0 i1
          rw [show J (x + 86 + 5) = I (x + 91) from j3 _ (by omega)] at z
          exact z
  · have q1 := s_hsaveBad (g := g) (I := I) h0 ra hq
    have l1 := lw_save_1 h0 q1
    have q2 := s_saveBad (g := gexc g) (I := I) (m := x + 86) (isM_e (g := g) rfl iM) ra hq
    rw [ha] at l1 q2
    obtain ⟨p6, p7, p8, e⟩ := lt_save (g := g) (g1 := gexc g) (g2 := gexc g) (v := 1) (o := x + 105) (od := x + 106) (o6 := o6) (o7 := o7) (o8 := o8) iS hii m0 rfl rfl rfl l1 q2 (by decide) upd2_at
    exact ⟨p6, p7, p8, gexc g, _, e, lawI_7 rfl rfl rfl hx hs h', budg_e⟩
theorem rd_restore (hx : 64 ≤ x) (hs : s < x) (hi : 0 ≤ i ∧ i + 6 ≤ N) (hN : (N : Int) < 2147483648) (hS : ∀ j, (-2147483648 ≤ S j ∧ S j < 2147483648)) (h : lawI s x S N g I) : rndL s x N S 287 i o6 o7 o8 g I := by
  have h' := h
  have hC := law_ch hx h'
  obtain ⟨iH, iM, i105, i106, ⟨iS, iN, iI'⟩, ⟨c1, c2, c3, c4, c5, c6⟩, c7, ⟨t1, t2, t3, t4, L0, t5, t6, t7, t8, t9⟩, ⟨⟨u9, u10, u6⟩, u2, u3⟩, hSh⟩ := h
  have h0 := iH.1
  have m0 := iM.1
  have hii : 0 ≤ i ∧ i + 6 ≤ gn g s ∧ (gn g s : Int) < 2147483648 := by rw [iN]; omega
  have hWm : Wf (mv I (x + 86)) := c4.agr c5
  have eE : I (x + 1) 1 = I (x + 86 + 1) 0 := c5.2.1
  have eb : 0 ≤ I (x + 86 + 1) 0 ∧ I (x + 86 + 1) 0 ≤ 40 := hWm.2.1
  obtain ⟨a, ha⟩ : ∃ a, a = I s (i + 1) := ⟨_, rfl⟩
  have ra : (-2147483648 ≤ a ∧ a < 2147483648) := by rw [ha, iI']; exact hS _
  by_cases hq : 0 ≤ a ∧ a ≤ 1
  · rcases u3 a hq.1 (by omega) with ⟨y1, y2⟩ | ⟨A2, y1, y2, y3, y4⟩
    · have q1 := s_hrestoreNo (g := g) (I := I) iH hq y1
      have l1 := lw_restore_2 (o := x + 105) h0 q1
      have q2 := s_restoreNo (g := gexc g) (I := I) (m := x + 86) (isM_e (g := g) rfl iM) hq y2
      rw [ha] at l1 q2
      obtain ⟨p6, p7, p8, e⟩ := lt_restore (g := g) (g1 := gexc g) (g2 := gexc g) (v := 2) (od := x + 106) (o6 := o6) (o7 := o7) (o8 := o8) iS hii m0 i105 rfl rfl rfl l1 q2 (by decide) upd2_at (fun z => absurd z (by decide))
      exact ⟨p6, p7, p8, gexc g, _, e, lawI_7 rfl rfl rfl hx hs h', budg_e⟩
    · obtain ⟨b1, b2, b3, b4, b5⟩ := hSh.1 _ _ A2 (Or.inr rfl) y1
      obtain ⟨g', I1, A, j1, j2, j3⟩ := s_hrestore (A2 := A2) iH c3.1 u9 u10 (by omega) (law_rmOk (Or.inl rfl) hx h') hq y1 b1 (by omega) b4 b2 (fun A hA => by
        obtain ⟨d1, d2, d3, d4, d5⟩ := hSh.1 _ _ A (Or.inl rfl) hA
        have hne : ¬ A = A2 := fun z => by
          have := (hSh.2.1 _ _ _ _ A2 (Or.inl rfl) (Or.inr rfl) (by rw [← z]; exact hA) y1).1
          omega
        omega)
      obtain ⟨J, hJ⟩ : ∃ J, J = cpP I1 (x + 1) A2 := ⟨_, rfl⟩
      rw [← hJ] at j1
      have dA := (j2.ps.d (Or.inl rfl) hSh).1
      have i1A : ∀ p, A2 ≤ p → p ≤ A2 + 16 → I1 p = I p := fun p p0 p1 => j2.2.2.1 p (by omega) (by omega) (by omega)
      have eA : pv I1 A2 = pv I A2 := pv_c i1A
      have bA : pB I1 A2 := pB_c i1A b2
      have jo : ∀ p, p < x + 1 ∨ (x + 17 < p ∧ p < x + 35) ∨ x + 54 < p → J p = I1 p := fun p hp => by rw [hJ]; exact funext fun j => cp_o (by omega)
      have j35 : J (x + 35) 0 = 0 := by rw [hJ, cp_o (by omega)]; exact j2.2.2.2.2.2.2.1
      have aJ : Agr (pv J (x + 1)) (pv I A2) := by rw [hJ, ← eA]; exact cp_Agr bA
      have bJ : pB J (x + 1) := by rw [hJ]; exact cp_pB bA (j2.pB c3.1)
      obtain ⟨v, hv⟩ : ∃ v, v = I A2 1 := ⟨_, rfl⟩
      rw [← hv] at j1
      have l1 := lw_restore (o := x + 105) h0 (by rw [gt_e j2.e]; exact i105.1) (by rw [gn_e j2.e]; exact i105.2) j1
      have jI := j2.o hSh jo
      have js : J s = I s := jI s (by omega)
      have j86 : J (x + 86) = I (x + 86) := jI _ (by omega)
      have j91 : J (x + 86 + 5) = I (x + 91) := jI _ (by omega)
      have j92 : J (x + 86 + 6) = I (x + 92) := jI _ (by omega)
      obtain ⟨L, hL⟩ : ∃ L, L = upd2 g'.2.1 (x + 105) 0 (iI v).toInt := ⟨_, rfl⟩
      rw [← hL] at l1
      have e1 : (gL g' L).1 = g.1 := j2.e
      have h6 : 0 ≤ J (x + 86) 6 ∧ J (x + 86) 6 ≤ 8 := by rw [j86, u6]; exact u10
      obtain ⟨K, K', k1, k2, k3, k4⟩ := s_restoreM (g := gL g' L) (I := J) (m := x + 86) (s := a) (isM_e e1 iM) hq h6 (by rw [j92]; exact y2)
      have ev : J (x + 86 + 5) (362 * a) = v := by
        have z : I A2 1 = I (x + 91) (362 * a + 0) := y3.2.1
        rw [j91, hv, z, Int.add_zero]
      rw [ev] at k1
      rw [ha] at l1 k1
      have t7 : K' (x + 86) 7 = 0 := by rw [k3 (x + 86) (by omega), k2.2.1 7 (by decide), upd2_at]
      obtain ⟨p6, p7, p8, e⟩ := lt_restore (g := g) (g1 := gL g' L) (g2 := gL g' L) (I := I) (od := x + 106) (o6 := o6) (o7 := o7) (o8 := o8) iS hii m0 i105 e1 e1 js l1 k1 (by decide) t7 (fun _ => by show L (x + 105) 0 = _; rw [hL, upd2_at])
      have hWJ : Wf (pv J (x + 1)) := y4.agr aJ.symm
      have a2 : Agr (pv J (x + 1)) (mv K' (x + 86)) := rw_A (aJ.trans y3) hWJ (fun i i0 i1 => by
        have z := k4 i i0 i1
        rw [j91] at z
        exact z)
      exact ⟨p6, p7, p8, gL g' L, K', e, lawI_rm (g' := g') hx hs h' j2 jo ⟨fun p p1 _ => funext fun j => upd2_p p1, fun i i7 => upd2_i i7⟩ k2 (fun p p1 p2 _ => k3 p p2) (fun i i0 => by rw [k3 (x + 86) (by omega)]) bJ hWJ a2 (Or.inl j35) rfl rfl rfl, j2.ps.b⟩
  · have q1 := s_hrestoreBad (g := g) (I := I) h0 ra hq
    have l1 := lw_restore_1 (o := x + 105) h0 q1
    have q2 := s_restoreBad (g := gexc g) (I := I) (m := x + 86) (isM_e (g := g) rfl iM) ra hq
    rw [ha] at l1 q2
    obtain ⟨p6, p7, p8, e⟩ := lt_restore (g := g) (g1 := gexc g) (g2 := gexc g) (v := 1) (od := x + 106) (o6 := o6) (o7 := o7) (o8 := o8) iS hii m0 i105 rfl rfl rfl l1 q2 (by decide) upd2_at (fun z => absurd z (by decide))
    exact ⟨p6, p7, p8, gexc g, _, e, lawI_7 rfl rfl rfl hx hs h', budg_e⟩
theorem rd_load (hx : 64 ≤ x) (hs : s < x) (hi : 0 ≤ i ∧ i + 6 ≤ N) (hN : (N : Int) < 2147483648) (hS : ∀ j, (-2147483648 ≤ S j ∧ S j < 2147483648)) (h : lawI s x S N g I) : rndL s x N S 14 i o6 o7 o8 g I := by
  have h' := h
  have hC := law_ch hx h'
  obtain ⟨iH, iM, i105, i106, ⟨iS, iN, iI'⟩, ⟨c1, c2, c3, c4, c5, c6⟩, c7, ⟨t1, t2, t3, t4, L0, t5, t6, t7, t8, t9⟩, ⟨⟨u9, u10, u6⟩, u2, u3⟩, hSh⟩ := h
  have h0 := iH.1
  have m0 := iM.1
  have hii : 0 ≤ i ∧ i + 6 ≤ gn g s ∧ (gn g s : Int) < 2147483648 := by rw [iN]; omega
  have hWm : Wf (mv I (x + 86)) := c4.agr c5
  have eE : I (x + 1) 1 = I (x + 86 + 1) 0 := c5.2.1
  have eb : 0 ≤ I (x + 86 + 1) 0 ∧ I (x + 86 + 1) 0 ≤ 40 := hWm.2.1
  have tm : x + 86 + 7 = x + 93 := rfl
  rcases s_hload (g := g) (I := I) (B := I (x + 77)) (n := I (x + 75) 1) iH t1 hx c2 c1 c3.1 c6 rfl rfl u9 u10 (law_rmOk (Or.inl rfl) hx h') with ⟨er, J, g1, j1, jf, jt1, jt3, jB⟩ | ⟨P, c, J, g', I1, A, g1, j1, jf, jt1, jt3, jB, jA, j2⟩
  · have j86 : J (x + 86) = I (x + 86) := jf _ (by omega) (by omega)
    have j93 : J (x + 86 + 7) = I (x + 93) := jf _ (by omega) (by omega)
    have j87 : J (x + 86 + 1) = I (x + 87) := jf _ (by omega) (by omega)
    rcases s_mload (g := g) (I := J) (m := x + 86) (B := I (x + 77)) (n := I (x + 75) 1) iM t1 (by rw [j93, t2]) (by rw [j86, t3]) (fun p p0 p1 => isTs_c (jf (p + 20) (by omega) (by omega)) (c2 p p0 p1)) (by omega) (by rw [j86, u6]; exact u10) with ⟨er', K, g2, k1, kf, k87, k7, k9, k16, kz⟩ | ⟨P', c', K1, K, g2, _⟩
    · have ee : er = er' := Sum.inl.inj (g1.symm.trans g2)
      rw [← ee] at k1 k16
      have kI : ∀ p, ¬ p = x + 75 → (p < x + 18 ∨ x + 34 < p) → ¬ p = x + 86 → ¬ p = x + 87 → ¬ p = x + 88 → K p = I p := fun p p0 p1 p2 p3 p4 => (kf p p2 p3 p4).trans (jf p p0 p1)
      have km : ∀ i, i = 6 ∨ i = 29 → K (x + 86) i = I (x + 86) i := fun i i0 => by
        rw [kz i (by omega) (by omega) (by omega) (by omega) (by omega) (by omega) (by omega) (by omega) (by omega), j86]
      have k75 : K (x + 75) = J (x + 75) := kf _ (by omega) (by omega) (by omega)
      have kA : ∀ q, x + 107 ≤ q → K q = I q := fun q q0 => kI q (by omega) (by omega) (by omega) (by omega) (by omega)
      refine ⟨o6, o7, o8, g, K, lt_load h0 m0 j1 k1 rfl, lawI_new (g2 := g) h' rfl (fun p z => kI p (by omega) (by omega) (by omega) (by omega) (by omega)) (pB_c (fun p z1 z2 => kf p (by omega) (by omega) (by omega)) jB) (pB_c (fun p z1 z2 => kI p (by omega) (by omega) (by omega) (by omega) (by omega)) c3.1) ?_ ?_ (plOk_o (fun p z => kI p (by omega) (by omega) (by omega) (by omega) (by omega)) c7) ⟨?_, ?_, ?_, ?_, L0, ?_, ?_, ?_, ?_, t9⟩ (lvU_c (fun p z => kI p (by omega) (by omega) (by omega) (by omega) (by omega)) (km 6 (by omega)) hSh ⟨⟨u9, u10, u6⟩, u2, u3⟩) (lvS_g (g := g) rfl rfl rfl kA hSh), Nat.le_add_right _ _, Nat.le_add_right _ _⟩
      · rw [pv_c (fun p z1 z2 => kI p (by omega) (by omega) (by omega) (by omega) (by omega))]; exact c4
      · rw [pv_c (fun p z1 z2 => kI p (by omega) (by omega) (by omega) (by omega) (by omega))]
        refine rw_A (F := I (x + 87)) c5 c4 (fun i i0 i1 => ?_)
        have z := k87 i i0 i1
        rw [j87] at z; exact z
      · rw [kI (x + 77) (by omega) (by omega) (by omega) (by omega) (by omega), k75, jt1]; exact txB_0 t1
      · rw [kI (x + 77) (by omega) (by omega) (by omega) (by omega) (by omega), kI (x + 93) (by omega) (by omega) (by omega) (by omega) (by omega)]; exact t2
      · rw [k75, jt1, k9]
      · rw [k75, jt3, k16]
      · exact hL_c t5 (kI (x + 81) (by omega) (by omega) (by omega) (by omega) (by omega))
      · rw [kI x (by omega) (by omega) (by omega) (by omega) (by omega)]; exact t6
      · exact hL_c t7 (kI (x + 104) (by omega) (by omega) (by omega) (by omega) (by omega))
      · rw [km 29 (by omega)]; exact t8
    · rw [g1] at g2; cases g2
  · obtain ⟨M, hM⟩ : ∃ M, M = cpP I1 (x + 1) (x + 18) := ⟨_, rfl⟩
    rw [← hM] at j1
    have e1 : g'.1 = g.1 := j2.e
    have jx : J x = I x := jf x (by omega) (by omega)
    have eO : rmO J x = rmO I x := by unfold rmO; rw [jx]
    have eU : rmU J x = rmU I x := by unfold rmU; rw [jx]
    have eT : rmT J x = rmT I x := by unfold rmT; rw [eO, eU]
    have hg : putS (x + 83) (rmT I x).toNat g g' A := by rw [← eT]; exact j2.ps
    obtain ⟨d1, d2, d3, d4, d5, d6, d7⟩ := hg.d (Or.inl rfl) hSh
    obtain ⟨_, _, f1, f9, f10, fx, f35, _, fA, fB⟩ := j2
    rw [eO] at f9
    rw [eU] at f10
    have mo : ∀ p, p < x + 1 ∨ x + 17 < p → M p = I1 p := fun p hp => by rw [hM]; exact funext fun j => cp_o (by omega)
    have mJ : ∀ p, ¬ p = x → ¬ p = x + 35 → p < x + 1 ∨ x + 17 < p → p < A ∨ A + 16 < p → M p = J p := fun p p0 p1 p2 p3 => (mo p p2).trans (f1 p p0 p1 p3)
    have mI : ∀ p, ¬ p = x → ¬ p = x + 35 → ¬ p = x + 75 → p < x + 1 ∨ x + 34 < p → p < A ∨ A + 16 < p → M p = I p := fun p p0 p1 p2 p3 p4 => (mJ p p0 p1 (by omega) p4).trans (jf p p2 (by omega))
    have m86 : M (x + 86) = I (x + 86) := mI _ (by omega) (by omega) (by omega) (by omega) (by omega)
    have m93 : M (x + 86 + 7) = I (x + 93) := mI _ (by omega) (by omega) (by omega) (by omega) (by omega)
    have m87 : M (x + 86 + 1) = I (x + 87) := mI _ (by omega) (by omega) (by omega) (by omega) (by omega)
    have m90 : M (x + 86 + 4) = I (x + 90) := mI _ (by omega) (by omega) (by omega) (by omega) (by omega)
    have m77 : M (x + 77) = I (x + 77) := mI _ (by omega) (by omega) (by omega) (by omega) (by omega)
    have m75 : M (x + 75) = J (x + 75) := mJ _ (by omega) (by omega) (by omega) (by omega)
    rcases s_mload (g := g') (I := M) (m := x + 86) (B := I (x + 77)) (n := I (x + 75) 1) (isM_e e1 iM) t1 (by rw [m93, t2]) (by rw [m86, t3]) (fun p p0 p1 => isTs_e e1 (isTs_c (mI (p + 20) (by omega) (by omega) (by omega) (by omega) (by omega)) (c2 p p0 p1))) (by omega) (by rw [m86, u6]; exact u10) with ⟨er', K, g2, _⟩ | ⟨P', c', K1, K, g2, k1, kf, k88, kA, k7, k9, k16, kz, kk⟩
    · rw [g1] at g2; cases g2
    · have ee : (P, c) = (P', c') := Sum.inr.inj (g1.symm.trans g2)
      have eP : P = P' := congrArg Prod.fst ee
      rw [← eP] at k1 kA
      obtain ⟨kk1, kk2, kk6, kk90⟩ := kk
      have hWP : Wf P := gPc_ok (x := (P, c)) bg0_ok g1
      have K1m6 : K1 (x + 86) 6 = I (x + 86) 6 := by
        rw [kz 6 (by decide) (by decide) (by decide) (by decide) (by decide) (by decide) (by decide) (by decide) (by decide), m86]
      have kM : ∀ p, ¬ p = x + 86 → ¬ p = x + 87 → ¬ p = x + 88 → ¬ p = x + 90 → K p = M p := fun p p1 p2 p3 p4 => (kk1 p p1 p4).trans (kf p p1 p2 p3)
      have kI : ∀ p, ¬ p = x → ¬ p = x + 35 → ¬ p = x + 75 → p < x + 1 ∨ x + 34 < p → ¬ p = x + 86 → ¬ p = x + 87 → ¬ p = x + 88 → ¬ p = x + 90 → p < A ∨ A + 16 < p → K p = I p := fun p p0 p1 p2 p3 p4 p5 p6 p7 p8 => (kM p p4 p5 p6 p7).trans (mI p p0 p1 p2 p3 p8)
      have km : ∀ i, ¬ i = 6 → K (x + 86) i = K1 (x + 86) i := kk2
      have k29 : K (x + 86) 29 = I (x + 86) 29 := by
        rw [km 29 (by decide), kz 29 (by decide) (by decide) (by decide) (by decide) (by decide) (by decide) (by decide) (by decide) (by decide), m86]
      have k75 : K (x + 75) = J (x + 75) := (kM _ (by omega) (by omega) (by omega) (by omega)).trans m75
      have kx : K x = I1 x := (kM x (by omega) (by omega) (by omega) (by omega)).trans (mo x (by omega))
      have hI : ∀ q, x + 107 ≤ q → (q < A ∨ A + 16 < q) → K q = I q := fun q q0 q1 => kI q (by omega) (by omega) (by omega) (by omega) (by omega) (by omega) (by omega) (by omega) q1
      have kA1 : ∀ p, A ≤ p → p ≤ A + 16 → K p = I1 p := fun p p0 p1 => (kM p (by omega) (by omega) (by omega) (by omega)).trans (mo p (by omega))
      have i18 : ∀ p, x + 18 ≤ p → p ≤ x + 18 + 16 → I1 p = J p := fun p p0 p1 => f1 p (by omega) (by omega) (by omega)
      have b18 : pB I1 (x + 18) := pB_c i18 jB
      have iN1 : ∀ p, x + 1 ≤ p → p ≤ x + 17 → I1 p = I p := fun p p0 p1 => (f1 p (by omega) (by omega) (by omega)).trans (jf p (by omega) (by omega))
      have aM : Agr (pv M (x + 1)) P := by
        have z := cp_Agr (q := x + 1) b18
        rw [← hM, pv_c i18] at z
        exact z.trans jA
      have kP : pv K (x + 1) = pv M (x + 1) := pv_c (fun p p0 p1 => kM p (by omega) (by omega) (by omega) (by omega))
      have hWK : Wf (pv K (x + 1)) := by rw [kP]; exact hWP.agr aM.symm
      have kmv : mv K (x + 86) = mv K1 (x + 86) := by unfold mv; rw [kk1 (x + 86 + 1) (by omega) (by omega)]
      refine ⟨o6, o7, o8, g', K, lt_load h0 (by rw [e1]; exact m0) j1 k1 rfl, lawI_new h' e1 (fun p z => kI p (by omega) (by omega) (by omega) (by omega) (by omega) (by omega) (by omega) (by omega) (by omega)) (pB_c (fun p p0 p1 => (kM p (by omega) (by omega) (by omega) (by omega)).trans (mo p (by omega))) b18) (pB_c (I := M) (fun p p0 p1 => kM p (by omega) (by omega) (by omega) (by omega)) (by rw [hM]; exact cp_pB b18 (pB_c (fun p p0 p1 => iN1 p p0 (by omega)) c3.1))) hWK (by rw [kP, kmv]; exact aM.trans kA.symm) (Or.inl ?_) ⟨?_, ?_, ?_, ?_, L0, ?_, ?_, ?_, ?_, t9⟩ (lvU_rm ⟨⟨u9, u10, u6⟩, u2, u3⟩ hSh hg hI ?_ c5 c4 ?_ ?_ ?_ ?_ ?_ ?_) (lvS_put (Or.inl rfl) hSh hg hI (pB_c (fun p p0 p1 => kA1 p p0 p1) fB)), hg.b⟩
      · rw [kM (x + 35) (by omega) (by omega) (by omega) (by omega), mo (x + 35) (by omega)]; exact f35
      · rw [kM (x + 77) (by omega) (by omega) (by omega) (by omega), m77, k75, jt1]; exact txB_0 t1
      · rw [kM (x + 77) (by omega) (by omega) (by omega) (by omega), m77, kM (x + 93) (by omega) (by omega) (by omega) (by omega)]; exact t2.trans m93.symm
      · rw [k75, jt1, km 9 (by decide), k9]
      · rw [k75, jt3, km 16 (by decide), k16]
      · exact hL_c t5 (kI (x + 81) (by omega) (by omega) (by omega) (by omega) (by omega) (by omega) (by omega) (by omega) (by omega))
      · rw [kx, fx 7 (by decide) (by decide), jx]; exact t6
      · exact hL_c t7 (kI (x + 104) (by omega) (by omega) (by omega) (by omega) (by omega) (by omega) (by omega) (by omega) (by omega))
      · rw [k29]; exact t8
      · rw [pv_c (fun p p0 p1 => kA1 p p0 p1), ← pv_c (I := I) (J := J) (q := x + 1) (fun p p0 p1 => jf p (by omega) (by omega))]; exact fA
      · rw [kx, f9]
      · rw [kx, f10]
      · rw [kk6, K1m6]
      · intro j i j0 jj i0 i1
        have z := kk90 j i j0 jj i0 i1
        have y87 : K1 (x + 86 + 2) i = I (x + 87) i := by rw [k88 i i0 i1, m87]
        have y90 : K1 (x + 86 + 4) = I (x + 90) := by rw [kf (x + 86 + 4) (by omega) (by omega) (by omega), m90]
        rw [K1m6, y87, y90] at z
        exact z
      · exact kI (x + 91) (by omega) (by omega) (by omega) (by omega) (by omega) (by omega) (by omega) (by omega) (by omega)
      · exact kI (x + 92) (by omega) (by omega) (by omega) (by omega) (by omega) (by omega) (by omega) (by omega) (by omega)
end CI
