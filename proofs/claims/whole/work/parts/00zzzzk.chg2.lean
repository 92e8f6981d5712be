/-! Rounds of further changes. -/
section CH
variable {s x N : Nat} {S : Int → Int} {g g' : Gm} {I I1 I2 J K : Mm} {A : Nat} {i : Int} {o6 o7 o8 : Option Value}
theorem ltS_b {s f may : Int} (hs : 0 ≤ s ∧ s ≤ 31) (hf : 1 ≤ f ∧ f ≤ 5) : 0 ≤ ltS s f may ∧ ltS s f may ≤ 31 := by
  have bf := bit_b hf
  unfold ltS
  by_cases h : may = 0
  · rw [if_pos h]
    have key : ∀ (n : Fin 32) (m : Fin 5), 0 ≤ andI (n.val : Int) (xorI (bitF ((m.val : Int) + 1)) (-1)) ∧ andI (n.val : Int) (xorI (bitF ((m.val : Int) + 1)) (-1)) ≤ 31 := by decide +kernel
    have := key ⟨s.toNat, by omega⟩ ⟨(f - 1).toNat, by omega⟩
    simp only at this
    rw [show ((s.toNat : Nat) : Int) = s by omega, show (((f - 1).toNat : Nat) : Int) + 1 = f by omega] at this
    exact this
  · rw [if_neg h]
    exact or_b hs (by omega)
theorem plU_p {m p : Nat} {e n r a b c : Int} (h : ¬ p = m + 1) : plU I m e n r a b c p = I p := by
  funext i
  unfold plU
  rw [upd2_p h, upd2_p h, upd2_p h, upd2_p h, upd2_p h, upd2_p h, upd2_p h, upd2_p h, upd2_p h, upU_p h]
theorem opE_pB {q : Nat} {e n : Int} (hB : pB I q) : pB (opE I q e n) q := by
  obtain ⟨b0, b1, b2, b4, b6, b8, b10, b12, b14, b16⟩ := hB
  have cp : ∀ p i, ¬ p = q + 2 → ¬ p = q + 4 → ¬ p = q + 6 → ¬ p = q + 8 → opE I q e n p i = I p i := fun p i z2 z4 z6 z8 => by
    unfold opE; rw [if_neg (by omega), if_neg (by omega)]
  have c : ∀ p i, ∃ j, opE I q e n p i = I p j := fun p i => by
    unfold opE
    by_cases h1 : (p = q + 2 ∨ p = q + 4) ∧ e < i ∧ i ≤ n
    · exact ⟨_, if_pos h1⟩
    · rw [if_neg h1]
      by_cases h2 : (p = q + 6 ∨ p = q + 8) ∧ e * 3 + 3 ≤ i ∧ i < n * 3 + 3
      · exact ⟨_, if_pos h2⟩
      · exact ⟨_, if_neg h2⟩
  refine ⟨?_, ?_, fun i => ?_, fun i => ?_, fun i => ?_, fun i => ?_, fun i => ?_, fun i => ?_, fun i => ?_, fun i => ?_⟩
  · rw [cp q 0 (by omega) (by omega) (by omega) (by omega)]; exact b0
  · rw [cp q 1 (by omega) (by omega) (by omega) (by omega)]; exact b1
  · obtain ⟨j, hj⟩ := c (q + 2) i; rw [hj]; exact b2 j
  · obtain ⟨j, hj⟩ := c (q + 4) i; rw [hj]; exact b4 j
  · obtain ⟨j, hj⟩ := c (q + 6) i; rw [hj]; exact b6 j
  · obtain ⟨j, hj⟩ := c (q + 8) i; rw [hj]; exact b8 j
  · obtain ⟨j, hj⟩ := c (q + 10) i; rw [hj]; exact b10 j
  · obtain ⟨j, hj⟩ := c (q + 12) i; rw [hj]; exact b12 j
  · obtain ⟨j, hj⟩ := c (q + 14) i; rw [hj]; exact b14 j
  · obtain ⟨j, hj⟩ := c (q + 16) i; rw [hj]; exact b16 j
theorem pnI_pB {q : Nat} {e k v : Int} (hB : pB I q) (hk : 0 ≤ k ∧ k < 3) (hv : 0 ≤ v ∧ v ≤ 108) : pB (pnI I q e k v) q :=
  pB_u (pB_u (pB_u hB (by omega)) (by omega)) (by omega)
theorem pl_pB {q : Nat} {e a b c r : Int} (hB : pB I q) (hn : I q 1 < 40) (hk : kyOk a b c) (hr : 0 ≤ r ∧ r ≤ 9) : pB (plI I q e a b c r) q := by
  have kb : (0 ≤ a ∧ a ≤ 108) ∧ (0 ≤ b ∧ b ≤ 108) ∧ (0 ≤ c ∧ c ≤ 108) := by unfold kyOk at hk; omega
  have bE := hB.2.1
  have h0 : pB (upd2 (upd2 (upd2 (opE I q e (I q 1)) (q + 2) e 0) (q + 4) e 0) q 1 (I q 1 + 1)) q := pB_u (pB_u (pB_u (opE_pB hB) (by omega)) (by omega)) (by omega)
  have h1 := pnI_pB (e := e) (k := 0) (v := a) h0 (by omega) kb.1
  have h2 := pnI_pB (e := e) (k := 1) (v := b) h1 (by omega) kb.2.1
  unfold plI
  refine pB_u ?_ (by omega)
  by_cases hc : c = 0
  · rw [if_pos hc]
    by_cases hb : b = 0
    · rw [if_pos hb]; exact h1
    · rw [if_neg hb]; exact h2
  · rw [if_neg hc]
    by_cases hb : b = 0
    · rw [if_pos hb]; exact pnI_pB h1 (by omega) kb.2.2
    · rw [if_neg hb]; exact pnI_pB h2 (by omega) kb.2.2
theorem fx_pB {q : Nat} {P : PT} {n : Int} (hB : pB I q) (hW : Wf P) (hn : n = pE P * 3 + 0) : pB (fxI I (q + 8) P n) q := by
  obtain ⟨b0, b1, b2, b4, b6, b8, b10, b12, b14, b16⟩ := hB
  have cp : ∀ p i, ¬ p = q + 8 → fxI I (q + 8) P n p i = I p i := fun p i z => congrFun (fxI_p z) i
  refine ⟨?_, ?_, fun i => ?_, fun i => ?_, fun i => ?_, fun i => ?_, fun i => ?_, fun i => ?_, fun i => ?_, fun i => ?_⟩
  · rw [cp q 0 (by omega)]; exact b0
  · rw [cp q 1 (by omega)]; exact b1
  · rw [cp (q + 2) i (by omega)]; exact b2 i
  · rw [cp (q + 4) i (by omega)]; exact b4 i
  · rw [cp (q + 6) i (by omega)]; exact b6 i
  · unfold fxI
    by_cases h : (q + 8 = q + 8 ∧ 0 ≤ i ∧ i < n) ∧ i % 3 < pSz P (i / 3)
    · rw [if_pos h]
      have := bit_b (fg_15 (k := i % 3) hW (show 0 ≤ i / 3 by omega) (by omega))
      omega
    · rw [if_neg h]; exact b8 i
  · rw [cp (q + 10) i (by omega)]; exact b10 i
  · rw [cp (q + 12) i (by omega)]; exact b12 i
  · rw [cp (q + 14) i (by omega)]; exact b14 i
  · rw [cp (q + 16) i (by omega)]; exact b16 i
theorem rmF.f (h : rmF x g g' I1 I2 A) : rmF x g g' (upd2 I1 (x + 35) 0 0) I2 A := by
  obtain ⟨f0, f1, f2, f3, f4, f5, f6, f7, f8, f9⟩ := h
  have e0 : upd2 I1 (x + 35) 0 0 x = I1 x := funext fun j => upd2_p (by omega)
  have eO : rmO (upd2 I1 (x + 35) 0 0) x = rmO I1 x := by unfold rmO; rw [e0]
  have eU : rmU (upd2 I1 (x + 35) 0 0) x = rmU I1 x := by unfold rmU; rw [e0]
  have eT : rmT (upd2 I1 (x + 35) 0 0) x = rmT I1 x := by unfold rmT; rw [eO, eU]
  unfold rmF
  rw [eT, eO, eU, e0, pv_c (I := I1) (J := upd2 I1 (x + 35) 0 0) (q := x + 1) (fun p a b => funext fun j => upd2_p (by omega))]
  exact ⟨f0, f1, fun p p0 p1 p2 => (f2 p p0 p1 p2).trans (funext fun j => (upd2_p p1).symm), f3, f4, f5, f6, fun i i0 => (f7 i i0).trans (upd2_i i0).symm, f8, f9⟩
theorem rd_let (hx : 64 ≤ x) (hs : s < x) (hi : 0 ≤ i ∧ i + 6 ≤ N) (hN : (N : Int) < 2147483648) (hS : ∀ j, (-2147483648 ≤ S j ∧ S j < 2147483648)) (h : lawI s x S N g I) : rndL s x N S 211 i o6 o7 o8 g I := by
  have h' := h
  have hC := law_ch hx h'
  obtain ⟨iH, iM, i105, i106, ⟨iS, iN, iI'⟩, ⟨c1, c2, c3, c4, c5, c6⟩, c7, _, ⟨⟨u9, u10, u6⟩, _⟩, hSh⟩ := h
  have h0 := iH.1
  have m0 := iM.1
  have hii : 0 ≤ i ∧ i + 6 ≤ gn g s ∧ (gn g s : Int) < 2147483648 := by rw [iN]; omega
  have hWm : Wf (mv I (x + 86)) := c4.agr c5
  have eE : I (x + 1) 1 = I (x + 86 + 1) 0 := c5.2.1
  have eb : 0 ≤ I (x + 86 + 1) 0 ∧ I (x + 86 + 1) 0 ≤ 40 := hWm.2.1
  obtain ⟨a, ha⟩ : ∃ a, a = I s (i + 1) := ⟨_, rfl⟩
  have ra : (-2147483648 ≤ a ∧ a < 2147483648) := by rw [ha, iI']; exact hS _
  obtain ⟨b, hb⟩ : ∃ b, b = I s (i + 2) := ⟨_, rfl⟩
  have rb : (-2147483648 ≤ b ∧ b < 2147483648) := by rw [hb, iI']; exact hS _
  obtain ⟨c, hc⟩ : ∃ c, c = I s (i + 3) := ⟨_, rfl⟩
  have rc : (-2147483648 ≤ c ∧ c < 2147483648) := by rw [hc, iI']; exact hS _
  obtain ⟨d, hd⟩ : ∃ d, d = I s (i + 4) := ⟨_, rfl⟩
  have rd : (-2147483648 ≤ d ∧ d < 2147483648) := by rw [hd, iI']; exact hS _
  obtain ⟨z, hz⟩ : ∃ z, z = bzI d := ⟨_, rfl⟩
  have z01 : z = 0 ∨ z = 1 := by rw [hz]; exact bz_01
  by_cases hq : ((0 ≤ a ∧ a < I (x + 1) 1) ∧ 0 ≤ b ∧ b < I (x + 1 + 2) a) ∧ 1 ≤ c ∧ c ≤ 5
  · have hqm := (nt_iff c5).mp hq.1
    have b3 : 0 ≤ b ∧ b < 3 := by have := c3.1.2.2.1 a; omega
    obtain ⟨g', I1, A, j1, j2⟩ := s_hlet hC hq.1.1 hq.1.2 hq.2 z01
    obtain ⟨J, hJ⟩ : ∃ J, J = upd2 I1 (x + 9) (a * 3 + b) (ltS (I (x + 9) (a * 3 + b)) c z) := ⟨_, rfl⟩
    rw [← hJ] at j1
    have jo : ∀ p, p < x + 1 ∨ (x + 17 < p ∧ p < x + 35) ∨ x + 54 < p → J p = I1 p := fun p hp => by rw [hJ]; exact funext fun j => upd2_p (by omega)
    have j35 : J (x + 35) 0 = 0 := by rw [hJ]; exact (upd2_p (by omega)).trans j2.2.2.2.2.2.2.1
    obtain ⟨v, hv⟩ : ∃ v, v = ltS (I (x + 9) (a * 3 + b)) c z := ⟨_, rfl⟩
    rw [← hv] at j1 hJ
    have l1 := lw_let (o := x + 105) h0 (by rw [gt_e j2.e]; exact i105.1) (by rw [gn_e j2.e]; exact i105.2) j1
    have jI := j2.o hSh jo
    have js : J s = I s := jI s (by omega)
    have j86 : J (x + 86) = I (x + 86) := jI _ (by omega)
    have j87 : J (x + 86 + 1) = I (x + 86 + 1) := jI _ (by omega)
    have hB1 : pB I1 (x + 1) := j2.pB c3.1
    have hv1 : pv I1 (x + 1) = pv I (x + 1) := j2.pv
    have mJ : mv J (x + 86) = mv I (x + 86) := by unfold mv; rw [j87]
    obtain ⟨L, hL⟩ : ∃ L, L = upd2 g'.2.1 (x + 105) 0 (iI v).toInt := ⟨_, rfl⟩
    rw [← hL] at l1
    have e1 : (gL g' L).1 = g.1 := j2.e
    have h6 : 0 ≤ J (x + 86) 6 ∧ J (x + 86) 6 ≤ 8 := by rw [j86, u6]; exact u10
    obtain ⟨K, w, k1, k2⟩ := s_letM (g := gL g' L) (I := J) (m := x + 86) (isM_e e1 iM) (by rw [mJ]; exact hWm) h6 (by rw [j87]; exact hqm.1) (by rw [j87]; exact hqm.2) hq.2 z01
    have k87 : K (x + 86 + 1) = I (x + 86 + 1) := (kpM_mv k2).trans j87
    have kmv : mv K (x + 86) = mv I (x + 86) := by unfold mv; rw [k87]
    have ev : ltS (J (x + 86 + 1) (42 + 8 * a + 5 + b)) c z = v := by rw [j87, hv, ← show I (x + 9) (a * 3 + b) = I (x + 86 + 1) (42 + 8 * a + 5 + b) from ((c5.2.2.1 a hq.1.1.1 hq.1.1.2).2.2 b hq.1.2.1 hq.1.2.2).2]
    rw [ev] at k1
    obtain ⟨K', hK'⟩ : ∃ K', K' = upd2 (upd2 K (x + 86 + 1) (42 + 8 * a + 5 + b) v) (x + 86) 27 w := ⟨_, rfl⟩
    rw [← hK'] at k1
    rw [ha, hb, hc, hz, hd] at l1 k1
    have ko : ∀ p, ¬ p = x + 86 + 1 → ¬ p = x + 86 → K' p = K p := fun p hp hp2 => by rw [hK']; exact funext fun j => (upd2_p hp2).trans (upd2_p hp)
    have km : ∀ i, ¬ i = 27 → K' (x + 86) i = K (x + 86) i := fun i i0 => by rw [hK']; exact (upd2_i i0).trans (upd2_p (by omega))
    have hv31 : 0 ≤ v ∧ v ≤ 31 := by rw [hv]; exact ltS_b (c3.1.2.2.2.2.2.1 _) hq.2
    have t7 : K' (x + 86) 7 = 0 := by rw [km 7 (by decide), k2.2.1 7 (by decide), upd2_at]
    obtain ⟨p6, p7, p8, e⟩ := lt_let (g := g) (g1 := gL g' L) (g2 := gL g' L) (I := I) (od := x + 106) (o6 := o6) (o7 := o7) (o8 := o8) iS hii (fun j => by rw [iI']; exact hS j) h0 m0 i105 e1 e1 js l1 k1 (by decide) t7 (fun _ => by show L (x + 105) 0 = _; rw [hL, upd2_at])
    have hv31 := hv31
    have a1 : Agr (pv J (x + 1)) (leP (pv I (x + 1)) a b v) := by rw [hJ]; exact (by rw [← hv1]; exact c_le (J := I1) (q := x + 1) hB1 b3)
    have a2 : Agr (mv K' (x + 86)) (leP (mv I (x + 86)) a b v) := by rw [hK']; exact (by rw [show mv (upd2 (upd2 K (x + 86 + 1) (42 + 8 * a + 5 + b) v) (x + 86) 27 w) (x + 86) = mv (upd2 K (x + 86 + 1) (42 + 8 * a + 5 + b) v) (x + 86) by unfold mv; rw [show upd2 (upd2 K (x + 86 + 1) (42 + 8 * a + 5 + b) v) (x + 86) 27 w (x + 86 + 1) = upd2 K (x + 86 + 1) (42 + 8 * a + 5 + b) v (x + 86 + 1) from funext fun j => upd2_p (by omega)], ← kmv]; exact m_le (by rw [kmv]; exact hWm) b3 hq.1.1.1)
    have hB : pB J (x + 1) := by rw [hJ]; exact pB_u hB1 (by omega)
    exact ⟨p6, p7, p8, gL g' L, K', e, lawI_rm (g' := g') hx hs h' j2 jo ⟨fun p p1 _ => funext fun j => upd2_p p1, fun i i7 => upd2_i i7⟩ k2 (fun p p1 p2 _ => ko p p2 p1) (fun i i0 => km i (by omega)) hB (Wf.agr (le_Wf c4 hv31) a1.symm) (a1.trans ((le_A c5).trans a2.symm)) (Or.inl j35) rfl rfl rfl, j2.ps.b⟩
  · have hqm : ¬ (((0 ≤ a ∧ a < I (x + 86 + 1) 0) ∧ 0 ≤ b ∧ b < I (x + 86 + 1) (42 + 8 * a)) ∧ 1 ≤ c ∧ c ≤ 5) := fun y => hq ⟨(nt_iff c5).mpr y.1, y.2⟩
    have q1 := s_hletBad (g := g) (I := I) (may := z) iH.hn c3 ra rb rc hq
    have l1 := lw_let_1 (o := x + 105) h0 q1
    have q2 := s_letBad (may := z) (g := gexc g) (I := I) (m := x + 86) (isM_e (g := g) rfl iM) hWm ra rb rc hqm
    rw [ha, hb, hc, hz, hd] at l1 q2
    obtain ⟨p6, p7, p8, e⟩ := lt_let (g := g) (g1 := gexc g) (g2 := gexc g) (v := 1) (od := x + 106) (o6 := o6) (o7 := o7) (o8 := o8) iS hii (fun j => by rw [iI']; exact hS j) h0 m0 i105 rfl rfl rfl l1 q2 (by decide) upd2_at (fun z => absurd z (by decide))
    exact ⟨p6, p7, p8, gexc g, _, e, lawI_7 rfl rfl rfl hx hs h', budg_e⟩
theorem rd_play (hx : 64 ≤ x) (hs : s < x) (hi : 0 ≤ i ∧ i + 6 ≤ N) (hN : (N : Int) < 2147483648) (hS : ∀ j, (-2147483648 ≤ S j ∧ S j < 2147483648)) (h : lawI s x S N g I) : rndL s x N S 184 i o6 o7 o8 g I := by
  have h' := h
  have hC := law_ch hx h'
  obtain ⟨iH, iM, i105, i106, ⟨iS, iN, iI'⟩, ⟨c1, c2, c3, c4, c5, c6⟩, c7, _, ⟨⟨u9, u10, u6⟩, _⟩, hSh⟩ := h
  have h0 := iH.1
  have m0 := iM.1
  have hii : 0 ≤ i ∧ i + 6 ≤ gn g s ∧ (gn g s : Int) < 2147483648 := by rw [iN]; omega
  have hWm : Wf (mv I (x + 86)) := c4.agr c5
  have eE : I (x + 1) 1 = I (x + 86 + 1) 0 := c5.2.1
  have eb : 0 ≤ I (x + 86 + 1) 0 ∧ I (x + 86 + 1) 0 ≤ 40 := hWm.2.1
  obtain ⟨a, ha⟩ : ∃ a, a = I s (i + 1) := ⟨_, rfl⟩
  have ra : (-2147483648 ≤ a ∧ a < 2147483648) := by rw [ha, iI']; exact hS _
  obtain ⟨b, hb⟩ : ∃ b, b = I s (i + 2) := ⟨_, rfl⟩
  have rb : (-2147483648 ≤ b ∧ b < 2147483648) := by rw [hb, iI']; exact hS _
  obtain ⟨c, hc⟩ : ∃ c, c = I s (i + 3) := ⟨_, rfl⟩
  have rc : (-2147483648 ≤ c ∧ c < 2147483648) := by rw [hc, iI']; exact hS _
  obtain ⟨d, hd⟩ : ∃ d, d = I s (i + 4) := ⟨_, rfl⟩
  have rd : (-2147483648 ≤ d ∧ d < 2147483648) := by rw [hd, iI']; exact hS _
  obtain ⟨e, he⟩ : ∃ e, e = I s (i + 5) := ⟨_, rfl⟩
  have re : (-2147483648 ≤ e ∧ e < 2147483648) := by rw [he, iI']; exact hS _
  by_cases hq : 0 ≤ a ∧ a ≤ I (x + 1) 1
  · have hqm : 0 ≤ a ∧ a ≤ I (x + 86 + 1) 0 := by omega
    by_cases hw : kyOk b c d ∧ 0 ≤ e ∧ e ≤ 9
    · by_cases hf : I (x + 1) 1 = 40
      · have q1 := s_hplayFull (g := g) (I := I) iH.hn c3 hq hf hw.1 hw.2
        have l1 := lw_play (o := x + 105) h0 i105.1 i105.2 q1
        have q2 := s_playFullM (g := gL g (upd2 g.2.1 (x + 105) 0 (iI (-10)).toInt)) (I := I) (m := x + 86) (isM_e (g := g) rfl iM) (by omega) hqm hw.1 hw.2
        rw [ha, hb, hc, hd, he] at l1 q2
        obtain ⟨p6, p7, p8, ee⟩ := lt_play (g := g) (g1 := gL g (upd2 g.2.1 (x + 105) 0 (iI (-10)).toInt)) (g2 := gL g (upd2 g.2.1 (x + 105) 0 (iI (-10)).toInt)) (od := x + 106) (o6 := o6) (o7 := o7) (o8 := o8) iS hii m0 i105 rfl rfl rfl l1 q2 (by decide) upd2_at (fun _ => upd2_at)
        exact ⟨p6, p7, p8, _, _, ee, lawI_7 (g' := gL g _) rfl rfl rfl hx hs h', budg_L⟩
      · have hn : I (x + 1) 1 < 40 := by have := c3.1.2.1; omega
        have nk := nk3_ok hw.1
        have hbc : c = 0 → d = 0 := by have := hw.1; unfold kyOk at this; omega
        obtain ⟨g', I1, A, j1, j2⟩ := s_hplay hC hq hn hw.1 hw.2
        obtain ⟨J, hJ⟩ : ∃ J, J = plI I1 (x + 1) a b c d e := ⟨_, rfl⟩
        rw [← hJ] at j1
        have jo : ∀ p, p < x + 1 ∨ (x + 17 < p ∧ p < x + 35) ∨ x + 54 < p → J p = I1 p := fun p hp => by rw [hJ]; exact funext fun j => congrFun ((pl_v (J := I1) (q := x + 1) (e := a) (a := b) (b := c) (c := d) (r := e) rfl hbc).2.2.2.2.2.2 p (by omega) (by omega) (by omega) (by omega) (by omega)) j
        have j35 : J (x + 35) 0 = 0 := by rw [hJ]; exact (congrFun ((pl_v (J := I1) (q := x + 1) (e := a) (a := b) (b := c) (c := d) (r := e) rfl hbc).2.2.2.2.2.2 (x + 35) (by omega) (by omega) (by omega) (by omega) (by omega)) 0).trans j2.2.2.2.2.2.2.1
        obtain ⟨v, hv⟩ : ∃ v, v = I (x + 1) 1 + 1 := ⟨_, rfl⟩
        rw [← hv] at j1
        have l1 := lw_play (o := x + 105) h0 (by rw [gt_e j2.e]; exact i105.1) (by rw [gn_e j2.e]; exact i105.2) j1
        have jI := j2.o hSh jo
        have js : J s = I s := jI s (by omega)
        have j86 : J (x + 86) = I (x + 86) := jI _ (by omega)
        have j87 : J (x + 86 + 1) = I (x + 86 + 1) := jI _ (by omega)
        have hB1 : pB I1 (x + 1) := j2.pB c3.1
        have hv1 : pv I1 (x + 1) = pv I (x + 1) := j2.pv
        have mJ : mv J (x + 86) = mv I (x + 86) := by unfold mv; rw [j87]
        obtain ⟨L, hL⟩ : ∃ L, L = upd2 g'.2.1 (x + 105) 0 (iI v).toInt := ⟨_, rfl⟩
        rw [← hL] at l1
        have e1 : (gL g' L).1 = g.1 := j2.e
        have h6 : 0 ≤ J (x + 86) 6 ∧ J (x + 86) 6 ≤ 8 := by rw [j86, u6]; exact u10
        obtain ⟨K, k1, k2⟩ := s_playM (g := gL g' L) (I := J) (m := x + 86) (isM_e e1 iM) h6 (by rw [j87]; omega) (by rw [j87]; exact hqm) hw.1 hw.2
        have k87 : K (x + 86 + 1) = I (x + 86 + 1) := (kpM_mv k2).trans j87
        have kmv : mv K (x + 86) = mv I (x + 86) := by unfold mv; rw [k87]
        have ev : J (x + 86 + 1) 0 + 1 = v := by rw [j87, hv, eE]
        rw [ev] at k1
        obtain ⟨K', hK'⟩ : ∃ K', K' = plU K (x + 86) a (nk3 c d) e b c d := ⟨_, rfl⟩
        rw [show (if c = 0 then (1 : Int) else if d = 0 then 2 else 3) = nk3 c d from rfl, ← hK'] at k1
        rw [ha, hb, hc, hd, he] at l1 k1
        have ko : ∀ p, ¬ p = x + 86 + 1 → K' p = K p := fun p hp => by rw [hK']; exact funext fun j => congrFun (plU_p hp) j
        have t7 : K' (x + 86) 7 = 0 := by rw [ko (x + 86) (by omega), k2.2.1 7 (by decide), upd2_at]
        obtain ⟨p6, p7, p8, ee⟩ := lt_play (g := g) (g1 := gL g' L) (g2 := gL g' L) (I := I) (od := x + 106) (o6 := o6) (o7 := o7) (o8 := o8) iS hii m0 i105 e1 e1 js l1 k1 (by decide) t7 (fun _ => by show L (x + 105) 0 = _; rw [hL, upd2_at])
        have a1 : Agr (pv J (x + 1)) (inP (pv I (x + 1)) a (nk3 c d) e (ky3 b c d)) := by rw [hJ]; exact (by rw [← hv1]; exact c_in (J := I1) (q := x + 1) (E := I (x + 1) 1) (by rw [rm_piece j2 (x + 1) (by omega) (by omega)]) hB1 hq.1 hq.2 hw.1)
        have a2 : Agr (mv K' (x + 86)) (inP (mv I (x + 86)) a (nk3 c d) e (ky3 b c d)) := by rw [hK']; exact (by rw [← kmv]; exact m_in (J := K) (m := x + 86) (E := I (x + 86 + 1) 0) (by rw [k87]) (by rw [kmv]; exact hWm) hqm.1 hqm.2 (by omega) hw.1)
        have hB : pB J (x + 1) := by rw [hJ]; exact pl_pB hB1 (by rw [rm_piece j2 (x + 1) (by omega) (by omega)]; exact hn) hw.1 hw.2
        exact ⟨p6, p7, p8, gL g' L, K', ee, lawI_rm (g' := g') hx hs h' j2 jo ⟨fun p p1 _ => funext fun j => upd2_p p1, fun i i7 => upd2_i i7⟩ k2 (fun p p1 p2 _ => ko p p2) (fun i i0 => by rw [ko (x + 86) (by omega)]) hB (Wf.agr (in_Wf c4 hq.1 hq.2 hn nk.1 hw.2 nk.2.1 nk.2.2) a1.symm) (a1.trans ((in_A c5 hq.1 hq.2).trans a2.symm)) (Or.inl j35) rfl rfl rfl, j2.ps.b⟩
    · have q1 := s_hplayBadK (g := g) (I := I) iH.hn c3 hq rb rc rd re hw
      have l1 := lw_play_2 (o := x + 105) h0 q1
      have q2 := s_playBadK (g := gexc g) (I := I) (m := x + 86) (isM_e (g := g) rfl iM) eb hqm rb rc rd re hw
      rw [ha, hb, hc, hd, he] at l1 q2
      obtain ⟨p6, p7, p8, ee⟩ := lt_play (g := g) (g1 := gexc g) (g2 := gexc g) (v := 2) (od := x + 106) (o6 := o6) (o7 := o7) (o8 := o8) iS hii m0 i105 rfl rfl rfl l1 q2 (by decide) upd2_at (fun z => absurd z (by decide))
      exact ⟨p6, p7, p8, gexc g, _, ee, lawI_7 rfl rfl rfl hx hs h', budg_e⟩
  · have q1 := s_hplayBad (g := g) (I := I) (a := b) (b := c) (c := d) (r := e) iH.hn c3 ra hq
    have l1 := lw_play_1 (o := x + 105) h0 q1
    have q2 := s_playBad (a := b) (b := c) (c := d) (r := e) (g := gexc g) (I := I) (m := x + 86) (isM_e (g := g) rfl iM) eb ra (by omega)
    rw [ha, hb, hc, hd, he] at l1 q2
    obtain ⟨p6, p7, p8, ee⟩ := lt_play (g := g) (g1 := gexc g) (g2 := gexc g) (v := 1) (od := x + 106) (o6 := o6) (o7 := o7) (o8 := o8) iS hii m0 i105 rfl rfl rfl l1 q2 (by decide) upd2_at (fun z => absurd z (by decide))
    exact ⟨p6, p7, p8, gexc g, _, ee, lawI_7 rfl rfl rfl hx hs h', budg_e⟩
theorem rd_setHand (hx : 64 ≤ x) (hs : s < x) (hi : 0 ≤ i ∧ i + 6 ≤ N) (hN : (N : Int) < 2147483648) (hS : ∀ j, (-2147483648 ≤ S j ∧ S j < 2147483648)) (h : lawI s x S N g I) : rndL s x N S 244 i o6 o7 o8 g I := by
  have h' := h
  have hC := law_ch hx h'
  obtain ⟨iH, iM, i105, i106, ⟨iS, iN, iI'⟩, ⟨c1, c2, c3, c4, c5, c6⟩, c7, _, ⟨⟨u9, u10, u6⟩, _⟩, hSh⟩ := h
  have h0 := iH.1
  have m0 := iM.1
  have hii : 0 ≤ i ∧ i + 6 ≤ gn g s ∧ (gn g s : Int) < 2147483648 := by rw [iN]; omega
  have hWm : Wf (mv I (x + 86)) := c4.agr c5
  have eE : I (x + 1) 1 = I (x + 86 + 1) 0 := c5.2.1
  have eb : 0 ≤ I (x + 86 + 1) 0 ∧ I (x + 86 + 1) 0 ≤ 40 := hWm.2.1
  obtain ⟨a, ha⟩ : ∃ a, a = I s (i + 1) := ⟨_, rfl⟩
  have ra : (-2147483648 ≤ a ∧ a < 2147483648) := by rw [ha, iI']; exact hS _
  obtain ⟨z, hz⟩ : ∃ z, z = bzI a := ⟨_, rfl⟩
  have z01 : z = 0 ∨ z = 1 := by rw [hz]; exact bz_01
  obtain ⟨g', I1, J, A, j1, j2, j3, j4⟩ := s_hsetHand hC z01
  have jo : ∀ p, p < x + 1 ∨ (x + 17 < p ∧ p < x + 35) ∨ x + 54 < p → J p = I1 p := fun p hp => (j3 p (by omega)).trans (funext fun j => upd2_p (by omega))
  have jI := j2.o hSh jo
  have js : J s = I s := jI s (by omega)
  have j86 : J (x + 86) = I (x + 86) := jI _ (by omega)
  have j87 : J (x + 86 + 1) = I (x + 86 + 1) := jI _ (by omega)
  have hB1 : pB I1 (x + 1) := j2.pB c3.1
  have hv1 : pv I1 (x + 1) = pv I (x + 1) := j2.pv
  have mJ : mv J (x + 86) = mv I (x + 86) := by unfold mv; rw [j87]
  have e1 : g'.1 = g.1 := j2.e
  have h6 : 0 ≤ J (x + 86) 6 ∧ J (x + 86) 6 ≤ 8 := by rw [j86, u6]; exact u10
  obtain ⟨K, w, K', L, k1, k2, k3, k4⟩ := s_setHandM (g := g') (I := J) (m := x + 86) (L := g'.2.1) (r := z) (isM_e e1 iM) hWm mJ.symm h6 z01
  have k87 : K (x + 86 + 1) = I (x + 86 + 1) := (kpM_mv k2).trans j87
  have kmv : mv K (x + 86) = mv I (x + 86) := by unfold mv; rw [k87]
  have pJ : pv J (x + 1) = pv (upd2 I1 (x + 1) 0 z) (x + 1) := pv_c (fun p p0 p1 => j3 p (by omega))
  have kK : mv K' (x + 86) = mv (upd2 K (x + 86 + 1) 1 z) (x + 86) := by
    unfold mv
    rw [k3 (x + 86 + 1) (by omega) (by omega) (by omega) (by omega) (by omega)]
    exact congrArg rv (funext fun j => upd2_p (by omega))
  have a1 : Agr (pv (upd2 I1 (x + 1) 0 z) (x + 1)) (paR (pv I (x + 1)) z) := paR_A (by rw [hv1]; exact Agr.rfl)
  have a2 : Agr (mv (upd2 K (x + 86 + 1) 1 z) (x + 86)) (paR (pv I (x + 1)) z) := mR_A (by rw [kmv]; exact c5.symm)
  have hW : Wf (pv (upd2 I1 (x + 1) 0 z) (x + 1)) := Wf.agr (paR_Wf c4 z01) a1.symm
  rw [← ls_A (a1.trans a2.symm) hW] at k1
  rw [hz, ha] at j1 k1
  have kf : ∀ p, ¬ p = x + 86 → ¬ p = x + 87 → p < x + 94 ∨ x + 100 < p → K' p = K p := fun p p0 p1 p2 => by
    rw [k3 p (by omega) (by omega) (by omega) (by omega) (by omega)]
    exact funext fun j => (upd2_p p0).trans (upd2_p p1)
  have km : ∀ i, ¬ i = 27 → K' (x + 86) i = K (x + 86) i := fun i i0 => by
    rw [k3 (x + 86) (by omega) (by omega) (by omega) (by omega) (by omega)]
    exact (upd2_i i0).trans (upd2_p (by omega))
  have e := lt_setHand (od := x + 106) (o := x + 105) (o6 := o6) (o7 := o7) (o8 := o8) (g := g) (g1 := gL g' g'.2.1) iS hii (fun j => by rw [iI']; exact hS j) h0 m0 e1 js j1 k1
  refine ⟨o6, o7, o8, gL g' L, K', e, lawI_rm (g' := g') hx hs h' j2 jo ⟨fun p p1 _ => funext fun j => upd2_p p1, fun i i7 => upd2_i i7⟩ k2 kf (fun i i0 => km i (by omega)) ?_ ?_ ?_ (Or.inr ?_) rfl rfl rfl, j2.ps.b⟩
  · exact pB_c (fun p p0 p1 => j3 p (by omega)) (pB_u hB1 (by omega))
  · rw [pJ]; exact hW
  · rw [pJ, kK]; exact a1.trans a2.symm
  · rw [pJ]; exact j4
theorem rd_transpose (hx : 64 ≤ x) (hs : s < x) (hi : 0 ≤ i ∧ i + 6 ≤ N) (hN : (N : Int) < 2147483648) (hS : ∀ j, (-2147483648 ≤ S j ∧ S j < 2147483648)) (h : lawI s x S N g I) : rndL s x N S 254 i o6 o7 o8 g I := by
  have h' := h
  have hC := law_ch hx h'
  obtain ⟨iH, iM, i105, i106, ⟨iS, iN, iI'⟩, ⟨c1, c2, c3, c4, c5, c6⟩, c7, _, ⟨⟨u9, u10, u6⟩, _⟩, hSh⟩ := h
  have h0 := iH.1
  have m0 := iM.1
  have hii : 0 ≤ i ∧ i + 6 ≤ gn g s ∧ (gn g s : Int) < 2147483648 := by rw [iN]; omega
  have hWm : Wf (mv I (x + 86)) := c4.agr c5
  have eE : I (x + 1) 1 = I (x + 86 + 1) 0 := c5.2.1
  have eb : 0 ≤ I (x + 86 + 1) 0 ∧ I (x + 86 + 1) 0 ≤ 40 := hWm.2.1
  obtain ⟨a, ha⟩ : ∃ a, a = I s (i + 1) := ⟨_, rfl⟩
  have ra : (-2147483648 ≤ a ∧ a < 2147483648) := by rw [ha, iI']; exact hS _
  have ft : fitS (pv I (x + 1)) a ↔ fitS (mv I (x + 86)) a := fit_A c5 c4
  by_cases hq : (-87 ≤ a ∧ a ≤ 87) ∧ fitS (pv I (x + 1)) a
  · obtain ⟨g', I1, J, A, j1, j2, j3, j4, j5⟩ := s_htranspose hC hq.1 hq.2
    obtain ⟨T, hT⟩ : ∃ T, T = shM I1 (x + 1) a (I1 (x + 1) 1 * 3 + 0) := ⟨_, rfl⟩
    have hB1 : pB I1 (x + 1) := j2.pB c3.1
    have hv1 : pv I1 (x + 1) = pv I (x + 1) := j2.pv
    have a1 : Agr (pv T (x + 1)) (shP (pv I (x + 1)) a) := by rw [hT, ← hv1]; exact c_sh hB1
    have tp : ∀ p, ¬ p = x + 1 + 6 → T p = I1 p := fun p hp => by rw [hT]; exact funext fun j => shM_p hp
    rw [← hT] at j1 j3 j4 j5
    have jo : ∀ p, p < x + 1 ∨ (x + 17 < p ∧ p < x + 35) ∨ x + 54 < p → J p = I1 p := fun p hp => (j4 p (by omega)).trans (tp p (by omega))
    obtain ⟨v, hv⟩ : ∃ v, v = lsS (pv T (x + 1)) 0 := ⟨_, rfl⟩
    rw [← hv] at j1
    have l1 := lw_transpose (o := x + 105) h0 (by rw [gt_e j2.e]; exact i105.1) (by rw [gn_e j2.e]; exact i105.2) j1
    have jI := j2.o hSh jo
    have js : J s = I s := jI s (by omega)
    have j86 : J (x + 86) = I (x + 86) := jI _ (by omega)
    have j87 : J (x + 86 + 1) = I (x + 86 + 1) := jI _ (by omega)
    have mJ : mv J (x + 86) = mv I (x + 86) := by unfold mv; rw [j87]
    obtain ⟨L, hL⟩ : ∃ L, L = upd2 g'.2.1 (x + 105) 0 (iI v).toInt := ⟨_, rfl⟩
    rw [← hL] at l1
    have e1 : g'.1 = g.1 := j2.e
    have h6 : 0 ≤ J (x + 86) 6 ∧ J (x + 86) 6 ≤ 8 := by rw [j86, u6]; exact u10
    obtain ⟨K, K', L', k1, k2, k3, k4⟩ := s_transposeM (g := g') (I := J) (m := x + 86) (L := L) (d := a) (isM_e e1 iM) hWm mJ.symm h6 hq.1 (ft.mp hq.2)
    have k87 : K (x + 86 + 1) = I (x + 86 + 1) := (kpM_mv k2).trans j87
    have kmv : mv K (x + 86) = mv I (x + 86) := by unfold mv; rw [k87]
    obtain ⟨U, hU⟩ : ∃ U, U = shK K (x + 86) a (42 + 8 * K (x + 86 + 1) 0 + 2 + 0) := ⟨_, rfl⟩
    have a2 : Agr (mv U (x + 86)) (shP (mv I (x + 86)) a) := by
      rw [hU, ← kmv]
      exact agr_sh (by rw [k87]; exact eb.1) (by rw [k87]; exact fun e' e0 e1 => (hWm.2.2.1 e' e0 e1).1.2)
    have up : ∀ p, ¬ p = x + 86 + 1 → U p = K p := fun p hp => by rw [hU]; exact funext fun j => congrFun (shK_p hp) j
    rw [← hU] at k1 k3
    have pJ : pv J (x + 1) = pv T (x + 1) := pv_c (fun p p0 p1 => j4 p (by omega))
    have kK : mv K' (x + 86) = mv U (x + 86) := by
      unfold mv
      rw [k3 (x + 86 + 1) (by omega) (by omega) (by omega) (by omega) (by omega)]
    have hW : Wf (pv T (x + 1)) := Wf.agr (sh_Wf c4 hq.2) a1.symm
    have a3 : Agr (pv T (x + 1)) (mv U (x + 86)) := a1.trans ((sh_A c5).trans a2.symm)
    rw [← ls_A a3 hW, ← hv] at k1
    rw [ha] at l1 k1
    have kf : ∀ p, ¬ p = x + 86 + 1 → p < x + 94 ∨ x + 100 < p → K' p = K p := fun p p1 p2 => by
      rw [k3 p (by omega) (by omega) (by omega) (by omega) (by omega)]
      exact up p p1
    have t7 : K' (x + 86) 7 = 0 := by rw [kf (x + 86) (by omega) (by omega), k2.2.1 7 (by decide), upd2_at]
    have kl : L' (x + 105) 0 = (iI v).toInt := by rw [k4 (x + 105) (by omega) (by omega), hL, upd2_at]
    obtain ⟨p6, p7, p8, e⟩ := lt_transpose (g := g) (g1 := gL g' L) (g2 := gL g' L') (I := I) (od := x + 106) (o6 := o6) (o7 := o7) (o8 := o8) iS hii m0 i105 e1 e1 js l1 k1 (by decide) t7 (fun _ => kl)
    refine ⟨p6, p7, p8, gL g' L', K', e, lawI_rm (g' := g') hx hs h' j2 jo ⟨fun p p1 _ => funext fun j => upd2_p p1, fun i i7 => upd2_i i7⟩ k2 (fun p _ p1 p2 => kf p p1 p2) (fun i i0 => by rw [kf (x + 86) (by omega) (by omega)]) ?_ ?_ ?_ (Or.inr ?_) rfl rfl rfl, j2.ps.b⟩
    · exact pB_c (fun p p0 p1 => j4 p (by omega)) j3.1
    · rw [pJ]; exact hW
    · rw [pJ, kK]; exact a3
    · rw [pJ]; exact j5
  · have q1 := s_htransposeBad (g := g) (I := I) iH.hn c3 ra hq
    have l1 := lw_transpose_1 (o := x + 105) h0 q1
    have q2 := s_transposeBad (g := gexc g) (I := I) (m := x + 86) (isM_e (g := g) rfl iM) hWm rfl ra (fun z => hq ⟨z.1, ft.mpr z.2⟩)
    rw [ha] at l1 q2
    obtain ⟨p6, p7, p8, e⟩ := lt_transpose (g := g) (g1 := gexc g) (g2 := gexc g) (v := 1) (od := x + 106) (o6 := o6) (o7 := o7) (o8 := o8) iS hii m0 i105 rfl rfl rfl l1 q2 (by decide) upd2_at (fun z => absurd z (by decide))
    exact ⟨p6, p7, p8, gexc g, _, e, lawI_7 rfl rfl rfl hx hs h', budg_e⟩
theorem rd_fix (hx : 64 ≤ x) (hs : s < x) (hi : 0 ≤ i ∧ i + 6 ≤ N) (hN : (N : Int) < 2147483648) (hS : ∀ j, (-2147483648 ≤ S j ∧ S j < 2147483648)) (h : lawI s x S N g I) : rndL s x N S 263 i o6 o7 o8 g I := by
  have h' := h
  have hC := law_ch hx h'
  obtain ⟨iH, iM, i105, i106, ⟨iS, iN, iI'⟩, ⟨c1, c2, c3, c4, c5, c6⟩, c7, _, ⟨⟨u9, u10, u6⟩, _⟩, hSh⟩ := h
  have h0 := iH.1
  have m0 := iM.1
  have hii : 0 ≤ i ∧ i + 6 ≤ gn g s ∧ (gn g s : Int) < 2147483648 := by rw [iN]; omega
  have hWm : Wf (mv I (x + 86)) := c4.agr c5
  have eE : I (x + 1) 1 = I (x + 86 + 1) 0 := c5.2.1
  have eb : 0 ≤ I (x + 86 + 1) 0 ∧ I (x + 86 + 1) 0 ≤ 40 := hWm.2.1
  by_cases hz : lsS (pv I (x + 1)) 0 = -1
  · obtain ⟨J, j1, j2, j3⟩ := s_hfixNo iH.hn iH.2.2.2.1 c3 c7 hz
    have jm : mv J (x + 86) = mv I (x + 86) := by unfold mv; rw [j2 (x + 86 + 1) (by omega)]
    obtain ⟨K, L, k1, k2, k3⟩ := s_fixNo (g := gexc g) (I := J) (L := g.2.1) (isM_e (g := g) rfl iM) hWm jm.symm (by rw [← ls_A c5 c4]; exact hz)
    have l1 := lw_fix_1 (o := x + 105) h0 j1
    obtain ⟨p6, p7, p8, e⟩ := lt_fix (g := g) (g1 := gexc g) (g2 := gL (gexc g) L) (v := 1) (I := I) (od := x + 106) (o6 := o6) (o7 := o7) (o8 := o8) iS hii m0 i105 rfl rfl (j2 s (by omega)) l1 k1 (by decide) k2.2.2 (fun z => absurd z (by decide))
    exact ⟨p6, p7, p8, gL (gexc g) L, K, e, lawI_keep (g' := gL (gexc g) L) rfl rfl rfl ((kp_P hx hs j2).trans (kp_Q hx hs k2)) (plOk_Q j2 j3 k2) hx h', by show g.2.2.2.2.2.1 + 1 ≤ _; omega, by show g.2.2.2.2.2.2 + 6 ≤ _; omega⟩
  · obtain ⟨g', I1, I2, A, j1, jf, j2'⟩ := s_hfix hC c7 hz
    obtain ⟨P, hP⟩ : ∃ P, P = pv I (x + 1) := ⟨_, rfl⟩
    have hWP : Wf P := by rw [hP]; exact c4
    have pE1 : I (x + 1) 1 = pE P := by rw [hP]; rfl
    obtain ⟨J, hJ⟩ : ∃ J, J = fxI I2 (x + 9) P (I (x + 1) 1 * 3 + 0) := ⟨_, rfl⟩
    rw [← hP, ← hJ] at j1
    have j2 := j2'.f
    obtain ⟨I0, hI0⟩ : ∃ I0, I0 = upd2 I1 (x + 35) 0 0 := ⟨_, rfl⟩
    rw [← hI0] at j2
    have i0f : frP (x + 35) I I0 := fun p hp => by
      rw [hI0]
      exact (funext fun j => upd2_p (by omega)).trans (jf p hp)
    have hL0 : lawI s x S N g I0 := lawI_keep rfl rfl rfl (kp_P hx hs i0f) (Or.inl (by rw [hI0]; exact upd2_at)) hx h'
    have pv0 : pv I0 (x + 1) = P := by rw [hP]; exact pv_c (fun p p0 p1 => i0f p (by omega))
    have pv2 : pv I2 (x + 1) = P := j2.pv.trans pv0
    have jo : ∀ p, p < x + 1 ∨ (x + 17 < p ∧ p < x + 35) ∨ x + 54 < p → J p = I2 p := fun p hp => by rw [hJ]; exact fxI_p (by omega)
    have j35 : J (x + 35) 0 = 0 := by rw [hJ, fxI_p (show ¬ x + 35 = x + 9 by omega)]; exact j2.2.2.2.2.2.2.1
    obtain ⟨v, hv⟩ : ∃ v, v = fxS P := ⟨_, rfl⟩
    rw [← hv] at j1
    have l1 := lw_fix (o := x + 105) h0 (by rw [gt_e j2.e]; exact i105.1) (by rw [gn_e j2.e]; exact i105.2) j1
    have jI0 := j2.o hL0.2.2.2.2.2.2.2.2.2 jo
    have js : J s = I s := (jI0 s (by omega)).trans (i0f s (by omega))
    have j86 : J (x + 86) = I (x + 86) := (jI0 _ (by omega)).trans (i0f _ (by omega))
    have j87 : J (x + 86 + 1) = I (x + 86 + 1) := (jI0 _ (by omega)).trans (i0f _ (by omega))
    have mJ : mv J (x + 86) = mv I (x + 86) := by unfold mv; rw [j87]
    obtain ⟨L, hL⟩ : ∃ L, L = upd2 g'.2.1 (x + 105) 0 (iI v).toInt := ⟨_, rfl⟩
    rw [← hL] at l1
    have e1 : g'.1 = g.1 := j2.e
    have h6 : 0 ≤ J (x + 86) 6 ∧ J (x + 86) 6 ≤ 8 := by rw [j86, u6]; exact u10
    obtain ⟨J0, K, L', k1, k0, k2, k4⟩ := s_fixM (g := g') (I := J) (m := x + 86) (L := L) (isM_e e1 iM) hWm mJ.symm h6 (by rw [← ls_A c5 c4]; exact hz)
    have c5P : Agr P (mv I (x + 86)) := by rw [hP]; exact c5
    rw [← fx_A c5P, ← hv] at k1
    have k87 : K (x + 86 + 1) = I (x + 86 + 1) := by rw [k2.1 _ (by omega) (by omega), k0.1 _ (by omega) (by omega), j87]
    have kmv : mv K (x + 86) = mv I (x + 86) := by unfold mv; rw [k87]
    obtain ⟨K', hK'⟩ : ∃ K', K' = fxK K (x + 86) (mv I (x + 86)) (8 * pE (mv I (x + 86)) + 5 + 0) := ⟨_, rfl⟩
    rw [← hK'] at k1
    have ko : ∀ p, ¬ p = x + 86 + 1 → K' p = K p := fun p hp => by rw [hK']; exact funext fun j => congrFun (fxK_p hp) j
    have t7 : K' (x + 86) 7 = 0 := by rw [ko (x + 86) (by omega), k2.2.1 7 (by decide)]; exact k0.2.2
    have kl : L' (x + 105) 0 = (iI v).toInt := by rw [k4 (x + 105) (by omega) (by omega), hL, upd2_at]
    obtain ⟨p6, p7, p8, e⟩ := lt_fix (g := g) (g1 := gL g' L) (g2 := gL g' L') (I := I) (od := x + 106) (o6 := o6) (o7 := o7) (o8 := o8) iS hii m0 i105 e1 e1 js l1 k1 (by decide) t7 (fun _ => kl)
    have a1 : Agr (pv J (x + 1)) (fxP P) := by
      rw [hJ, pE1]; exact c_fx (q := x + 1) pv2 hWP
    have a2 : Agr (mv K' (x + 86)) (fxP (mv I (x + 86))) := by rw [hK']; exact m_fx kmv hWm
    exact ⟨p6, p7, p8, gL g' L', K', e, lawI_rm (g' := g') hx hs hL0 j2 jo ⟨fun p p1 p2 => k0.1 p p1 (by omega), fun i i7 => k0.2.1 i i7⟩ k2 (fun p p1 p2 _ => ko p p2) (fun i i0 => by rw [ko (x + 86) (by omega)]) (by rw [hJ]; exact fx_pB (q := x + 1) (j2.pB (pB_c (fun p p0 p1 => i0f p (by omega)) c3.1)) hWP (by rw [pE1])) (Wf.agr (fxP_Wf hWP) a1.symm) (a1.trans ((fxP_A c5P hWP).trans a2.symm)) (Or.inl j35) rfl rfl rfl, j2.ps.b⟩
end CH
