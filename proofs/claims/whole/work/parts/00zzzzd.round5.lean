/-! Rounds that read told fingers. -/
section RD5
variable {s x N : Nat} {S : Int → Int} {g g' : Gm} {I J K : Mm} {i : Int} {o6 o7 o8 : Option Value}
/-- places that matter, texts aside -/
def kp0 (s x : Nat) (I J : Mm) : Prop := (∀ p, (p = s ∨ p ≤ 40 ∨ (x ≤ p ∧ p ≤ x + 34) ∨ p = x + 87 ∨ (x + 90 ≤ p ∧ p ≤ x + 92) ∨ x + 107 ≤ p) → J p = I p) ∧ J (x + 86) 6 = I (x + 86) 6
theorem lawI_keep2 (h1 : g'.1 = g.1) (h4 : g'.2.2.2.1 = g.2.2.2.1) (h5 : gnx g' = gnx g) (hk : kp0 s x I J) (hp : plOk x J) (hT : lvT J x) (hx : 64 ≤ x) (h : lawI s x S N g I) : lawI s x S N g' J := by
  obtain ⟨iH, iM, i105, i106, ⟨iS, iN, iI⟩, ⟨c1, c2, c3, c4, c5, c6⟩, _, _, ⟨u1, u2, u3⟩, ⟨s1, s2, s3, s4, s5⟩⟩ := h
  obtain ⟨k1, k3⟩ := hk
  have hn : ∀ p, x + 1 ≤ p → p ≤ x + 34 → J p = I p := fun p a b => k1 p (by omega)
  have hA : ∀ A, x + 107 ≤ A → ∀ p, A ≤ p → p ≤ A + 16 → J p = I p := fun A a p b c => k1 p (by omega)
  have jx : J x = I x := k1 x (by omega)
  have j87 := k1 (x + 87) (by omega)
  have j90 := k1 (x + 90) (by omega)
  have j91 := k1 (x + 91) (by omega)
  have j92 := k1 (x + 92) (by omega)
  refine ⟨isH_e h1 iH, isM_e h1 iM, by rw [gt_e h1, gn_e h1]; exact i105, by rw [gt_e h1, gn_e h1]; exact i106, ⟨by rw [gt_e h1]; exact iS, by rw [gn_e h1]; exact iN, by rw [k1 s (by omega)]; exact iI⟩, ⟨isSt_e h1 (isSt_c (k1 0 (by omega)) (k1 1 (by omega)) c1), fun p p0 p1 => isTs_e h1 (isTs_c (k1 (p + 20) (by omega)) (c2 p p0 p1)), gd_c (fun p a b => hn p (by omega) (by omega)) c3, ?_, ?_, pB_c (fun p a b => hn p (by omega) (by omega)) c6⟩, hp, hT, ⟨?_, ?_, ?_⟩, ⟨?_, ?_, ?_, ?_, ?_⟩⟩
  · rw [pv_c (fun p a b => hn p (by omega) (by omega))]; exact c4
  · have e : mv J (x + 86) = mv I (x + 86) := by unfold mv; rw [j87]
    rw [pv_c (fun p a b => hn p (by omega) (by omega)), e]; exact c5
  · rw [jx, k3]; exact u1
  · intro j j0 j1
    rw [jx] at j1 ⊢
    obtain ⟨A, a1, a2, a3⟩ := u2 j j0 j1
    have a4 := (s1 _ _ A (Or.inl rfl) a1).2.2.1
    refine ⟨A, by rw [h4]; exact a1, ?_, ?_⟩
    · rw [pv_c (hA A a4), j90]; exact a2
    · rw [pv_c (hA A a4)]; exact a3
  · intro k k0 k1'
    rcases u3 k k0 k1' with ⟨a1, a2⟩ | ⟨A, a1, a2, a3, a5⟩
    · exact Or.inl ⟨by rw [h4]; exact a1, by rw [j92]; exact a2⟩
    · have a4 := (s1 _ _ A (Or.inr rfl) a1).2.2.1
      refine Or.inr ⟨A, by rw [h4]; exact a1, by rw [j92]; exact a2, ?_, ?_⟩
      · rw [pv_c (hA A a4), j91]; exact a3
      · rw [pv_c (hA A a4)]; exact a5
  · intro p i A hp hA'
    rw [h4] at hA'
    obtain ⟨b1, b2, b3, b4, b5⟩ := s1 p i A hp hA'
    exact ⟨(isPc_g h1).mpr b1, pB_c (hA A b3) b2, b3, by rw [h5]; exact b4, b5⟩
  · rw [h4]; exact s2
  · rw [h5]; exact s3
  · exact fun k => (isPc_g h1).mpr (s4 k)
  · intro p hp i
    rw [h5] at hp
    rw [k1 p (by omega)]
    exact s5 p hp i
theorem txB_0 {B : Int → Int} {n : Int} (h : txB B n) : txB B 0 := ⟨by decide, fun i a b => by omega⟩
/-- told fingers leave this -/
theorem lawI_told {v : Int} (hx : 64 ≤ x) (hs : s < x) (h : lawI s x S N g I) (hI : tdI x v I J) (hM : tdM (x + 86) v J K) : lawI s x S N g K := by
  have h' := h
  obtain ⟨iH, iM, i105, i106, iS, _, c7, ⟨t1, t2, t3, t4, L, t5, t6, t7, t8, t9⟩, _, _⟩ := h
  obtain ⟨a1, a2, a3⟩ := hI
  obtain ⟨b1, b2, b3, b4, b5⟩ := hM
  have hf : ∀ p, ¬ p = x + 75 → ¬ p = x + 79 → ¬ p = x + 86 → ¬ p = x + 94 → ¬ p = x + 103 → K p = I p := fun p z1 z2 z3 z4 z5 => (b1 p z3 z4 z5).trans (a1 p z1 z2)
  have j86 : J (x + 86) = I (x + 86) := a1 _ (by omega) (by omega)
  have k75 : K (x + 75) = J (x + 75) := b1 _ (by omega) (by omega) (by omega)
  refine lawI_keep2 rfl rfl rfl ⟨fun p hp => hf p (by omega) (by omega) (by omega) (by omega) (by omega), ?_⟩ (plOk_c (fun p z1 z2 => hf p (by omega) (by omega) (by omega) (by omega) (by omega)) c7) ⟨?_, ?_, ?_, ?_, L, ?_, ?_, ?_, ?_, t9⟩ hx h'
  · rw [b5 6 (by decide) (by decide) (by decide) (by decide) (by decide) (by decide) (by decide) (by decide) (by decide), j86]
  · rw [hf (x + 77) (by omega) (by omega) (by omega) (by omega) (by omega), k75, a2]; exact txB_0 t1
  · rw [hf (x + 77) (by omega) (by omega) (by omega) (by omega) (by omega), hf (x + 93) (by omega) (by omega) (by omega) (by omega) (by omega)]; exact t2
  · rw [k75, a2, b3]
  · rw [k75, a3, b4]
  · exact hL_c t5 (hf (x + 81) (by omega) (by omega) (by omega) (by omega) (by omega))
  · rw [hf x (by omega) (by omega) (by omega) (by omega) (by omega)]; exact t6
  · exact hL_c t7 (hf (x + 104) (by omega) (by omega) (by omega) (by omega) (by omega))
  · rw [b5 29 (by decide) (by decide) (by decide) (by decide) (by decide) (by decide) (by decide) (by decide) (by decide), j86]; exact t8
theorem rd_costOfTold (hx : 64 ≤ x) (hs : s < x) (h : lawI s x S N g I) : rndL s x N S 150 i o6 o7 o8 g I := by
  have h' := h
  obtain ⟨iH, iM, i105, i106, iS, ⟨c1, c2, c3, c4, c5, c6⟩, c7, ⟨t1, t2, t3, t4, _⟩, _, _⟩ := h
  have hWm : Wf (mv I (x + 86)) := c4.agr c5
  have eT := gTl_A (B := I (x + 77)) (n := I (x + 75) 1) c5 c4.2.1.1
  rcases s_hcostOfTold (g := g) iH t1 c3 rfl c4 rfl rfl with ⟨e, J, g1, j1, j2⟩ | ⟨F, J, g1, j1, j2⟩
  · have jm : mv J (x + 86) = mv I (x + 86) := by unfold mv; rw [j2.1 (x + 86 + 1) (by omega) (by omega)]
    rcases s_mcostOfTold (g := g) (I := J) (m := x + 86) iM t1 ((j2.1 (x + 86 + 7) (by omega) (by omega)).trans t2.symm) (by rw [j2.1 (x + 86) (by omega) (by omega)]; exact t3.symm) jm.symm hWm with ⟨e', K, g2, k1, k2⟩ | ⟨F', K, g2, k1, k2⟩
    · rw [← eT, g1] at g2
      have ee : e = e' := Sum.inl.inj g2
      rw [← ee] at k1 k2
      exact ⟨o6, o7, o8, g, K, lt_costOfTold iH.1 iM.1 j1 k1 rfl, lawI_told hx hs h' j2 k2, Nat.le_add_right _ _, Nat.le_add_right _ _⟩
    · rw [← eT, g1] at g2; cases g2
  · have jm : mv J (x + 86) = mv I (x + 86) := by unfold mv; rw [j2.1 (x + 86 + 1) (by omega) (by omega)]
    rcases s_mcostOfTold (g := g) (I := J) (m := x + 86) iM t1 ((j2.1 (x + 86 + 7) (by omega) (by omega)).trans t2.symm) (by rw [j2.1 (x + 86) (by omega) (by omega)]; exact t3.symm) jm.symm hWm with ⟨e', K, g2, k1, k2⟩ | ⟨F', K, g2, k1, k2⟩
    · rw [← eT, g1] at g2; cases g2
    · rw [← eT, g1] at g2
      have ee : F = F' := Sum.inr.inj g2
      rw [← ee] at k1
      exact ⟨o6, o7, o8, g, K, lt_costOfTold iH.1 iM.1 j1 k1 (by rw [tcV_A c5 c4 (gTl_ok g1)]), lawI_told hx hs h' j2 k2, Nat.le_add_right _ _, Nat.le_add_right _ _⟩
theorem rd_faultOfTold (hx : 64 ≤ x) (hs : s < x) (h : lawI s x S N g I) : rndL s x N S 154 i o6 o7 o8 g I := by
  have h' := h
  obtain ⟨iH, iM, i105, i106, iS, ⟨c1, c2, c3, c4, c5, c6⟩, c7, ⟨t1, t2, t3, t4, _⟩, _, _⟩ := h
  have hWm : Wf (mv I (x + 86)) := c4.agr c5
  have eT := gTl_A (B := I (x + 77)) (n := I (x + 75) 1) c5 c4.2.1.1
  rcases s_hfaultOfTold (g := g) iH t1 c3 rfl c4 rfl rfl with ⟨e, J, g1, j1, j2⟩ | ⟨F, J, g1, j1, j2⟩
  · have jm : mv J (x + 86) = mv I (x + 86) := by unfold mv; rw [j2.1 (x + 86 + 1) (by omega) (by omega)]
    rcases s_mfaultOfTold (g := g) (I := J) (m := x + 86) iM t1 ((j2.1 (x + 86 + 7) (by omega) (by omega)).trans t2.symm) (by rw [j2.1 (x + 86) (by omega) (by omega)]; exact t3.symm) jm.symm hWm with ⟨e', K, g2, k1, k2⟩ | ⟨F', K, g2, k1, k2⟩
    · rw [← eT, g1] at g2
      have ee : e = e' := Sum.inl.inj g2
      rw [← ee] at k1 k2
      exact ⟨o6, o7, o8, g, K, lt_faultOfTold iH.1 iM.1 j1 k1 rfl, lawI_told hx hs h' j2 k2, Nat.le_add_right _ _, Nat.le_add_right _ _⟩
    · rw [← eT, g1] at g2; cases g2
  · have jm : mv J (x + 86) = mv I (x + 86) := by unfold mv; rw [j2.1 (x + 86 + 1) (by omega) (by omega)]
    rcases s_mfaultOfTold (g := g) (I := J) (m := x + 86) iM t1 ((j2.1 (x + 86 + 7) (by omega) (by omega)).trans t2.symm) (by rw [j2.1 (x + 86) (by omega) (by omega)]; exact t3.symm) jm.symm hWm with ⟨e', K, g2, k1, k2⟩ | ⟨F', K, g2, k1, k2⟩
    · rw [← eT, g1] at g2; cases g2
    · rw [← eT, g1] at g2
      have ee : F = F' := Sum.inr.inj g2
      rw [← ee] at k1
      exact ⟨o6, o7, o8, g, K, lt_faultOfTold iH.1 iM.1 j1 k1 (by rw [tfV_A c5 c4 (gTl_ok g1)]), lawI_told hx hs h' j2 k2, Nat.le_add_right _ _, Nat.le_add_right _ _⟩
end RD5
