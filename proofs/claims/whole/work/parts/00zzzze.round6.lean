/-! The round of append. -/
section RD6
variable {s x N : Nat} {S : Int → Int} {g : Gm} {I J K : Mm} {i : Int} {o6 o7 o8 : Option Value}
theorem lawI_app {f : Int → Int} {g' : Gm} (h1 : g'.1 = g.1) (h4 : g'.2.2.2.1 = g.2.2.2.1) (h5 : gnx g' = gnx g) (hx : 64 ≤ x) (hs : s < x) (h : lawI s x S N g I) (hf : ∀ i, 0 ≤ f i ∧ f i ≤ 255) (hn : I (x + 75) 1 + czS f 20 ≤ 600) (hI : stA (x + 75) I f 20 J) (hM : stB (x + 86) J f 20 K) : lawI s x S N g' K := by
  have h' := h
  obtain ⟨iH, iM, i105, i106, iS, _, c7, ⟨t1, t2, t3, t4, L, t5, t6, t7, t8, t9⟩, _, _⟩ := h
  obtain ⟨a1, a2, a3, a4⟩ := hI
  obtain ⟨b1, b2, b3, b4, b5⟩ := hM
  have a3 : J (x + 77) = (puN (I (x + 77)) (I (x + 75) 1) f 20).1 := a3
  have a4 : J (x + 75) 1 = (puN (I (x + 77)) (I (x + 75) 1) f 20).2 := a4
  have b3 : K (x + 93) = (puN (J (x + 93)) (J (x + 86) 9) f 20).1 := b3
  have b4 : K (x + 86) 9 = (puN (J (x + 93)) (J (x + 86) 9) f 20).2 := b4
  have hp : ∀ p, ¬ p = x + 75 → ¬ p = x + 77 → ¬ p = x + 86 → ¬ p = x + 93 → K p = I p := fun p z1 z2 z3 z4 => (b1 p z3 z4).trans (a1 p z1 z2)
  have j86 : J (x + 86) = I (x + 86) := a1 _ (by omega) (by omega)
  have j93 : J (x + 93) = I (x + 93) := a1 _ (by omega) (by omega)
  have k75 : K (x + 75) = J (x + 75) := b1 _ (by omega) (by omega)
  have k77 : K (x + 77) = J (x + 77) := b1 _ (by omega) (by omega)
  rw [j93, j86, ← t2, ← t3] at b3 b4
  refine lawI_keep2 h1 h4 h5 ⟨fun p hq => hp p (by omega) (by omega) (by omega) (by omega), ?_⟩ (plOk_c (fun p z1 z2 => hp p (by omega) (by omega) (by omega) (by omega)) c7) ⟨?_, ?_, ?_, ?_, L, ?_, ?_, ?_, ?_, t9⟩ hx h'
  · rw [b2 6 (by decide) (by decide), j86]
  · rw [k77, k75, a3, a4]; exact puN_tx t1 hf 20 hn
  · rw [k77, a3, b3]
  · rw [k75, a4, b4]
  · rw [k75, a2 3 (by decide), b2 16 (by decide) (by decide), j86]; exact t4
  · exact hL_c t5 (hp (x + 81) (by omega) (by omega) (by omega) (by omega))
  · rw [hp x (by omega) (by omega) (by omega) (by omega)]; exact t6
  · exact hL_c t7 (hp (x + 104) (by omega) (by omega) (by omega) (by omega))
  · rw [b2 29 (by decide) (by decide), j86]; exact t8
theorem rd_append (hx : 64 ≤ x) (hs : s < x) (hi : 0 ≤ i ∧ i + 6 ≤ N) (hN : (N : Int) < 2147483648) (h : lawI s x S N g I) : rndL s x N S 5 i o6 o7 o8 g I := by
  have h' := h
  obtain ⟨iH, iM, i105, i106, ⟨iS, iN, iI'⟩, ⟨c1, c2, c3, c4, c5, c6⟩, c7, ⟨t1, t2, t3, t4, _⟩, _, _⟩ := h
  have hii : 0 ≤ i ∧ i + 6 ≤ gn g s ∧ (gn g s : Int) < 2147483648 := by rw [iN]; omega
  obtain ⟨f, hf⟩ : ∃ f, f = by5 (I s (i + 1)) (I s (i + 2)) (I s (i + 3)) (I s (i + 4)) (I s (i + 5)) := ⟨_, rfl⟩
  have fb : ∀ i, 0 ≤ f i ∧ f i ≤ 255 := fun i => by rw [hf]; exact by5_b
  have tm : txB (I (x + 86 + 7)) (I (x + 86) 9) := by
    have : txB (I (x + 93)) (I (x + 86) 9) := by rw [← t2, ← t3]; exact t1
    exact this
  by_cases hq : I (x + 75) 1 + czS f 20 ≤ 600
  · obtain ⟨J, j1, j2⟩ := s_happend (g := g) (I := I) (a := I s (i + 1)) (b := I s (i + 2)) (c := I s (i + 3)) (d := I s (i + 4)) (e := I s (i + 5)) iH t1 (by rw [← hf]; exact hq)
    rw [← hf] at j1 j2
    have l1 := lw_append (o := x + 105) iH.1 i105.1 i105.2 j1
    have j86 : J (x + 86) = I (x + 86) := j2.1 _ (by omega) (by omega)
    have j93 : J (x + 86 + 7) = I (x + 86 + 7) := j2.1 _ (by omega) (by omega)
    have js : J s = I s := j2.1 s (by omega) (by omega)
    obtain ⟨K, k1, k2⟩ := s_mappend (g := gL g (upd2 g.2.1 (x + 105) 0 (iI (I (x + 75) 1 + czS f 20)).toInt)) (I := J) (m := x + 86) (a := I s (i + 1)) (b := I s (i + 2)) (c := I s (i + 3)) (d := I s (i + 4)) (e := I s (i + 5)) (isM_e (g := g) rfl iM) (by rw [j93, j86]; exact tm) (by rw [← hf, j86, ← t3]; exact hq)
    rw [← hf, j86, ← t3] at k1
    rw [← hf] at k2
    obtain ⟨p6, p7, p8, e⟩ := lt_append (g := g) (g1 := gL g (upd2 g.2.1 (x + 105) 0 (iI (I (x + 75) 1 + czS f 20)).toInt)) (g2 := gL g (upd2 g.2.1 (x + 105) 0 (iI (I (x + 75) 1 + czS f 20)).toInt)) (I := I) (od := x + 106) (o6 := o6) (o7 := o7) (o8 := o8) iS hii iM.1 i105 rfl rfl js l1 k1 (by decide) k2.2.2.2.2 (fun _ => upd2_at)
    exact ⟨p6, p7, p8, _, K, e, lawI_app (g' := gL g _) rfl rfl rfl hx hs h' fb hq j2 k2, budg_L⟩
  · have q1 := s_happendBad (g := g) (I := I) (a := I s (i + 1)) (b := I s (i + 2)) (c := I s (i + 3)) (d := I s (i + 4)) (e := I s (i + 5)) iH t1 (by rw [← hf]; exact hq)
    have l1 := lw_append_1 (o := x + 105) iH.1 q1
    have q2 := s_mappendBad (g := gexc g) (I := I) (m := x + 86) (a := I s (i + 1)) (b := I s (i + 2)) (c := I s (i + 3)) (d := I s (i + 4)) (e := I s (i + 5)) (isM_e (g := g) rfl iM) tm (by rw [← hf, ← t3]; exact hq)
    obtain ⟨p6, p7, p8, e⟩ := lt_append (g := g) (g1 := gexc g) (g2 := gexc g) (v := 1) (od := x + 106) (o6 := o6) (o7 := o7) (o8 := o8) iS hii iM.1 i105 rfl rfl rfl l1 q2 (by decide) upd2_at (fun z => absurd z (by decide))
    exact ⟨p6, p7, p8, gexc g, _, e, lawI_7 rfl rfl rfl hx hs h', budg_e⟩
end RD6
