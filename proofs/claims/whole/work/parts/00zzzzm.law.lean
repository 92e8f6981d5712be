/-! The law: its rounds one after another; it answers 1. -/
section LW
variable {s x N : Nat} {S : Int → Int} {g : Gm} {I : Mm} {i : Int} {o6 o7 o8 : Option Value}
theorem rndL_of {b b' : Nat} (e : rn 291 b [some (.ref s), some (.ref x), some (.ref (x + 86)), some (.ref (x + 105)), some (.ref (x + 106)), some (.int (iI i)), o6, o7, o8] [] (mk g I) = rn 291 b' [some (.ref s), some (.ref x), some (.ref (x + 86)), some (.ref (x + 105)), some (.ref (x + 106)), some (.int (iI i)), o6, o7, o8] [] (mk g I)) (h : rndL s x N S b' i o6 o7 o8 g I) : rndL s x N S b i o6 o7 o8 g I := by
  obtain ⟨p6, p7, p8, g', I', h1, h2, h3⟩ := h
  exact ⟨p6, p7, p8, g', I', e.trans h1, h2, h3⟩
/-- a round -/
theorem rd_all (hx : 64 ≤ x) (hs : s < x) (hi : 0 ≤ i ∧ i + 6 ≤ N) (hN : (N : Int) < 2147483648) (hS : ∀ j, (-2147483648 ≤ S j ∧ S j < 2147483648)) (h : lawI s x S N g I) : rndL s x N S 4 i o6 o7 o8 g I := by
  have h' := h
  obtain ⟨iH, iM, i105, i106, ⟨iS, iN, iI'⟩, _⟩ := h'
  have e := w_291_4 (p0 := s) (p1 := x) (p2 := x + 86) (p3 := x + 105) (p4 := x + 106) (x5 := i) (o6 := o6) (o7 := o7) (o8 := o8) (g := g) (I := I) iS hi.1 (by rw [iN]; omega) (by omega) and_b.1 and_b.2
  obtain ⟨c, hc⟩ : ∃ c, c = andI (I s i) 63 := ⟨_, rfl⟩
  rw [← hc] at e
  by_cases c0 : c = 0
  · rw [if_pos c0] at e; exact rndL_of e (rd_append hx hs hi hN h)
  rw [if_neg c0] at e
  by_cases c1 : c = 1
  · rw [if_pos c1] at e; exact rndL_of e (rd_load hx hs hi hN hS h)
  rw [if_neg c1] at e
  by_cases c2 : c = 2
  · rw [if_pos c2] at e; exact rndL_of e (rd_errorPosition hx hs h)
  rw [if_neg c2] at e
  by_cases c3 : c = 3
  · rw [if_pos c3] at e; exact rndL_of e (rd_count hx hs hi hN hS h)
  rw [if_neg c3] at e
  by_cases c4 : c = 4
  · rw [if_pos c4] at e; exact rndL_of e (rd_event hx hs hi hN hS h)
  rw [if_neg c4] at e
  by_cases c5 : c = 5
  · rw [if_pos c5] at e; exact rndL_of e (rd_note hx hs hi hN hS h)
  rw [if_neg c5] at e
  by_cases c6 : c = 6
  · rw [if_pos c6] at e; exact rndL_of e (rd_weight hx hs hi hN hS h)
  rw [if_neg c6] at e
  by_cases c7 : c = 7
  · rw [if_pos c7] at e; exact rndL_of e (rd_span hx hs hi hN hS h)
  rw [if_neg c7] at e
  by_cases c8 : c = 8
  · rw [if_pos c8] at e; exact rndL_of e (rd_link hx hs hi hN hS h)
  rw [if_neg c8] at e
  by_cases c9 : c = 9
  · rw [if_pos c9] at e; exact rndL_of e (rd_best hx hs h)
  rw [if_neg c9] at e
  by_cases c10 : c = 10
  · rw [if_pos c10] at e; exact rndL_of e (rd_finger hx hs hi hN hS h)
  rw [if_neg c10] at e
  by_cases c11 : c = 11
  · rw [if_pos c11] at e; exact rndL_of e (rd_part hx hs hi hN hS h)
  rw [if_neg c11] at e
  by_cases c12 : c = 12
  · rw [if_pos c12] at e; exact rndL_of e (rd_many hx hs hi hN hS h)
  rw [if_neg c12] at e
  by_cases c13 : c = 13
  · rw [if_pos c13] at e; exact rndL_of e (rd_costWith hx hs hi hN hS h)
  rw [if_neg c13] at e
  by_cases c14 : c = 14
  · rw [if_pos c14] at e; exact rndL_of e (rd_reaches hx hs h)
  rw [if_neg c14] at e
  by_cases c15 : c = 15
  · rw [if_pos c15] at e; exact rndL_of e (rd_uses hx hs hi hN hS h)
  rw [if_neg c15] at e
  by_cases c16 : c = 16
  · rw [if_pos c16] at e; exact rndL_of e (rd_sure hx hs hi hN h)
  rw [if_neg c16] at e
  by_cases c17 : c = 17
  · rw [if_pos c17] at e; exact rndL_of e (rd_mean hx hs hi hN hS h)
  rw [if_neg c17] at e
  by_cases c18 : c = 18
  · rw [if_pos c18] at e; exact rndL_of e (rd_costOfTold hx hs h)
  rw [if_neg c18] at e
  by_cases c19 : c = 19
  · rw [if_pos c19] at e; exact rndL_of e (rd_faultOfTold hx hs h)
  rw [if_neg c19] at e
  by_cases c20 : c = 20
  · rw [if_pos c20] at e; exact rndL_of e (rd_otherHand hx hs hi hN hS h)
  rw [if_neg c20] at e
  by_cases c21 : c = 21
  · rw [if_pos c21] at e; exact rndL_of e (rd_transposed hx hs hi hN hS h)
  rw [if_neg c21] at e
  by_cases c22 : c = 22
  · rw [if_pos c22] at e; exact rndL_of e (rd_easiest hx hs hi hN hS h)
  rw [if_neg c22] at e
  by_cases c23 : c = 23
  · rw [if_pos c23] at e; exact rndL_of e (rd_restBehind hx hs hi hN hS h)
  rw [if_neg c23] at e
  by_cases c24 : c = 24
  · rw [if_pos c24] at e; exact rndL_of e (rd_play hx hs hi hN hS h)
  rw [if_neg c24] at e
  by_cases c25 : c = 25
  · rw [if_pos c25] at e; exact rndL_of e (rd_drop hx hs hi hN hS h)
  rw [if_neg c25] at e
  by_cases c26 : c = 26
  · rw [if_pos c26] at e; exact rndL_of e (rd_setRest hx hs hi hN hS h)
  rw [if_neg c26] at e
  by_cases c27 : c = 27
  · rw [if_pos c27] at e; exact rndL_of e (rd_let hx hs hi hN hS h)
  rw [if_neg c27] at e
  by_cases c28 : c = 28
  · rw [if_pos c28] at e; exact rndL_of e (rd_setWeight hx hs hi hN hS h)
  rw [if_neg c28] at e
  by_cases c29 : c = 29
  · rw [if_pos c29] at e; exact rndL_of e (rd_setSpan hx hs hi hN hS h)
  rw [if_neg c29] at e
  by_cases c30 : c = 30
  · rw [if_pos c30] at e; exact rndL_of e (rd_setHand hx hs hi hN hS h)
  rw [if_neg c30] at e
  by_cases c31 : c = 31
  · rw [if_pos c31] at e; exact rndL_of e (rd_transpose hx hs hi hN hS h)
  rw [if_neg c31] at e
  by_cases c32 : c = 32
  · rw [if_pos c32] at e; exact rndL_of e (rd_fix hx hs hi hN hS h)
  rw [if_neg c32] at e
  by_cases c33 : c = 33
  · rw [if_pos c33] at e; exact rndL_of e (rd_undo hx hs hi hN hS h)
  rw [if_neg c33] at e
  by_cases c34 : c = 34
  · rw [if_pos c34] at e; exact rndL_of e (rd_save hx hs hi hN hS h)
  rw [if_neg c34] at e
  by_cases c35 : c = 35
  · rw [if_pos c35] at e; exact rndL_of e (rd_restore hx hs hi hN hS h)
  rw [if_neg c35] at e
  by_cases c36 : c = 36
  · rw [if_pos c36] at e; exact rndL_of e (rd_writeFingers hx hs hi hN hS h)
  rw [if_neg c36] at e
  by_cases c37 : c = 37
  · rw [if_pos c37] at e; exact rndL_of e (rd_writtenByte hx hs hi hN hS h)
  rw [if_neg c37] at e
  exact ⟨o6, o7, o8, g, I, e, h, Nat.le_add_right _ _, Nat.le_add_right _ _⟩
theorem law_loop (hx : 64 ≤ x) (hs : s < x) (hN : N ≤ 1000000) (hS : ∀ j, (-2147483648 ≤ S j ∧ S j < 2147483648)) : ∀ (n : Nat) (i : Int) (o6 o7 o8 : Option Value) (g : Gm) (I : Mm), 0 ≤ i → i ≤ 1000006 → (N : Int) < i + 6 * n + 6 → lawI s x S N g I → ∃ g' I', rn 291 3 [some (.ref s), some (.ref x), some (.ref (x + 86)), some (.ref (x + 105)), some (.ref (x + 106)), some (.int (iI i)), o6, o7, o8] [] (mk g I) = some (.inl (some (.int (iI 1))), mk g' I') ∧ g'.2.2.2.2.2.1 ≤ g.2.2.2.2.2.1 + 17 * n ∧ g'.2.2.2.2.2.2 ≤ g.2.2.2.2.2.2 + 423 * n := by
  intro n
  induction n with
  | zero =>
    intro i o6 o7 o8 g I i0 i1 hb h
    obtain ⟨iH, iM, i105, i106, ⟨iS, iN, iI'⟩, _⟩ := h
    refine ⟨g, I, ?_, Nat.le_refl _, Nat.le_refl _⟩
    have iS' : gt g s = 0 ∨ gt g s = 1 ∨ gt g s = 4 ∨ gt g s = 7 := by omega
    refine (w_291_3 (by first | omega | assumption) (by first | omega | assumption) (by first | omega | assumption) (by first | omega | assumption) (by first | omega | assumption)).trans ?_
    refine (if_pos (show (gn g s : Int) - 6 < i by omega)).trans ?_
    exact w_291_315
  | succ n ih =>
    intro i o6 o7 o8 g I i0 i1 hb h
    have h' := h
    obtain ⟨iH, iM, i105, i106, ⟨iS, iN, iI'⟩, _⟩ := h'
    have iS' : gt g s = 0 ∨ gt g s = 1 ∨ gt g s = 4 ∨ gt g s = 7 := by omega
    by_cases hc : (gn g s : Int) - 6 < i
    · refine ⟨g, I, ?_, Nat.le_add_right _ _, Nat.le_add_right _ _⟩
      refine (w_291_3 (by first | omega | assumption) (by first | omega | assumption) (by first | omega | assumption) (by first | omega | assumption) (by first | omega | assumption)).trans ?_
      refine (if_pos hc).trans ?_
      exact w_291_315
    · obtain ⟨p6, p7, p8, g', I', e1, h1, b1, b2⟩ := rd_all (i := i) (o6 := o6) (o7 := o7) (o8 := o8) hx hs (by omega) (by omega) hS h
      obtain ⟨g2, I2, e2, b3, b4⟩ := ih (i + 6) p6 p7 p8 g' I' (by omega) (by omega) (by omega) h1
      refine ⟨g2, I2, ?_, by omega, by omega⟩
      have e3 : rn 291 3 [some (.ref s), some (.ref x), some (.ref (x + 86)), some (.ref (x + 105)), some (.ref (x + 106)), some (.int (iI i)), o6, o7, o8] [] (mk g I) = rn 291 4 [some (.ref s), some (.ref x), some (.ref (x + 86)), some (.ref (x + 105)), some (.ref (x + 106)), some (.int (iI i)), o6, o7, o8] [] (mk g I) := by
        refine (w_291_3 (by first | omega | assumption) (by first | omega | assumption) (by first | omega | assumption) (by first | omega | assumption) (by first | omega | assumption)).trans ?_
        exact if_neg hc
      refine e3.trans (e1.trans ?_)
      refine (w_291_314).trans ?_
      exact e2
end LW
section LB
variable {g : Gm} {I : Mm} {s N : Nat} {S : Int → Int}
theorem lsJ_o {p r : Nat} (h : ¬ r = p + 86) (h1 : ¬ r = p + 87) : lsJ I p r = lsI I p r := by
  unfold lsJ
  rw [bgW_p h h1]
  exact funext fun j => upd2_p h
theorem lsJ_f {p r : Nat} (h : r < p + 1 ∨ p + 75 < r) (h0 : ¬ r = p + 86) (h1 : ¬ r = p + 87) : lsJ I p r = I r := (lsJ_o h0 h1).trans (lsI_o h)
theorem lsJ_1 {p r : Nat} (h : p + 1 ≤ r) (h1 : r ≤ p + 17) : lsJ I p r = bgM I (p + 1) r := by
  rw [lsJ_o (by omega) (by omega)]
  have e : lsI I p r = bgM (bgM I (p + 1)) (p + 18) r := by unfold lsI; exact funext fun j => upd2_p (by omega)
  rw [e, bgM_o (by omega) (by omega) (by omega) (by omega) (by omega)]
theorem lsJ_18 {p r : Nat} (h : p + 18 ≤ r) (h1 : r ≤ p + 34) : lsJ I p r = bgM (bgM I (p + 1)) (p + 18) r := by
  rw [lsJ_o (by omega) (by omega)]
  unfold lsI; exact funext fun j => upd2_p (by omega)
theorem lsJ_35 {p r : Nat} (h : p + 35 ≤ r) (h1 : r < p + 75) : lsJ I p r = I r := by
  rw [lsJ_o (by omega) (by omega)]
  have e : lsI I p r = bgM (bgM I (p + 1)) (p + 18) r := by unfold lsI; exact funext fun j => upd2_p (by omega)
  rw [e, bgM_o (by omega) (by omega) (by omega) (by omega) (by omega), bgM_o (by omega) (by omega) (by omega) (by omega) (by omega)]
theorem lsJ_75 {p : Nat} {i : Int} : lsJ I p (p + 75) i = if i = 3 then -1 else I (p + 75) i := by
  rw [lsJ_o (by omega) (by omega)]
  unfold lsI
  by_cases h : i = 3
  · rw [h, if_pos rfl, upd2_at]
  · rw [if_neg h, upd2_i h, bgM_o (by omega) (by omega) (by omega) (by omega) (by omega), bgM_o (by omega) (by omega) (by omega) (by omega) (by omega)]
theorem lsJ_86 {p : Nat} {i : Int} (h : ¬ i = 10) : lsJ I p (p + 86) i = if i = 16 then -1 else I (p + 86) i := by
  unfold lsJ
  rw [bgW_i h]
  by_cases h6 : i = 16
  · rw [h6, if_pos rfl, upd2_at]
  · rw [if_neg h6, upd2_i h6, lsI_o (by omega)]
/-- when the law has begun -/
theorem law_begin (hp : isH g (gnx g)) (hm : isM g (gnx g + 86)) (hst : isSt g I) (hts : ∀ p, 3 ≤ p → p ≤ 20 → isTs g I p) (hx : 64 ≤ gnx g) (hz : ∀ p, gnx g ≤ p → ∀ i, I p i = 0) (hQ : ∀ p, gnx g ≤ p → ∀ i, g.2.2.2.1 p i = none) (a1 : g.1 (gnx g + 105) = .inl (1, 1)) (a2 : g.1 (gnx g + 106) = .inl (2, 1)) (hpc : ∀ k : Nat, isPc g (gnx g + 107 + 17 * k)) (hs : s < gnx g) (hsc : gt g s = 0 ∨ gt g s = 7) (hn : gn g s = N) (hI : I s = S) : lawI s (gnx g) S N (gC g 107 24543) (lsJ I (gnx g)) := by
  obtain ⟨x, ex⟩ : ∃ x, x = gnx g := ⟨_, rfl⟩
  have eg : gnx (gC g 107 24543) = x + 107 := by rw [ex]; rfl
  rw [← ex] at hp hm hx hz hQ a1 a2 hpc hs ⊢
  have z0 : ∀ (q : Nat), x + 1 ≤ q → ∀ i, 0 ≤ I q i ∧ I q i ≤ 0 := fun q hq i => by rw [hz q (by omega) i]; omega
  have b1 : pB (bgM I (x + 1)) (x + 1) := bgM_pB (fun i => by have := z0 (x + 1 + 2) (by omega) i; omega) (fun i => by have := z0 (x + 1 + 4) (by omega) i; omega) (fun i => by have := z0 (x + 1 + 6) (by omega) i; omega) (fun i => by have := z0 (x + 1 + 8) (by omega) i; omega) (fun i => by have := z0 (x + 1 + 10) (by omega) i; omega) (fun i => by have := z0 (x + 1 + 12) (by omega) i; omega) (fun i => by have := z0 (x + 1 + 14) (by omega) i; omega) (fun i => by have := z0 (x + 1 + 16) (by omega) i; omega)
  have z1 : ∀ (q : Nat), x + 18 ≤ q → ∀ i, 0 ≤ bgM I (x + 1) q i ∧ bgM I (x + 1) q i ≤ 0 := fun q hq i => by
    rw [bgM_o (by omega) (by omega) (by omega) (by omega) (by omega)]
    exact z0 q (by omega) i
  have b18 : pB (bgM (bgM I (x + 1)) (x + 18)) (x + 18) := bgM_pB (fun i => by have := z1 (x + 18 + 2) (by omega) i; omega) (fun i => by have := z1 (x + 18 + 4) (by omega) i; omega) (fun i => by have := z1 (x + 18 + 6) (by omega) i; omega) (fun i => by have := z1 (x + 18 + 8) (by omega) i; omega) (fun i => by have := z1 (x + 18 + 10) (by omega) i; omega) (fun i => by have := z1 (x + 18 + 12) (by omega) i; omega) (fun i => by have := z1 (x + 18 + 14) (by omega) i; omega) (fun i => by have := z1 (x + 18 + 16) (by omega) i; omega)
  have pv1 : pv (lsJ I x) (x + 1) = pv (bgM I (x + 1)) (x + 1) := pv_c (fun p p0 p1 => lsJ_1 p0 (by omega))
  have pB1 : pB (lsJ I x) (x + 1) := pB_c (fun p p0 p1 => lsJ_1 p0 (by omega)) b1
  have bg1 : bgP (pv (lsJ I x) (x + 1)) := by rw [pv1]; exact bgM_bg
  have bg2 : bgP (mv (lsJ I x) (x + 86)) := bgW_bg
  have q77 : lsJ I x (x + 77) = I (x + 77) := lsJ_f (by omega) (by omega) (by omega)
  have q93 : lsJ I x (x + 93) = I (x + 93) := lsJ_f (by omega) (by omega) (by omega)
  have qx : lsJ I x x = I x := lsJ_f (by omega) (by omega) (by omega)
  have q75 : lsJ I x (x + 75) 1 = 0 := by rw [lsJ_75, if_neg (by decide)]; exact hz _ (by omega) _
  refine ⟨isH_e (g := g) rfl hp, isM_e (g := g) rfl hm, ?_, ?_, ⟨hsc, hn, by rw [lsJ_f (by omega) (by omega) (by omega)]; exact hI⟩, ⟨isSt_e (g := g) rfl (isSt_c (lsJ_f (by omega) (by omega) (by omega)) (lsJ_f (by omega) (by omega) (by omega)) hst), fun p p0 p1 => isTs_e (g := g) rfl (isTs_c (lsJ_f (by omega) (by omega) (by omega)) (hts p p0 p1)), gd_of pB1 (bg_Wf bg1), bg_Wf bg1, bg_A bg1 bg2, pB_c (fun p p0 p1 => lsJ_18 p0 (by omega)) b18⟩, Or.inl ?_, ⟨?_, ?_, ?_, ?_, [], hL_nil, ?_, hL_nil, ?_, by decide⟩, ⟨?_, ?_, ?_⟩, ⟨?_, ?_, ?_, hpc, ?_⟩⟩
  · show gt g (x + 105) = 1 ∧ gn g (x + 105) = 1
    unfold gt gn; rw [a1]; exact ⟨rfl, rfl⟩
  · show gt g (x + 106) = 2 ∧ gn g (x + 106) = 1
    unfold gt gn; rw [a2]; exact ⟨rfl, rfl⟩
  · rw [lsJ_35 (by omega) (by omega)]; exact hz _ (by omega) _
  · rw [q75]; exact ⟨by decide, fun i a b => by omega⟩
  · rw [q77, q93]; exact funext fun i => by rw [hz _ (by omega), hz _ (by omega)]
  · rw [q75, lsJ_86 (by decide), if_neg (by decide)]; exact (hz _ (by omega) _).symm
  · rw [lsJ_75, lsJ_86 (by decide), if_pos rfl, if_pos rfl]
  · rw [qx]; exact hz _ (by omega) _
  · rw [lsJ_86 (by decide), if_neg (by decide)]; exact hz _ (by omega) _
  · rw [qx, lsJ_86 (by decide), if_neg (by decide), hz _ (by omega) _, hz _ (by omega) _, hz _ (by omega) _]; decide
  · intro j j0 j1
    rw [qx, hz _ (by omega) _] at j1
    omega
  · intro k k0 k1
    refine Or.inl ⟨hQ _ (by omega) _, ?_⟩
    rw [lsJ_f (by omega) (by omega) (by omega)]; exact hz _ (by omega) _
  · intro p i A hp' hA
    rw [show (gC g 107 24543).2.2.2.1 p i = none from hQ _ (by omega) _] at hA
    cases hA
  · intro p i p' i' A hp' _ hA
    rw [show (gC g 107 24543).2.2.2.1 p i = none from hQ _ (by omega) _] at hA
    cases hA
  · rw [eg]; omega
  · intro p hp' i
    rw [eg] at hp'
    rw [lsJ_f (by omega) (by omega) (by omega)]; exact hz _ (by omega) _
/-- the law answers 1 -/
theorem law_true (hp : isH g (gnx g)) (hm : isM g (gnx g + 86)) (hst : isSt g I) (hts : ∀ p, 3 ≤ p → p ≤ 20 → isTs g I p) (hx : 64 ≤ gnx g) (hz : ∀ p, gnx g ≤ p → ∀ i, I p i = 0) (hL : ∀ p, gnx g ≤ p → ∀ i, g.2.1 p i = 0) (hD : ∀ p, gnx g ≤ p → ∀ i, g.2.2.1 p i = 0) (hQ : ∀ p, gnx g ≤ p → ∀ i, g.2.2.2.1 p i = none) (a1 : g.1 (gnx g + 105) = .inl (1, 1)) (a2 : g.1 (gnx g + 106) = .inl (2, 1)) (hpc : ∀ k : Nat, isPc g (gnx g + 107 + 17 * k)) (hs : s < gnx g) (hsc : gt g s = 0 ∨ gt g s = 7) (hn : gn g s ≤ 3072) (hI : ∀ j, (-2147483648 ≤ I s j ∧ I s j < 2147483648)) : ∃ g' I', cl 291 [.ref s] (mk g I) = some (.inl (some (.int (iI 1))), mk g' I') ∧ g'.2.2.2.2.2.1 ≤ g.2.2.2.2.2.1 + 9000 ∧ g'.2.2.2.2.2.2 ≤ g.2.2.2.2.2.2 + 250000 := by
  have hb := law_begin (N := gn g s) (S := I s) hp hm hst hts hx hz hQ a1 a2 hpc hs hsc rfl rfl
  have e1 := law_start (s := s) hp hm hst (by omega) hz hL hD hQ a1 a2
  obtain ⟨g', I', e2, b1, b2⟩ := law_loop hx hs (by omega) hI 512 0 none none none _ _ (by decide) (by decide) (by omega) hb
  have c1 : (gC g 107 24543).2.2.2.2.2.1 = g.2.2.2.2.2.1 + 107 := rfl
  have c2 : (gC g 107 24543).2.2.2.2.2.2 = g.2.2.2.2.2.2 + 24543 := rfl
  exact ⟨g', I', e1.trans e2, by omega, by omega⟩
end LB
