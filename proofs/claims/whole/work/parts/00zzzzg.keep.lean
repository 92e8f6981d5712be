/-! A change is remembered, a piece is saved: what then holds of the shelves. -/
section KS
variable {s x N : Nat} {S : Int → Int} {g g' g2 : Gm} {I I1 J K : Mm} {p t A : Nat}
/-- a kept piece is taken, or made, at place t of the shelf p -/
def putS (p t : Nat) (g g' : Gm) (A : Nat) : Prop := (g.2.2.2.1 p t = some A ∧ g' = g) ∨ (g.2.2.2.1 p t = none ∧ A = gnx g ∧ g' = gQ (gC g 17 423) p t A)
theorem putS.e (h : putS p t g g' A) : g'.1 = g.1 := by
  rcases h with ⟨_, h⟩ | ⟨_, _, h⟩
  · rw [h]
  · rw [h]; rfl
theorem putS.b (h : putS p t g g' A) : budg g g' := by
  rcases h with ⟨_, h⟩ | ⟨_, _, h⟩
  · rw [h]; exact ⟨Nat.le_add_right _ _, Nat.le_add_right _ _⟩
  · rw [h]; exact ⟨Nat.le_refl _, Nat.le_refl _⟩
theorem putS.at (h : putS p t g g' A) : g'.2.2.2.1 p t = some A := by
  rcases h with ⟨h1, h⟩ | ⟨_, _, h⟩
  · rw [h]; exact h1
  · rw [h]; exact if_pos ⟨rfl, rfl⟩
theorem putS.o (h : putS p t g g' A) {q j : Nat} (hq : ¬ (q = p ∧ j = t)) : g'.2.2.2.1 q j = g.2.2.2.1 q j := by
  rcases h with ⟨_, h⟩ | ⟨_, _, h⟩
  · rw [h]
  · rw [h]; exact if_neg hq
theorem putS.n (h : putS p t g g' A) : (gnx g' = gnx g ∧ g.2.2.2.1 p t = some A) ∨ (gnx g' = gnx g + 17 ∧ A = gnx g) := by
  rcases h with ⟨h1, h⟩ | ⟨_, h1, h⟩
  · exact Or.inl ⟨by rw [h], h1⟩
  · exact Or.inr ⟨by rw [h]; rfl, h1⟩
/-- kept pieces don't touch each other -/
theorem putS.d (h : putS p t g g' A) (hp : p = x + 83 ∨ p = x + 85) (hS : lvS g I x) : x + 107 ≤ A ∧ A + 17 ≤ gnx g' ∧ (A - (x + 107)) % 17 = 0 ∧ isPc g A ∧ gnx g ≤ gnx g' ∧ (gnx g' - (x + 107)) % 17 = 0 ∧ ∀ p' i' A', (p' = x + 83 ∨ p' = x + 85) → ¬ (p' = p ∧ i' = t) → g.2.2.2.1 p' i' = some A' → A' + 17 ≤ A ∨ A + 17 ≤ A' := by
  obtain ⟨s1, s2, s3, s4, s5⟩ := hS
  rcases h.n with ⟨n1, n2⟩ | ⟨n1, n2⟩
  · obtain ⟨b1, b2, b3, b4, b5⟩ := s1 p t A hp n2
    refine ⟨b3, by omega, b5, b1, by omega, by rw [n1]; exact s3.2, fun p' i' A' hp' hn hA' => ?_⟩
    obtain ⟨d1, d2, d3, d4, d5⟩ := s1 p' i' A' hp' hA'
    have : ¬ A' = A := fun e => hn (s2 p' i' p t A hp' hp (by rw [← e]; exact hA') n2)
    omega
  · have k1 := s4 ((A - (x + 107)) / 17)
    have k2 : x + 107 + 17 * ((A - (x + 107)) / 17) = A := by omega
    rw [k2] at k1
    refine ⟨by omega, by omega, by omega, k1, by omega, by omega, fun p' i' A' hp' hn hA' => ?_⟩
    obtain ⟨d1, d2, d3, d4, d5⟩ := s1 p' i' A' hp' hA'
    omega
theorem lvS_put (hp : p = x + 83 ∨ p = x + 85) (hS : lvS g I x) (hg : putS p t g g' A) (hI : ∀ q, x + 107 ≤ q → (q < A ∨ A + 16 < q) → J q = I q) (hB : pB J A) : lvS g' J x := by
  obtain ⟨a1, a2, a3, a4, a5, a6, a7⟩ := hg.d hp hS
  have n := hg.n
  obtain ⟨s1, s2, s3, s4, s5⟩ := hS
  have key : ∀ p' i' A', g'.2.2.2.1 p' i' = some A' → (p' = p ∧ i' = t ∧ A' = A) ∨ (¬ (p' = p ∧ i' = t) ∧ g.2.2.2.1 p' i' = some A') := fun p' i' A' hA' => by
    by_cases hq : p' = p ∧ i' = t
    · rw [hq.1, hq.2, hg.at] at hA'
      exact Or.inl ⟨hq.1, hq.2, (Option.some.inj hA').symm⟩
    · rw [hg.o hq] at hA'; exact Or.inr ⟨hq, hA'⟩
  refine ⟨?_, ?_, ⟨by omega, a6⟩, fun k => (isPc_g hg.e).mpr (s4 k), ?_⟩
  · intro p' i' A' hp' hA'
    rcases key p' i' A' hA' with ⟨_, _, e⟩ | ⟨hn, hA''⟩
    · rw [e]; exact ⟨(isPc_g hg.e).mpr a4, hB, a1, a2, a3⟩
    · obtain ⟨b1, b2, b3, b4, b5⟩ := s1 p' i' A' hp' hA''
      have hd := a7 p' i' A' hp' hn hA''
      exact ⟨(isPc_g hg.e).mpr b1, pB_c (fun q q0 q1 => hI q (by omega) (by omega)) b2, b3, by omega, b5⟩
  · intro p1 i1 p2 i2 A' h1 h2 e1 e2
    rcases key p1 i1 A' e1 with ⟨x1, x2, x3⟩ | ⟨x1, x2⟩
    · rcases key p2 i2 A' e2 with ⟨y1, y2, y3⟩ | ⟨y1, y2⟩
      · exact ⟨by rw [x1, y1], by rw [x2, y2]⟩
      · have := a7 p2 i2 A' h2 y1 y2
        omega
    · rcases key p2 i2 A' e2 with ⟨y1, y2, y3⟩ | ⟨y1, y2⟩
      · have := a7 p1 i1 A' h1 x1 x2
        omega
      · exact s2 p1 i1 p2 i2 A' h1 h2 x2 y2
  · intro q hq i
    rw [hI q (by omega) (by omega)]
    exact s5 q (by omega) i
theorem lvU_rm (hU : lvU g I x) (hS : lvS g I x) (hg : putS (x + 83) (rmT I x).toNat g g' A) (hI : ∀ q, x + 107 ≤ q → (q < A ∨ A + 16 < q) → K q = I q) (hA : Agr (pv K A) (pv I (x + 1))) (hN : Agr (pv I (x + 1)) (mv I (x + 86))) (hW : Wf (pv I (x + 1))) (k9 : K x 9 = rmO I x) (k10 : K x 10 = rmU I x + 1) (k6 : K (x + 86) 6 = if I (x + 86) 6 = 8 then 8 else I (x + 86) 6 + 1) (k90 : ∀ j i, 0 ≤ j → j < K (x + 86) 6 → 0 ≤ i → i < 362 → K (x + 90) (362 * j + i) = if I (x + 86) 6 = 8 then (if j = 7 then I (x + 87) i else I (x + 90) (362 * (j + 1) + i)) else (if j = I (x + 86) 6 then I (x + 87) i else I (x + 90) (362 * j + i))) (k91 : K (x + 91) = I (x + 91)) (k92 : K (x + 92) = I (x + 92)) : lvU g' K x := by
  obtain ⟨a1, a2, a3, a4, a5, a6, a7⟩ := hg.d (Or.inl rfl) hS
  have s1 := hS.1
  obtain ⟨⟨u9, u10, u6⟩, u2, u3⟩ := hU
  have ew : Wf (rv (I (x + 87))) := hW.agr hN
  have hpv : ∀ p' i' A', (p' = x + 83 ∨ p' = x + 85) → ¬ (p' = x + 83 ∧ i' = (rmT I x).toNat) → g.2.2.2.1 p' i' = some A' → pv K A' = pv I A' := fun p' i' A' hp' hn hA' => by
    have hd := a7 p' i' A' hp' hn hA'
    have b3 := (s1 p' i' A' hp' hA').2.2.1
    exact pv_c (fun q q0 q1 => hI q (by omega) (by omega))
  have last : ∀ j, j < K (x + 86) 6 → 0 ≤ j → (∀ i, 0 ≤ i → i < 362 → K (x + 90) (362 * j + i) = I (x + 87) i) → Agr (pv K A) (rv (fun i => K (x + 90) (362 * j + i))) ∧ Wf (pv K A) := fun j _ _ e => by
    refine ⟨(hA.trans hN).trans ?_, hW.agr hA.symm⟩
    exact (rv_A (F := fun i => K (x + 90) (362 * j + i)) (G := I (x + 87)) e ew).symm
  have old : ∀ j j', (∀ i, 0 ≤ i → i < 362 → K (x + 90) (362 * j + i) = I (x + 90) (362 * j' + i)) → 0 ≤ j' → j' < I x 10 → ¬ ((I x 9 + j') % 8).toNat = (rmT I x).toNat → ∃ B, g'.2.2.2.1 (x + 83) ((I x 9 + j') % 8).toNat = some B ∧ Agr (pv K B) (rv (fun i => K (x + 90) (362 * j + i))) ∧ Wf (pv K B) := fun j j' e j0 j1 hn => by
    obtain ⟨B, b1, b2, b3⟩ := u2 j' j0 j1
    have eB := hpv (x + 83) _ B (Or.inl rfl) (fun z => hn z.2) b1
    refine ⟨B, by rw [hg.o (fun z => hn z.2)]; exact b1, ?_, by rw [eB]; exact b3⟩
    rw [eB]
    exact b2.trans (rv_A (F := fun i => K (x + 90) (362 * j + i)) (G := fun i => I (x + 90) (362 * j' + i)) e (b3.agr b2)).symm
  refine ⟨?_, ?_, ?_⟩
  · rw [k9, k10, k6, u6]
    unfold rmO rmU
    by_cases h8 : I x 10 = 8
    · rw [if_pos h8, if_pos h8, if_pos h8]; omega
    · rw [if_neg h8, if_neg h8, if_neg h8]; omega
  · intro j j0 j1
    rw [k10] at j1
    rw [k9]
    have eT : rmT I x = (rmO I x + rmU I x) % 8 := rfl
    by_cases h8 : I x 10 = 8
    · have eO : rmO I x = (I x 9 + 1) % 8 := if_pos h8
      have eU : rmU I x = 7 := if_pos h8
      rw [eU] at j1 eT
      have k6' : K (x + 86) 6 = 8 := by rw [k6, u6, if_pos h8]
      rw [u6] at k90
      by_cases h7 : j = 7
      · refine ⟨A, ?_, last j (by omega) j0 (fun i i0 i1 => ?_)⟩
        · rw [h7, ← eT]; exact hg.at
        · rw [k90 j i j0 (by omega) i0 i1, if_pos h8, if_pos h7]
      · have em : (rmO I x + j) % 8 = (I x 9 + (j + 1)) % 8 := by rw [eO]; omega
        rw [em]
        refine old j (j + 1) (fun i i0 i1 => ?_) (by omega) (by omega) (by rw [eT, eO]; omega)
        rw [k90 j i j0 (by omega) i0 i1, if_pos h8, if_neg h7]
    · have eO : rmO I x = I x 9 := if_neg h8
      have eU : rmU I x = I x 10 := if_neg h8
      rw [eU] at j1 eT
      rw [eO] at eT ⊢
      have k6' : K (x + 86) 6 = I x 10 + 1 := by rw [k6, u6, if_neg h8]
      rw [u6] at k90
      by_cases h7 : j = I x 10
      · refine ⟨A, ?_, last j (by omega) j0 (fun i i0 i1 => ?_)⟩
        · rw [h7, ← eT]; exact hg.at
        · rw [k90 j i j0 (by omega) i0 i1, if_neg h8, if_pos h7]
      · refine old j j (fun i i0 i1 => ?_) j0 (by omega) (by rw [eT]; omega)
        rw [k90 j i j0 (by omega) i0 i1, if_neg h8, if_neg h7]
  · intro k k0 k1
    rw [k92, k91]
    have hn : ¬ (x + 85 = x + 83 ∧ k.toNat = (rmT I x).toNat) := by omega
    rcases u3 k k0 k1 with ⟨b1, b2⟩ | ⟨B, b1, b2, b3, b4⟩
    · exact Or.inl ⟨by rw [hg.o hn]; exact b1, b2⟩
    · have eB := hpv (x + 85) _ B (Or.inr rfl) hn b1
      exact Or.inr ⟨B, by rw [hg.o hn]; exact b1, b2, by rw [eB]; exact b3, by rw [eB]; exact b4⟩
/-- all parts of the state anew -/
theorem lawI_new (h : lawI s x S N g I) (e1 : g2.1 = g.1) (k1 : ∀ p, (p = s ∨ p ≤ 40) → K p = I p) (b18 : pB K (x + 18)) (bn : pB K (x + 1)) (hW : Wf (pv K (x + 1))) (hA : Agr (pv K (x + 1)) (mv K (x + 86))) (hp : plOk x K) (hT : lvT K x) (hU : lvU g2 K x) (hS : lvS g2 K x) : lawI s x S N g2 K := by
  obtain ⟨iH, iM, i105, i106, ⟨iS, iN, iI⟩, ⟨c1, c2, _, _, _, _⟩, _, _, _, _⟩ := h
  exact ⟨isH_e e1 iH, isM_e e1 iM, by rw [gt_e e1, gn_e e1]; exact i105, by rw [gt_e e1, gn_e e1]; exact i106, ⟨by rw [gt_e e1]; exact iS, by rw [gn_e e1]; exact iN, by rw [k1 s (by omega)]; exact iI⟩, ⟨isSt_e e1 (isSt_c (k1 0 (by omega)) (k1 1 (by omega)) c1), fun p p0 p1 => isTs_e e1 (isTs_c (k1 (p + 20) (by omega)) (c2 p p0 p1)), gd_of bn hW, hW, hA, b18⟩, hp, hT, hU, hS⟩
theorem lvS_g (e1 : g2.1 = g.1) (e4 : g2.2.2.2.1 = g.2.2.2.1) (e5 : gnx g2 = gnx g) (hI : ∀ q, x + 107 ≤ q → K q = I q) (h : lvS g I x) : lvS g2 K x := by
  obtain ⟨s1, s2, s3, s4, s5⟩ := h
  refine ⟨?_, by rw [e4]; exact s2, by rw [e5]; exact s3, fun k => (isPc_g e1).mpr (s4 k), ?_⟩
  · intro p i A hp hA'
    rw [e4] at hA'
    obtain ⟨b1, b2, b3, b4, b5⟩ := s1 p i A hp hA'
    exact ⟨(isPc_g e1).mpr b1, pB_c (fun q q0 q1 => hI q (by omega)) b2, b3, by rw [e5]; exact b4, b5⟩
  · intro p hp i
    rw [e5] at hp
    rw [hI p (by omega)]
    exact s5 p hp i
theorem lvU_g (e4 : g2.2.2.2.1 = g.2.2.2.1) (h : lvU g K x) : lvU g2 K x := by
  unfold lvU at h ⊢
  rw [e4]; exact h
theorem law_rmOk {p : Nat} {i : Int} (hp : p = x + 82 ∨ p = x + 84) (hx : 64 ≤ x) (h : lawI s x S N g I) : rmOk g I x p i := by
  obtain ⟨iH, iM, i105, i106, iS, ⟨c1, _⟩, _, _, _, ⟨s1, s2, s3, s4, s5⟩⟩ := h
  unfold rmOk
  cases hQ : g.2.2.2.1 (p + 1) i.toNat with
  | some A =>
    obtain ⟨b1, b2, b3, b4, b5⟩ := s1 (p + 1) _ A (by omega) hQ
    exact Or.inl ⟨A, rfl, b1, b2, by omega⟩
  | none =>
    have k1 := s4 ((gnx g - (x + 107)) / 17)
    have k2 : x + 107 + 17 * ((gnx g - (x + 107)) / 17) = gnx g := by omega
    rw [k2] at k1
    exact Or.inr ⟨rfl, k1, fun j _ i => s5 _ (by omega) i, c1, by omega, by omega⟩
theorem law_ch (hx : 64 ≤ x) (h : lawI s x S N g I) : chOk g I x :=
  ⟨h.1, h.2.2.2.2.2.1.2.2.1, h.2.2.2.2.2.1.2.2.2.1, h.2.2.2.2.2.2.2.2.1.1.1, h.2.2.2.2.2.2.2.2.1.1.2.1, by omega, law_rmOk (Or.inl rfl) hx h⟩
theorem rmF.ps (h : rmF x g g' I I1 A) : putS (x + 83) (rmT I x).toNat g g' A := h.1
/-- the class remembers and changes its piece, and so does the reference -/
theorem lawI_rm {J0 K0 : Mm} (hx : 64 ≤ x) (hs : s < x) (h : lawI s x S N g I) (hf : rmF x g g' I I1 A) (hJ : ∀ p, p < x + 1 ∨ (x + 17 < p ∧ p < x + 35) ∨ x + 54 < p → J p = I1 p) (hj : (∀ p, ¬ p = x + 86 → p < x + 94 ∨ x + 100 < p → J0 p = J p) ∧ ∀ i, ¬ i = 7 → J0 (x + 86) i = J (x + 86) i) (hk : kpM (x + 86) (x + 86 + 1) J0 K0) (hK : ∀ p, ¬ p = x + 86 → ¬ p = x + 87 → p < x + 94 ∨ x + 100 < p → K p = K0 p) (hK6 : ∀ i, i = 6 ∨ i = 9 ∨ i = 16 ∨ i = 29 → K (x + 86) i = K0 (x + 86) i) (hB : pB J (x + 1)) (hW : Wf (pv J (x + 1))) (hA : Agr (pv J (x + 1)) (mv K (x + 86))) (hp : plOk x J) (e1 : g2.1 = g'.1) (e4 : g2.2.2.2.1 = g'.2.2.2.1) (e5 : gnx g2 = gnx g') : lawI s x S N g2 K := by
  have h' := h
  obtain ⟨iH, iM, i105, i106, iS, ⟨c1, c2, c3, c4, c5, c6⟩, _, ⟨t1, t2, t3, t4, L, t5, t6, t7, t8, t9⟩, hU, hS⟩ := h
  have hg := hf.ps
  obtain ⟨a1, a2, a3, a4, a5, a6, a7⟩ := hg.d (Or.inl rfl) hS
  obtain ⟨_, _, f1, f9, f10, fx, f35, _, fA, fB⟩ := hf
  obtain ⟨j1, j2⟩ := hj
  obtain ⟨k1, k2, k6, k90⟩ := hk
  have kJ : ∀ p, ¬ p = x + 86 → ¬ p = x + 87 → ¬ p = x + 90 → p < x + 94 ∨ x + 100 < p → K p = J p := fun p p1 p2 p3 p4 => by
    rw [hK p p1 p2 p4, k1 p (by omega) (by omega), j1 p p1 p4]
  have kI : ∀ p, ¬ p = x → p < x + 1 ∨ (x + 17 < p ∧ p < x + 35) ∨ x + 54 < p → ¬ p = x + 86 → ¬ p = x + 87 → ¬ p = x + 90 → p < x + 94 ∨ x + 100 < p → p < A ∨ A + 16 < p → K p = I p := fun p p0 p5 p1 p2 p3 p4 p6 => by
    rw [kJ p p1 p2 p3 p4, hJ p p5, f1 p p0 (by omega) p6]
  have km : ∀ i, i = 6 ∨ i = 9 ∨ i = 16 ∨ i = 29 → ¬ i = 6 → K (x + 86) i = I (x + 86) i := fun i i0 i1 => by
    rw [hK6 i i0, k2 i i1, j2 i (by omega), hJ (x + 86) (by omega), f1 (x + 86) (by omega) (by omega) (by omega)]
  have j6 : J0 (x + 86) 6 = I (x + 86) 6 := by
    rw [j2 6 (by decide), hJ (x + 86) (by omega), f1 (x + 86) (by omega) (by omega) (by omega)]
  have j87 : J0 (x + 86 + 1) = I (x + 87) := by
    rw [j1 (x + 86 + 1) (by omega) (by omega), hJ (x + 86 + 1) (by omega), f1 (x + 86 + 1) (by omega) (by omega) (by omega)]
  have j90 : J0 (x + 86 + 4) = I (x + 90) := by
    rw [j1 (x + 86 + 4) (by omega) (by omega), hJ (x + 86 + 4) (by omega), f1 (x + 86 + 4) (by omega) (by omega) (by omega)]
  have kx : K x = I1 x := by rw [kJ x (by omega) (by omega) (by omega) (by omega), hJ x (by omega)]
  have kA : ∀ p, A ≤ p → p ≤ A + 16 → K p = I1 p := fun p p0 p1 => by rw [kJ p (by omega) (by omega) (by omega) (by omega), hJ p (by omega)]
  have kn : ∀ p, x + 1 ≤ p → p ≤ x + 17 → K p = J p := fun p p0 p1 => kJ p (by omega) (by omega) (by omega) (by omega)
  have q75 := kI (x + 75) (by omega) (by omega) (by omega) (by omega) (by omega) (by omega) (by omega)
  have q77 := kI (x + 77) (by omega) (by omega) (by omega) (by omega) (by omega) (by omega) (by omega)
  have q93 := kI (x + 93) (by omega) (by omega) (by omega) (by omega) (by omega) (by omega) (by omega)
  have hI : ∀ q, x + 107 ≤ q → (q < A ∨ A + 16 < q) → K q = I q := fun q q0 q1 => kI q (by omega) (by omega) (by omega) (by omega) (by omega) (by omega) q1
  refine lawI_new h' (e1.trans hg.e) (fun p hp => kI p (by omega) (by omega) (by omega) (by omega) (by omega) (by omega) (by omega)) (pB_c (fun p p0 p1 => kI p (by omega) (by omega) (by omega) (by omega) (by omega) (by omega) (by omega)) c6) (pB_c (fun p p0 p1 => kn p p0 (by omega)) hB) (by rw [pv_c (fun p p0 p1 => kn p p0 (by omega))]; exact hW) (by rw [pv_c (fun p p0 p1 => kn p p0 (by omega))]; exact hA) (plOk_c (fun p p0 p1 => kJ p (by omega) (by omega) (by omega) (by omega)) hp) ⟨?_, ?_, ?_, ?_, L, ?_, ?_, ?_, ?_, t9⟩ (lvU_g e4 (lvU_rm hU hS hg hI ?_ c5 c4 ?_ ?_ ?_ ?_ ?_ ?_)) (lvS_g e1 e4 e5 (fun _ _ => rfl) (lvS_put (Or.inl rfl) hS hg hI (pB_c (fun p p0 p1 => kA p p0 (by omega)) fB)))
  · rw [q77, q75]; exact t1
  · rw [q77, q93]; exact t2
  · rw [q75, km 9 (by omega) (by omega)]; exact t3
  · rw [q75, km 16 (by omega) (by omega)]; exact t4
  · exact hL_c t5 (kI (x + 81) (by omega) (by omega) (by omega) (by omega) (by omega) (by omega) (by omega))
  · rw [kx, fx 7 (by decide) (by decide)]; exact t6
  · exact hL_c t7 (kI (x + 104) (by omega) (by omega) (by omega) (by omega) (by omega) (by omega) (by omega))
  · rw [km 29 (by omega) (by omega)]; exact t8
  · rw [pv_c (fun p p0 p1 => kA p p0 (by omega))]; exact fA
  · rw [kx, f9]
  · rw [kx, f10]
  · rw [hK6 6 (by omega), k6, j6]
  · intro j i j0 jj i0 i1
    have k90' := k90 j i j0 (by rw [← hK6 6 (by omega)]; exact jj) i0 i1
    rw [j6, j87, j90] at k90'
    rw [hK (x + 90) (by omega) (by omega) (by omega)]
    exact k90'
  · exact kI (x + 91) (by omega) (by omega) (by omega) (by omega) (by omega) (by omega) (by omega)
  · exact kI (x + 92) (by omega) (by omega) (by omega) (by omega) (by omega) (by omega) (by omega)
end KS
