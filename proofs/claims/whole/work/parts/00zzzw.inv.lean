/-! What holds between the calls of the law. -/
/-- a kept piece -/
def okA (g : Gm) (I : Mm) (x A : Nat) : Prop := isPc g A ∧ pB I A ∧ x + 107 ≤ A ∧ A + 17 ≤ gnx g ∧ (A - (x + 107)) % 17 = 0
/-- the class's numbers -/
def lvC (g : Gm) (I : Mm) (x : Nat) : Prop := isSt g I ∧ (∀ p, 3 ≤ p → p ≤ 20 → isTs g I p) ∧ gd I (x + 1) ∧ Wf (pv I (x + 1)) ∧ Agr (pv I (x + 1)) (mv I (x + 86)) ∧ pB I (x + 18)
/-- texts, told and written -/
def lvT (I : Mm) (x : Nat) : Prop := txB (I (x + 77)) (I (x + 75) 1) ∧ I (x + 77) = I (x + 93) ∧ I (x + 75) 1 = I (x + 86) 9 ∧ I (x + 75) 3 = I (x + 86) 16 ∧ ∃ L : List Int, hL I (x + 81) L ∧ I x 7 = L.length ∧ hL I (x + 104) L ∧ I (x + 86) 29 = L.length ∧ L.length ≤ 200
/-- what can be undone, what is saved -/
def lvU (g : Gm) (I : Mm) (x : Nat) : Prop := ((0 ≤ I x 9 ∧ I x 9 < 8) ∧ (0 ≤ I x 10 ∧ I x 10 ≤ 8) ∧ I (x + 86) 6 = I x 10) ∧ (∀ j, 0 ≤ j → j < I x 10 → ∃ A, g.2.2.2.1 (x + 83) ((I x 9 + j) % 8).toNat = some A ∧ Agr (pv I A) (rv (fun i => I (x + 90) (362 * j + i))) ∧ Wf (pv I A)) ∧ (∀ k, 0 ≤ k → k < 2 → (g.2.2.2.1 (x + 85) k.toNat = none ∧ I (x + 92) k = 0) ∨ ∃ A, g.2.2.2.1 (x + 85) k.toNat = some A ∧ I (x + 92) k = 1 ∧ Agr (pv I A) (rv (fun i => I (x + 91) (362 * k + i))) ∧ Wf (pv I A))
/-- the shelves -/
def lvS (g : Gm) (I : Mm) (x : Nat) : Prop := (∀ p i A, (p = x + 83 ∨ p = x + 85) → g.2.2.2.1 p i = some A → okA g I x A) ∧ (∀ p i p' i' A, (p = x + 83 ∨ p = x + 85) → (p' = x + 83 ∨ p' = x + 85) → g.2.2.2.1 p i = some A → g.2.2.2.1 p' i' = some A → p = p' ∧ i = i') ∧ (x + 107 ≤ gnx g ∧ (gnx g - (x + 107)) % 17 = 0) ∧ (∀ k : Nat, isPc g (x + 107 + 17 * k)) ∧ ∀ p, gnx g ≤ p → ∀ i, I p i = 0
def lawI (s x : Nat) (S : Int → Int) (N : Nat) (g : Gm) (I : Mm) : Prop := isH g x ∧ isM g (x + 86) ∧ (gt g (x + 105) = 1 ∧ gn g (x + 105) = 1) ∧ (gt g (x + 106) = 2 ∧ gn g (x + 106) = 1) ∧ ((gt g s = 0 ∨ gt g s = 7) ∧ gn g s = N ∧ I s = S) ∧ lvC g I x ∧ plOk x I ∧ lvT I x ∧ lvU g I x ∧ lvS g I x
/-- places and fields that matter between calls -/
def kpL (s x : Nat) (I J : Mm) : Prop := (∀ p, (p = s ∨ p ≤ 40 ∨ (x ≤ p ∧ p ≤ x + 34) ∨ p = x + 77 ∨ p = x + 81 ∨ p = x + 87 ∨ (x + 90 ≤ p ∧ p ≤ x + 93) ∨ p = x + 104 ∨ x + 107 ≤ p) → J p = I p) ∧ (∀ i, i = 1 ∨ i = 3 → J (x + 75) i = I (x + 75) i) ∧ ∀ i, i = 6 ∨ i = 9 ∨ i = 16 ∨ i = 29 → J (x + 86) i = I (x + 86) i
theorem kpL.rfl {s x : Nat} {I : Mm} : kpL s x I I := ⟨fun _ _ => Eq.refl _, fun _ _ => Eq.refl _, fun _ _ => Eq.refl _⟩
theorem kpL.trans {s x : Nat} {I J K : Mm} (h : kpL s x I J) (h' : kpL s x J K) : kpL s x I K := ⟨fun p hp => (h'.1 p hp).trans (h.1 p hp), fun i hi => (h'.2.1 i hi).trans (h.2.1 i hi), fun i hi => (h'.2.2 i hi).trans (h.2.2 i hi)⟩
section IV
variable {s x : Nat} {S : Int → Int} {N : Nat} {g g' : Gm} {I J : Mm}
theorem isPc_g (h : g'.1 = g.1) {q : Nat} : isPc g' q ↔ isPc g q := ⟨fun z => isPc_e h.symm z, fun z => isPc_e h z⟩
theorem gt_e (h : g'.1 = g.1) (p : Nat) : gt g' p = gt g p := by unfold gt; rw [h]
theorem gn_e (h : g'.1 = g.1) (p : Nat) : gn g' p = gn g p := by unfold gn; rw [h]
theorem isTs_e (h : g'.1 = g.1) {p : Nat} (hp : isTs g I p) : isTs g' I p := by
  unfold isTs at hp ⊢
  rw [gt_e h, gt_e h, gn_e h]; exact hp
theorem isSt_e (h : g'.1 = g.1) (hp : isSt g I) : isSt g' I := by
  unfold isSt at hp ⊢
  rw [gt_e h, gn_e h, gt_e h, gn_e h]; exact hp
/-- what does not touch them keeps the law's state -/
theorem lawI_keep (h1 : g'.1 = g.1) (h4 : g'.2.2.2.1 = g.2.2.2.1) (h5 : gnx g' = gnx g) (hk : kpL s x I J) (hp : plOk x J) (hx : 64 ≤ x) (h : lawI s x S N g I) : lawI s x S N g' J := by
  obtain ⟨iH, iM, i105, i106, ⟨iS, iN, iI⟩, ⟨c1, c2, c3, c4, c5, c6⟩, _, ⟨t1, t2, t3, t4, L, t5, t6, t7, t8, t9⟩, ⟨u1, u2, u3⟩, ⟨s1, s2, s3, s4, s5⟩⟩ := h
  obtain ⟨k1, k2, k3⟩ := hk
  have hn : ∀ p, x + 1 ≤ p → p ≤ x + 34 → J p = I p := fun p a b => k1 p (by omega)
  have hA : ∀ A, x + 107 ≤ A → ∀ p, A ≤ p → p ≤ A + 16 → J p = I p := fun A a p b c => k1 p (by omega)
  have jx : J x = I x := k1 x (by omega)
  have j77 := k1 (x + 77) (by omega)
  have j81 := k1 (x + 81) (by omega)
  have j87 := k1 (x + 87) (by omega)
  have j90 := k1 (x + 90) (by omega)
  have j91 := k1 (x + 91) (by omega)
  have j92 := k1 (x + 92) (by omega)
  have j93 := k1 (x + 93) (by omega)
  have j104 := k1 (x + 104) (by omega)
  refine ⟨isH_e h1 iH, isM_e h1 iM, by rw [gt_e h1, gn_e h1]; exact i105, by rw [gt_e h1, gn_e h1]; exact i106, ⟨by rw [gt_e h1]; exact iS, by rw [gn_e h1]; exact iN, by rw [k1 s (by omega)]; exact iI⟩, ⟨isSt_e h1 (isSt_c (k1 0 (by omega)) (k1 1 (by omega)) c1), fun p p0 p1 => isTs_e h1 (isTs_c (k1 (p + 20) (by omega)) (c2 p p0 p1)), gd_c (fun p a b => hn p (by omega) (by omega)) c3, ?_, ?_, pB_c (fun p a b => hn p (by omega) (by omega)) c6⟩, hp, ⟨?_, ?_, ?_, ?_, L, hL_c t5 j81, by rw [jx]; exact t6, hL_c t7 j104, by rw [k3 29 (by omega)]; exact t8, t9⟩, ⟨?_, ?_, ?_⟩, ⟨?_, ?_, ?_, ?_, ?_⟩⟩
  · rw [pv_c (fun p a b => hn p (by omega) (by omega))]; exact c4
  · have e : mv J (x + 86) = mv I (x + 86) := by unfold mv; rw [j87]
    rw [pv_c (fun p a b => hn p (by omega) (by omega)), e]; exact c5
  · rw [j77, k2 1 (by omega)]; exact t1
  · rw [j77, j93]; exact t2
  · rw [k2 1 (by omega), k3 9 (by omega)]; exact t3
  · rw [k2 3 (by omega), k3 16 (by omega)]; exact t4
  · rw [jx, k3 6 (by omega)]; exact u1
  · intro j j0 j1
    rw [jx] at j1 ⊢
    obtain ⟨A, a1, a2, a3⟩ := u2 j j0 j1
    have a4 := (s1 _ _ A (Or.inl rfl) a1).2.2.1
    refine ⟨A, by rw [h4]; exact a1, ?_, ?_⟩
    · rw [pv_c (hA A a4), j90]; exact a2
    · rw [pv_c (hA A a4)]; exact a3
  · intro k k0 k1'
    rcases u3 k k0 k1' with ⟨a1, a2⟩ | ⟨A, a1, a2, a3, a5⟩
    · exact Or.inl ⟨by rw [h4]; exact a1, by rw [j92]; exact a2⟩
    · have a4 := (s1 _ _ A (Or.inr rfl) a1).2.2.1
      refine Or.inr ⟨A, by rw [h4]; exact a1, by rw [j92]; exact a2, ?_, ?_⟩
      · rw [pv_c (hA A a4), j91]; exact a3
      · rw [pv_c (hA A a4)]; exact a5
  · intro p i A hp hA'
    rw [h4] at hA'
    obtain ⟨b1, b2, b3, b4, b5⟩ := s1 p i A hp hA'
    exact ⟨(isPc_g h1).mpr b1, pB_c (hA A b3) b2, b3, by rw [h5]; exact b4, b5⟩
  · rw [h4]; exact s2
  · rw [h5]; exact s3
  · exact fun k => (isPc_g h1).mpr (s4 k)
  · intro p hp i
    rw [h5] at hp
    rw [k1 p (by omega)]
    exact s5 p hp i
end IV
