/-! The first cheapest fingering; all that is solved. -/
theorem fnd_spec {p : Int → Prop} {n : Int} (hn : 0 ≤ n) : (fnd p n = -1 ∧ ∀ i, 0 ≤ i → i < n → ¬ p i) ∨ (0 ≤ fnd p n ∧ fnd p n < n ∧ p (fnd p n) ∧ ∀ j, 0 ≤ j → j < fnd p n → ¬ p j) := by
  refine itI_ind (fun m v => (v = -1 ∧ ∀ i, 0 ≤ i → i < m → ¬ p i) ∨ (0 ≤ v ∧ v < m ∧ p v ∧ ∀ j, 0 ≤ j → j < v → ¬ p j)) (Or.inl ⟨rfl, fun i a b => by omega⟩) (fun i v i0 i1 hv => ?_) hn
  rcases hv with ⟨rfl, h⟩ | ⟨h0, h1, h2, h3⟩
  · by_cases hp : p i
    · rw [if_pos ⟨by decide, hp⟩]
      exact Or.inr ⟨i0, by omega, hp, fun j j0 j1 => h j j0 j1⟩
    · rw [if_neg (fun z => hp z.2)]
      refine Or.inl ⟨rfl, fun j j0 j1 => ?_⟩
      by_cases hj : j = i
      · subst hj; exact hp
      · exact h j j0 (by omega)
  · rw [if_neg (by omega)]
    exact Or.inr ⟨h0, by omega, h2, h3⟩
theorem fnd_eq {p : Int → Prop} {n i : Int} (i0 : 0 ≤ i) (i1 : i < n) (hp : p i) (h : ∀ j, 0 ≤ j → j < i → ¬ p j) : fnd p n = i := by
  rcases fnd_spec (p := p) (n := n) (by omega) with ⟨_, h1⟩ | ⟨h0, h1, h2, h3⟩
  · exact absurd hp (h1 i i0 i1)
  · by_cases hlt : fnd p n < i
    · exact absurd h2 (h _ h0 hlt)
    · by_cases hgt : i < fnd p n
      · exact absurd hp (h3 i i0 hgt)
      · omega
theorem fnd_ex {p : Int → Prop} {n i : Int} (i0 : 0 ≤ i) (i1 : i < n) (hp : p i) : 0 ≤ fnd p n ∧ fnd p n < n ∧ p (fnd p n) := by
  rcases fnd_spec (p := p) (n := n) (by omega) with ⟨_, h1⟩ | ⟨h0, h1, h2, h3⟩
  · exact absurd hp (h1 i i0 i1)
  · exact ⟨h0, h1, h2⟩
theorem loop_find {σ : Type} {head : Int → σ → Option Rs} {p : Int → Prop} {n : Int} {res : Int → Option Rs} {re : Option Rs} (hy : ∀ i s, 0 ≤ i → i < n → p i → head i s = res i) (hn : ∀ i s, 0 ≤ i → i < n → ¬ p i → ∃ s', head i s = head (i + 1) s') (he : ∀ s, head n s = re) (h0 : 0 ≤ n) (s : σ) : head 0 s = if fnd p n < 0 then re else res (fnd p n) := by
  have key : ∀ (d : Nat) (i : Int) (s : σ), 0 ≤ i → n - i = d → (∀ j, 0 ≤ j → j < i → ¬ p j) → head i s = if fnd p n < 0 then re else res (fnd p n) := by
    intro d
    induction d with
    | zero =>
      intro i s hi hd h
      have : i = n := by omega
      subst this
      rcases fnd_spec (p := p) h0 with ⟨h1, _⟩ | ⟨h1, h2, h3, _⟩
      · rw [he, h1, if_pos (by decide)]
      · exact absurd h3 (h _ h1 h2)
    | succ d ih =>
      intro i s hi hd h
      by_cases hp : p i
      · rw [hy i s hi (by omega) hp, fnd_eq hi (by omega) hp h, if_neg (by omega)]
      · obtain ⟨s', e⟩ := hn i s hi (by omega) hp
        rw [e]
        refine ih (i + 1) s' (by omega) (by omega) (fun j j0 j1 => ?_)
        by_cases hj : j = i
        · subst hj; exact hp
        · exact h j j0 (by omega)
  exact key n.toNat 0 s (Int.le_refl _) (by omega) (fun j a b => by omega)
/- the first cheapest one is there -/
theorem fr_ge {P : PT} (h : bdP P) {e c : Int} (e0 : 0 ≤ e) (e1 : e < pE P) : -1 ≤ frS P e c ∧ frS P e c ≤ 1206000 :=
  sum_b (h.2.2.2.1 0 e c e0 e1) (bhS_b h e0 e1) (by decide) (by decide)
theorem ls_fr {P : PT} (h : bdP P) (h1 : 1 ≤ pE P) : lsS P 0 = mnI (frS P 0) (cntS P 0) := by
  have hG := bd_G h 0
  have ht := tG_all hG (pE P - 1).toNat (by omega)
  have h2 : lsS P 0 = tG (pE P) (cntS P) (ownS P 0) (stepS P) (pE P - 1).toNat := by
    unfold lsS tG
    rw [if_neg (by omega), show ((pE P - 1).toNat : Int) = pE P - 1 by omega, show (pE P - 1 - (pE P - 1)).toNat = 0 by omega]
    refine mnI_congr (fun i i0 i1 => ?_) (h.2.2.1 _ (by omega) (by omega)).2.1
    have := ahS_b h (b := 0) (e := pE P - 1) (c := i) (by omega) (by omega)
    show ahG (cntS P) (ownS P 0) (stepS P) (pE P - 1).toNat i = sumS (ahG (cntS P) (ownS P 0) (stepS P) (pE P - 1).toNat i) 0
    have e : ahS P 0 (pE P - 1) i = ahG (cntS P) (ownS P 0) (stepS P) (pE P - 1).toNat i := rfl
    rw [← e]
    unfold sumS; split <;> omega
  rw [h2, ht]
  unfold tG
  refine mnI_congr (fun i i0 i1 => ?_) (h.2.2.1 _ (by omega) (by omega)).2.1
  unfold frS bhS bhN
  rw [show pE P - 1 - ((0 : Nat) : Int) = pE P - 1 - 0 by omega]
  rfl
theorem fs_ok {P : PT} (h : bdP P) (hl : ¬ lsS P 0 = -1) : ∀ (e : Nat), (e : Int) < pE P → (0 ≤ (fsN P e).1 ∧ (fsN P e).1 < cntS P e) ∧ (fsN P e).2 = bhS P e (fsN P e).1 ∧ 0 ≤ (fsN P e).2 := by
  intro e
  induction e with
  | zero =>
    intro he
    have h1 := ls_fr h (by omega)
    have hn := (h.2.2.1 0 (by omega) (by omega)).2.1
    have hge := fun i (_ : 0 ≤ i) (_ : i < cntS P 0) => (fr_ge h (c := i) (e := 0) (by omega) (by omega)).1
    have h0 : 0 ≤ lsS P 0 := by have := mn_ge hn hge; omega
    obtain ⟨c, c0, c1, hc⟩ := mn_at hn hge h0 h1.symm
    have hf := fnd_ex (p := fun c => (if (0 : Int) = 0 then frS P 0 c else sumS (stepS P (0 - 1) 0 c) (frS P 0 c)) = lsS P 0) c0 c1 (by show (if (0 : Int) = 0 then frS P 0 c else _) = _; rw [if_pos rfl]; exact hc)
    have e1 : (fsN P 0).1 = fnd (fun c => (if (0 : Int) = 0 then frS P 0 c else sumS (stepS P (0 - 1) 0 c) (frS P 0 c)) = lsS P 0) (cntS P 0) := by
      show max 0 _ = _
      omega
    have hp : (if (0 : Int) = 0 then frS P 0 (fsN P 0).1 else sumS (stepS P (0 - 1) 0 (fsN P 0).1) (frS P 0 (fsN P 0).1)) = lsS P 0 := by rw [e1]; exact hf.2.2
    rw [if_pos rfl] at hp
    have hs := sum_nn (h.2.2.2.1 0 0 (fsN P 0).1 (by omega) (by omega)).1 (bhS_b h (e := 0) (c := (fsN P 0).1) (by omega) (by omega)).1 h0 hp
    refine ⟨by rw [e1]; exact ⟨hf.1, hf.2.1⟩, rfl, ?_⟩
    show 0 ≤ bhS P 0 (fsN P 0).1
    exact hs.2.1
  | succ e ih =>
    intro he
    obtain ⟨ih1, ih2, ih3⟩ := ih (by omega)
    have hn := (h.2.2.1 ((e + 1 : Nat) : Int) (by omega) (by omega)).2.1
    have hge := fun i (_ : 0 ≤ i) (_ : i < cntS P (e + 1 : Nat)) => sum_ge (h.2.2.2.2.1 e (pRe P e) (fsN P e).1 i (by omega) (by omega) (h.2.2.2.2.2 _ (by omega) (by omega)).1).1 (fr_ge h (c := i) (e := (e + 1 : Nat)) (by omega) (by omega)).1
    have hb : mnI (fun k => sumS (stepS P e (fsN P e).1 k) (frS P (e + 1 : Nat) k)) (cntS P (e + 1 : Nat)) = (fsN P e).2 := by
      rw [ih2, bhS_s (by omega)]
      rfl
    obtain ⟨c, c0, c1, hc⟩ := mn_at hn hge ih3 hb
    have hf := fnd_ex (p := fun c => (if ((e + 1 : Nat) : Int) = 0 then frS P 0 c else sumS (stepS P (((e + 1 : Nat) : Int) - 1) (fsN P e).1 c) (frS P (e + 1 : Nat) c)) = (fsN P e).2) c0 c1 (by
      show (if ((e + 1 : Nat) : Int) = 0 then frS P 0 c else _) = _; rw [if_neg (by omega), show ((e + 1 : Nat) : Int) - 1 = e by omega]; exact hc)
    have e1 : (fsN P (e + 1)).1 = fnd (fun c => (if ((e + 1 : Nat) : Int) = 0 then frS P 0 c else sumS (stepS P (((e + 1 : Nat) : Int) - 1) (fsN P e).1 c) (frS P (e + 1 : Nat) c)) = (fsN P e).2) (cntS P (e + 1 : Nat)) := by
      show max 0 _ = _
      omega
    have hp := hf.2.2
    rw [← e1] at hp
    have hp : (if ((e + 1 : Nat) : Int) = 0 then frS P 0 (fsN P (e + 1)).1 else sumS (stepS P (((e + 1 : Nat) : Int) - 1) (fsN P e).1 (fsN P (e + 1)).1) (frS P (e + 1 : Nat) (fsN P (e + 1)).1)) = (fsN P e).2 := hp
    rw [if_neg (by omega), show ((e + 1 : Nat) : Int) - 1 = e by omega] at hp
    have hs := sum_nn (h.2.2.2.2.1 e (pRe P e) (fsN P e).1 (fsN P (e + 1)).1 (by omega) (by omega) (h.2.2.2.2.2 _ (by omega) (by omega)).1).1 (fr_ge h (e := (e + 1 : Nat)) (c := (fsN P (e + 1)).1) (by omega) (by omega)).1 ih3 hp
    have hs2 := sum_nn (h.2.2.2.1 0 (e + 1 : Nat) (fsN P (e + 1)).1 (by omega) (by omega)).1 (bhS_b h (e := (e + 1 : Nat)) (c := (fsN P (e + 1)).1) (by omega) (by omega)).1 hs.2.1 rfl
    refine ⟨by rw [e1]; exact ⟨hf.1, hf.2.1⟩, rfl, ?_⟩
    show 0 ≤ bhS P (e + 1 : Nat) (fsN P (e + 1)).1
    exact hs2.2.1
section FI
variable {g : Gm} {I : Mm} {q l : Nat}
theorem s_firstChoice {P : PT} {e left prev : Int} (hl : isPl g l) (hbd : bdP P) (he : 0 ≤ e ∧ e < pE P) (hlf : (-2147483648 ≤ left ∧ left < 2147483648)) (hc : ChF P l I e) (hb : BhF P l I e) (hst : 1 ≤ e → StF P l I (e - 1) ∧ I (l + 14) (e - 1) = prev ∧ 0 ≤ prev ∧ prev < cntS P (e - 1)) :
    cl 46 [.ref l, .int (iI e), .int (iI left)] (mk g I) = some (.inl (some (.int (iI (fsC P e prev left)))), mk g I) := by
  have hl' := hl
  obtain ⟨l_0, ⟨l_1, m_1, l_2⟩, ⟨l_3, m_3, l_4⟩, ⟨l_5, m_5, l_6⟩, ⟨l_7, m_7, l_8⟩, ⟨l_9, m_9, l_10⟩, ⟨l_11, m_11, l_12⟩, ⟨l_13, m_13, l_14⟩, ⟨l_15, m_15, l_16⟩, ⟨l_17, m_17, l_18⟩, l_19, l_20⟩ := hl
  have b1 := hbd.2.1
  have n0 := hbd.2.2.1 e he.1 he.2
  have hcn : I (l + 2) e = cntS P e := hc.1
  have key := loop_find (σ := Option Value) (head := fun i s => rn 46 1 [some (.ref l), some (.int (iI e)), some (.int (iI left)), some (.int (iI i)), s] [] (mk g I)) (p := fun c => (if e = 0 then frS P 0 c else sumS (stepS P (e - 1) prev c) (frS P e c)) = left) (n := cntS P e) (res := fun i => some (.inl (some (.int (iI i))), mk g I)) (re := some (.inl (some (.int (iI 0))), mk g I)) (by
    intro c s c0 c1 hp
    have hO : I (l + 6) (e * 10 + c) = ownS P 0 e c := (hc.2 c c0 c1).2
    have hBh : I (l + 12) (e * 10 + c) = bhS P e c := hb c c0 c1
    have bO := hbd.2.2.2.1 0 e c he.1 he.2
    have bB := bhS_b hbd (c := c) he.1 he.2
    have bF := fr_ge hbd (c := c) he.1 he.2
    by_cases e0 : e = 0
    · have hcf := s_costFrom (g := g) (I := I) (e := e) (c := c) hl' (by omega) (by omega) (by omega) (by omega)
      rw [hO, hBh] at hcf
      have hp : (if e = 0 then frS P 0 c else _) = left := hp
      rw [if_pos e0] at hp
      have hv : sumS (ownS P 0 e c) (bhS P e c) = left := by rw [← hp, e0]; rfl
      rw [hv] at hcf
      refine (w_46_1 (by first | assumption | omega) (by first | assumption | omega)).trans ?_
      simp (maxSteps := 2000000) (disch := first | assumption | omega) only [aft_v, aft_n, aft_t, Nat.add_assoc, Nat.reduceAdd, if_true, if_false, not_true_eq_false, not_false_eq_true, Classical.not_not, Int.reduceAdd, Int.reduceSub, Int.reduceMul, Int.reduceNeg, Int.reduceLT, Int.reduceLE, Int.reduceEq, Int.add_zero, Int.zero_add, Int.sub_zero, w_46_2, w_46_3, w_46_4, w_46_5, w_46_8, w_46_9, s_row_get, hcn, if_neg (show ¬ cntS P e ≤ c by omega), if_neg (show ¬ ¬ e = 0 by omega), hcf]
    · obtain ⟨s1, s2, s3, s4⟩ := hst (by omega)
      have np := hbd.2.2.1 (e - 1) (by omega) (by omega)
      have hS : I (l + 8) (((e - 1) * 10 + prev) * 10 + c) = stepS P (e - 1) prev c := s1 prev c s3 s4 c0 (by rw [show e - 1 + 1 = e by omega]; exact c1)
      have bS := hbd.2.2.2.2.1 (e - 1) (pRe P (e - 1)) prev c (by omega) (by omega) (hbd.2.2.2.2.2 _ (by omega) (by omega)).1
      have bS : -1 ≤ stepS P (e - 1) prev c ∧ stepS P (e - 1) prev c ≤ 21384 := bS
      have hco := s_costOnward (g := g) (I := I) (e := e - 1) (c := prev) (n := c) hl' (by omega) (by omega) (by omega) (by rw [show e - 1 + 1 = e by omega]; omega) (by rw [show e - 1 + 1 = e by omega]; omega) (by omega)
      rw [show e - 1 + 1 = e by omega, hO, hBh, hS] at hco
      have hp : (if e = 0 then _ else sumS (stepS P (e - 1) prev c) (frS P e c)) = left := hp
      rw [if_neg e0] at hp
      have hv : sumS (stepS P (e - 1) prev c) (sumS (ownS P 0 e c) (bhS P e c)) = left := hp
      rw [hv] at hco
      refine (w_46_1 (by first | assumption | omega) (by first | assumption | omega)).trans ?_
      simp (maxSteps := 2000000) (disch := first | assumption | omega) only [aft_v, aft_n, aft_t, Nat.add_assoc, Nat.reduceAdd, if_true, if_false, not_true_eq_false, not_false_eq_true, Classical.not_not, Int.reduceAdd, Int.reduceSub, Int.reduceMul, Int.reduceNeg, Int.reduceLT, Int.reduceLE, Int.reduceEq, Int.add_zero, Int.zero_add, Int.sub_zero, w_46_2, w_46_3, w_46_6, w_46_7, w_46_8, w_46_9, s_row_get, hcn, if_neg (show ¬ cntS P e ≤ c by omega), e0, s2, hco]) (by
    intro c s c0 c1 hp
    have hO : I (l + 6) (e * 10 + c) = ownS P 0 e c := (hc.2 c c0 c1).2
    have hBh : I (l + 12) (e * 10 + c) = bhS P e c := hb c c0 c1
    have bO := hbd.2.2.2.1 0 e c he.1 he.2
    have bB := bhS_b hbd (c := c) he.1 he.2
    have bF := fr_ge hbd (c := c) he.1 he.2
    by_cases e0 : e = 0
    · have hcf := s_costFrom (g := g) (I := I) (e := e) (c := c) hl' (by omega) (by omega) (by omega) (by omega)
      rw [hO, hBh] at hcf
      have hp : ¬ (if e = 0 then frS P 0 c else _) = left := hp
      rw [if_pos e0] at hp
      have hv : sumS (ownS P 0 e c) (bhS P e c) = frS P 0 c := by rw [e0]; rfl
      rw [hv] at hcf
      rw [e0] at bF
      refine ⟨some (.int (iI (frS P 0 c))), ?_⟩
      show rn _ _ _ _ _ = rn _ _ _ _ _
      refine (w_46_1 (by first | assumption | omega) (by first | assumption | omega)).trans ?_
      simp (maxSteps := 2000000) (disch := first | assumption | omega) only [aft_v, aft_n, aft_t, Nat.add_assoc, Nat.reduceAdd, if_true, if_false, not_true_eq_false, not_false_eq_true, Classical.not_not, Int.reduceAdd, Int.reduceSub, Int.reduceMul, Int.reduceNeg, Int.reduceLT, Int.reduceLE, Int.reduceEq, Int.add_zero, Int.zero_add, Int.sub_zero, w_46_2, w_46_3, w_46_4, w_46_5, w_46_8, w_46_10, s_row_get, hcn, if_neg (show ¬ cntS P e ≤ c by omega), if_neg (show ¬ ¬ e = 0 by omega), hcf, hp]
    · obtain ⟨s1, s2, s3, s4⟩ := hst (by omega)
      have np := hbd.2.2.1 (e - 1) (by omega) (by omega)
      have hS : I (l + 8) (((e - 1) * 10 + prev) * 10 + c) = stepS P (e - 1) prev c := s1 prev c s3 s4 c0 (by rw [show e - 1 + 1 = e by omega]; exact c1)
      have bS := hbd.2.2.2.2.1 (e - 1) (pRe P (e - 1)) prev c (by omega) (by omega) (hbd.2.2.2.2.2 _ (by omega) (by omega)).1
      have bS : -1 ≤ stepS P (e - 1) prev c ∧ stepS P (e - 1) prev c ≤ 21384 := bS
      have hco := s_costOnward (g := g) (I := I) (e := e - 1) (c := prev) (n := c) hl' (by omega) (by omega) (by omega) (by rw [show e - 1 + 1 = e by omega]; omega) (by rw [show e - 1 + 1 = e by omega]; omega) (by omega)
      rw [show e - 1 + 1 = e by omega, hO, hBh, hS] at hco
      have hp : ¬ (if e = 0 then _ else sumS (stepS P (e - 1) prev c) (frS P e c)) = left := hp
      rw [if_neg e0] at hp
      have hv : sumS (stepS P (e - 1) prev c) (sumS (ownS P 0 e c) (bhS P e c)) = sumS (stepS P (e - 1) prev c) (frS P e c) := rfl
      rw [hv] at hco
      have bV := sum_b bS bF (by decide) (by decide)
      refine ⟨some (.int (iI (sumS (stepS P (e - 1) prev c) (frS P e c)))), ?_⟩
      show rn _ _ _ _ _ = rn _ _ _ _ _
      generalize sumS (stepS P (e - 1) prev c) (frS P e c) = V at *
      refine (w_46_1 (by first | assumption | omega) (by first | assumption | omega)).trans ?_
      simp (maxSteps := 2000000) (disch := first | assumption | omega) only [aft_v, aft_n, aft_t, Nat.add_assoc, Nat.reduceAdd, if_true, if_false, not_true_eq_false, not_false_eq_true, Classical.not_not, Int.reduceAdd, Int.reduceSub, Int.reduceMul, Int.reduceNeg, Int.reduceLT, Int.reduceLE, Int.reduceEq, Int.add_zero, Int.zero_add, Int.sub_zero, w_46_2, w_46_3, w_46_6, w_46_7, w_46_8, w_46_10, s_row_get, hcn, if_neg (show ¬ cntS P e ≤ c by omega), e0, s2, hco, hp]) (by
    intro s
    show rn _ _ _ _ _ = _
    refine (w_46_1 (by first | assumption | omega) (by first | assumption | omega)).trans ?_
    simp (maxSteps := 2000000) (disch := first | assumption | omega) only [aft_v, aft_n, aft_t, Nat.add_assoc, Nat.reduceAdd, if_true, if_false, not_true_eq_false, not_false_eq_true, Classical.not_not, Int.reduceAdd, Int.reduceSub, Int.reduceMul, Int.reduceNeg, Int.reduceLT, Int.reduceLE, Int.reduceEq, Int.add_zero, Int.zero_add, Int.sub_zero, w_46_2, w_46_11, s_row_get, hcn, if_pos (Int.le_refl (cntS P e))]) n0.2.1 none
  have key : rn 46 1 [some (.ref l), some (.int (iI e)), some (.int (iI left)), some (.int (iI 0)), none] [] (mk g I) = _ := key
  refine c_46.trans ?_
  refine (w_46_0).trans ?_
  refine key.trans ?_
  unfold fsC
  generalize fnd (fun c => (if e = 0 then frS P 0 c else sumS (stepS P (e - 1) prev c) (frS P e c)) = left) (cntS P e) = v
  by_cases hv : v < 0
  · rw [if_pos hv]; refine ans_i ?_; omega
  · rw [if_neg hv]; refine ans_i ?_; omega
theorem s_findFirst {P : PT} (hl : isPl g l) (hbd : bdP P) (hev : I l 1 = pE P) (hls : I l 2 = lsS P 0) (h0 : ¬ lsS P 0 = -1) (hlr : (-2147483648 ≤ lsS P 0 ∧ lsS P 0 < 2147483648)) (hc : ∀ e, 0 ≤ e → e < pE P → ChF P l I e) (hst : ∀ e, 0 ≤ e → e + 1 < pE P → StF P l I e) (hb : ∀ e, 0 ≤ e → e < pE P → BhF P l I e) :
    ∃ I', cl 45 [.ref l] (mk g I) = some (.inl none, mk g I') ∧ onl (l + 14) I I' ∧ ∀ e, 0 ≤ e → e < pE P → I' (l + 14) e = fsS P e := by
  have hl' := hl
  obtain ⟨l_0, ⟨l_1, m_1, l_2⟩, ⟨l_3, m_3, l_4⟩, ⟨l_5, m_5, l_6⟩, ⟨l_7, m_7, l_8⟩, ⟨l_9, m_9, l_10⟩, ⟨l_11, m_11, l_12⟩, ⟨l_13, m_13, l_14⟩, ⟨l_15, m_15, l_16⟩, ⟨l_17, m_17, l_18⟩, l_19, l_20⟩ := hl
  have b1 := hbd.2.1
  have outer := loop_up (σ := Mm × Int × Option Value) (head := fun e s => rn 45 3 [some (.ref l), some (.int (iI s.2.1)), some (.int (iI e)), s.2.2] [] (mk g s.1))
    (Inv := fun e s => 0 ≤ e ∧ onl (l + 14) I s.1 ∧ (∀ e', 0 ≤ e' → e' < e → s.1 (l + 14) e' = fsS P e') ∧ s.2.1 = (if e = 0 then lsS P 0 else (fsN P (e - 1).toNat).2)) (n := pE P) (by
    rintro e ⟨J, left, o3⟩ hlt ⟨e0, h1, h2, h3⟩
    have h1 : onl (l + 14) I J := h1
    have h2 : ∀ e', 0 ≤ e' → e' < e → J (l + 14) e' = fsS P e' := h2
    have h3 : left = (if e = 0 then lsS P 0 else (fsN P (e - 1).toNat).2) := h3
    have hJe : J l 1 = pE P := by rw [h1 l (by omega), hev]
    have j2 : J (l + 2) = I (l + 2) := h1 _ (by omega)
    have j4 : J (l + 4) = I (l + 4) := h1 _ (by omega)
    have j6 : J (l + 6) = I (l + 6) := h1 _ (by omega)
    have j8 : J (l + 8) = I (l + 8) := h1 _ (by omega)
    have j12 : J (l + 12) = I (l + 12) := h1 _ (by omega)
    have n0 := hbd.2.2.1 e e0 hlt
    have hC : ChF P l J e := (hc e e0 hlt).mono j2 j4 j6
    have hB : BhF P l J e := by unfold BhF; rw [j12]; exact hb e e0 hlt
    have hfo := fs_ok hbd h0 e.toNat (by omega)
    rw [show ((e.toNat : Nat) : Int) = e by omega] at hfo
    have hv : fsC P e (fsS P (e - 1)) left = fsS P e ∧ (-2147483648 ≤ left ∧ left < 2147483648) := by
      by_cases hz : e = 0
      · subst hz
        rw [if_pos rfl] at h3
        rw [h3]
        refine ⟨?_, hlr⟩
        unfold fsC fsS
        show max 0 (fnd (fun c => (if (0 : Int) = 0 then frS P 0 c else _) = lsS P 0) (cntS P 0)) = max 0 (fnd (fun c => (if (0 : Int) = 0 then frS P 0 c else _) = lsS P 0) (cntS P 0))
        simp only [if_pos]
      · rw [if_neg hz] at h3
        obtain ⟨k, hk⟩ : ∃ k : Nat, e = (k + 1 : Nat) := ⟨(e - 1).toNat, by omega⟩
        have hfp := fs_ok hbd h0 k (by omega)
        have hbk := bhS_b hbd (e := k) (c := (fsN P k).1) (by omega) (by omega)
        rw [h3, hk]
        rw [show (((k + 1 : Nat) : Int) - 1).toNat = k by omega]
        refine ⟨?_, by omega, by omega⟩
        unfold fsS
        rw [show (((k + 1 : Nat) : Int) - 1).toNat = k by omega, show (((k + 1 : Nat) : Int)).toNat = k + 1 by omega]
        rfl
    have hfc := s_firstChoice (g := g) (I := J) (prev := fsS P (e - 1)) hl' hbd ⟨e0, hlt⟩ hv.2 hC hB (fun h => by
      have hfp := fs_ok hbd h0 (e - 1).toNat (by omega)
      rw [show (((e - 1).toNat : Nat) : Int) = e - 1 by omega] at hfp
      refine ⟨by unfold StF; rw [j8]; exact hst (e - 1) (by omega) (by omega), h2 (e - 1) (by omega) (by omega), hfp.1⟩)
    rw [hv.1] at hfc
    have hfs : 0 ≤ fsS P e ∧ fsS P e < cntS P e := hfo.1
    have hbv : upd2 J (l + 14) e (fsS P e) (l + 12) (e * 10 + fsS P e) = bhS P e (fsS P e) := by
      rw [upd2_p (by omega)]; exact hB _ hfs.1 hfs.2
    refine ⟨(upd2 J (l + 14) e (fsS P e), bhS P e (fsS P e), some (.int (iI (fsS P e)))), ?_, by omega, h1.upd, fun e' a b => ?_, ?_⟩
    · show rn _ _ _ _ (mk g J) = rn _ _ _ _ _
      refine (w_45_3 (by first | assumption | omega) (by first | assumption | omega) (by first | assumption | omega) (by first | assumption | omega) (by first | assumption | omega)).trans ?_
      simp (maxSteps := 2000000) (disch := first | assumption | omega) only [aft_v, aft_n, aft_t, Nat.add_assoc, Nat.reduceAdd, if_true, if_false, not_true_eq_false, not_false_eq_true, Classical.not_not, Int.reduceAdd, Int.reduceSub, Int.reduceMul, Int.reduceNeg, Int.reduceLT, Int.reduceLE, Int.reduceEq, Int.add_zero, Int.zero_add, Int.sub_zero, w_45_4, w_45_5, w_45_6, w_45_7, w_45_8, s_row_get, s_row_put, hJe, if_neg (show ¬ pE P ≤ e by omega), hfc, s_placeOfChoice, hbv]
    · by_cases hee : e' = e
      · subst hee; exact upd2_at
      · show upd2 J (l + 14) e (fsS P e) (l + 14) e' = _
        rw [upd2_i hee]; exact h2 e' a (by omega)
    · show bhS P e (fsS P e) = _
      rw [if_neg (by omega), show (e + 1 - 1).toNat = e.toNat by omega]
      exact hfo.2.1.symm) 0 (I, lsS P 0, none) hbd.2.1.1 ⟨Int.le_refl _, onl.refl, fun e' a b => by omega, (if_pos rfl).symm⟩
  obtain ⟨⟨J, left, o3⟩, e1, -, k1, k2, -⟩ := outer
  have e1 : rn 45 3 [some (.ref l), some (.int (iI (lsS P 0))), some (.int (iI 0)), none] [] (mk g I) = rn 45 3 [some (.ref l), some (.int (iI left)), some (.int (iI (pE P))), o3] [] (mk g J) := e1
  have k1 : onl (l + 14) I J := k1
  have hJe : J l 1 = pE P := by rw [k1 l (by omega), hev]
  refine ⟨J, ?_, k1, k2⟩
  simp (maxSteps := 2000000) (disch := first | assumption | omega) only [aft_v, aft_n, aft_t, Nat.add_assoc, Nat.reduceAdd, if_true, if_false, not_true_eq_false, not_false_eq_true, Classical.not_not, Int.reduceAdd, Int.reduceSub, Int.reduceMul, Int.reduceNeg, Int.reduceLT, Int.reduceLE, Int.reduceEq, Int.add_zero, Int.zero_add, Int.sub_zero, c_45, w_45_0, w_45_2, hls, if_pos h0]
  rw [e1]
  refine (w_45_3 (by first | assumption | omega) (by first | assumption | omega) (by first | assumption | omega) (by first | assumption | omega) (by first | assumption | omega)).trans ?_
  simp (maxSteps := 2000000) (disch := first | assumption | omega) only [aft_v, aft_n, aft_t, Nat.add_assoc, Nat.reduceAdd, if_true, if_false, not_true_eq_false, not_false_eq_true, Classical.not_not, Int.reduceAdd, Int.reduceSub, Int.reduceMul, Int.reduceNeg, Int.reduceLT, Int.reduceLE, Int.reduceEq, Int.add_zero, Int.zero_add, Int.sub_zero, w_45_9, hJe, if_pos (Int.le_refl (pE P))]
theorem s_findFirst0 (hl : isPl g l) (hls : I l 2 = -1) : cl 45 [.ref l] (mk g I) = some (.inl none, mk g I) := by
  obtain ⟨l_0, ⟨l_1, m_1, l_2⟩, ⟨l_3, m_3, l_4⟩, ⟨l_5, m_5, l_6⟩, ⟨l_7, m_7, l_8⟩, ⟨l_9, m_9, l_10⟩, ⟨l_11, m_11, l_12⟩, ⟨l_13, m_13, l_14⟩, ⟨l_15, m_15, l_16⟩, ⟨l_17, m_17, l_18⟩, l_19, l_20⟩ := hl
  simp (maxSteps := 2000000) (disch := first | assumption | omega) only [aft_v, aft_n, aft_t, Nat.add_assoc, Nat.reduceAdd, if_true, if_false, not_true_eq_false, not_false_eq_true, Classical.not_not, Int.reduceAdd, Int.reduceSub, Int.reduceMul, Int.reduceNeg, Int.reduceLT, Int.reduceLE, Int.reduceEq, Int.add_zero, Int.zero_add, Int.sub_zero, c_45, w_45_0, w_45_1, w_45_2, hls]
end FI
