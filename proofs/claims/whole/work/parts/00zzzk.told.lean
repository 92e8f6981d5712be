/-! Fingers that are told: the class reads them. -/
def gTn (B : Int → Int) (n : Int) : Nat → Int → (Int → Int) → Int → Rz ((Int → Int) × Int)
  | 0, _, f, b => .inr (f, b)
  | m + 1, k, f, b => if tkK B n b = 0 then .inl (-4, tkS B n b) else bnd (gNu B n 1 5 1 b) fun vb => gTn B n m (k + 1) (fun i => if i = k then vb.1 else f i) vb.2
def gTe (B : Int → Int) (n : Int) (sz : Int → Int) : Nat → Int → (Int → Int → Int) → Int → Rz ((Int → Int → Int) × Int)
  | 0, _, F, b => .inr (F, b)
  | m + 1, e, F, b => bnd (gTn B n (sz e).toNat 0 (fun _ => 0) b) fun x => gTe B n sz m (e + 1) (fun i => if i = e then x.1 else F i) x.2
def gTl (B : Int → Int) (n : Int) (P : PT) : Rz (Int → Int → Int) := bnd (gTe B n (pSz P) (pE P).toNat 0 (fun _ _ => 0) 0) fun x => if tkK B n x.2 = 2 then .inl (-5, tkS B n x.2) else bnd (gEn B n x.2) fun _ => .inr x.1
theorem gTe_A {B : Int → Int} {n : Int} {s s' : Int → Int} : ∀ (m : Nat) (e : Int) (F : Int → Int → Int) (b : Int), (∀ i, e ≤ i → i < e + m → s i = s' i) → gTe B n s m e F b = gTe B n s' m e F b := by
  intro m
  induction m with
  | zero => intro e F b h; rfl
  | succ m ih =>
    intro e F b h
    simp only [gTe]
    rw [h e (Int.le_refl _) (by omega)]
    cases gTn B n (s' e).toNat 0 (fun _ => 0) b with
    | inl x => rfl
    | inr x => exact ih (e + 1) _ x.2 (fun i i0 i1 => h i (by omega) (by omega))
theorem gTl_A {B : Int → Int} {n : Int} {P P' : PT} (hA : Agr P P') (h0 : 0 ≤ pE P) : gTl B n P = gTl B n P' := by
  unfold gTl
  rw [gTe_A (s := pSz P) (s' := pSz P') (pE P).toNat 0 (fun _ _ => 0) 0 (fun i i0 i1 => (hA.2.2.1 i i0 (by omega)).1), hA.2.1]
/-- the class while it reads told fingers -/
def tlI (sz : Int → Int) (R : Nat) (e k : Int) (F : Int → Int → Int) (f : Int → Int) (J : Mm) : Prop := (∀ e' i, 0 ≤ e' → e' < e → 0 ≤ i → i < sz e' → J (R + 1) (e' * 3 + i) = F e' i ∧ 1 ≤ F e' i ∧ F e' i ≤ 5) ∧ ∀ i, 0 ≤ i → i < k → J (R + 1) (e * 3 + i) = f i ∧ 1 ≤ f i ∧ f i ≤ 5
def tsI (B : Int → Int) (n : Int) (t R : Nat) (b : Int) (I J : Mm) : Prop := (∀ p, ¬ p = t → ¬ p = R + 1 → J p = I p) ∧ J t 3 = -1 ∧ lx B n t b J
def teI (t R : Nat) (e : Int × Int) (I J : Mm) : Prop := (∀ p, ¬ p = t → ¬ p = R + 1 → J p = I p) ∧ J t 2 = e.1 ∧ J t 3 = e.2
section TO
variable {g : Gm} {I J : Mm} {t q R : Nat} {B : Int → Int} {n b : Int} {sz : Int → Int}
theorem l_tn {e N : Int} {F : Int → Int → Int} (hT : isTx g t) (hq : isPc g q) (hR : isR g R ∧ g.1 R = sX2 R ∧ gn g (R + 1) = 120) (hO : txB B n) (hd : q + 17 ≤ t) (hd2 : t + 2 < R) (hN : 1 ≤ N ∧ N ≤ 3) (hs : I (q + 2) e = N) (he : 0 ≤ e ∧ e < 40) (hz : ∀ i, 0 ≤ i → i < e → sz i ≤ 3) : ∀ (m : Nat) (k : Int) (f : Int → Int) (b : Int) (J : Mm), 0 ≤ k → k + m = N → tsI B n t R b I J → tlI sz R e k F f J →
    (∃ x K, gTn B n m k f b = .inl x ∧ rn 72 4 [some (.ref t), some (.ref q), some (.ref R), some (.int (iI e)), some (.int (iI k))] [] (mk g J) = some (.inl (some (.int (iI 0))), mk g K) ∧ teI t R x I K) ∨
    ∃ f' c K, gTn B n m k f b = .inr (f', c) ∧ rn 72 4 [some (.ref t), some (.ref q), some (.ref R), some (.int (iI e)), some (.int (iI k))] [] (mk g J) = rn 72 15 [some (.ref t), some (.ref q), some (.ref R), some (.int (iI e)), some (.int (iI N))] [] (mk g K) ∧ tsI B n t R c I K ∧ tlI sz R e N F f' K := by
  have t4 := hT.1
  have hq' := hq
  obtain ⟨p_0, ⟨p_1, q_1, p_2⟩, ⟨p_3, q_3, p_4⟩, ⟨p_5, q_5, p_6⟩, ⟨p_7, q_7, p_8⟩, ⟨p_9, q_9, p_10⟩, ⟨p_11, q_11, p_12⟩, ⟨p_13, q_13, p_14⟩, ⟨p_15, q_15, p_16⟩⟩ := hq
  obtain ⟨r_0, r_1, r_2⟩ := hR
  have o1 : ¬ (1 : Int) = 0 := by decide
  intro m
  induction m with
  | zero =>
    intro k f b J k0 km h hL
    have hk : k = N := by omega
    have qs := s_row_get (g := g) (I := J) (p := q + 1) (i := e) p_1 (by omega) (by omega)
    rw [show J (q + 1 + 1) e = N by rw [h.1 (q + 1 + 1) (by omega) (by omega)]; exact hs] at qs
    refine Or.inr ⟨f, b, J, rfl, ?_, h, by rw [hk] at hL; exact hL⟩
    rw [hk]
    refine (w_72_4 (by first | assumption | omega) (by first | assumption | omega)).trans ?_
    rw [qs, aft_v]
    refine (w_72_5 (by first | assumption | omega) (by first | assumption | omega) (by first | assumption | omega) (by first | assumption | omega)).trans ?_
    refine (if_pos (by omega)).trans ?_
    rfl
  | succ m ih =>
    intro k f b J k0 km h hL
    have qs := s_row_get (g := g) (I := J) (p := q + 1) (i := e) p_1 (by omega) (by omega)
    rw [show J (q + 1 + 1) e = N by rw [h.1 (q + 1 + 1) (by omega) (by omega)]; exact hs] at qs
    have h4 := h.2.2.2.2.1
    have hkb := tkK_b (B := B) (n := n) (b := b)
    have start : rn 72 4 [some (.ref t), some (.ref q), some (.ref R), some (.int (iI e)), some (.int (iI k))] [] (mk g J) = rn 72 6 [some (.ref t), some (.ref q), some (.ref R), some (.int (iI e)), some (.int (iI k))] [] (mk g J) := by
      refine (w_72_4 (by first | assumption | omega) (by first | assumption | omega)).trans ?_
      rw [qs, aft_v]
      refine (w_72_5 (by first | assumption | omega) (by first | assumption | omega) (by first | assumption | omega) (by first | assumption | omega)).trans ?_
      refine (if_neg (by omega)).trans ?_
      rfl
    rw [start]
    by_cases hk0 : tkK B n b = 0
    · obtain ⟨K, j1, j2⟩ := s_fail (g := g) (c := -4) hT h.2.2
      refine Or.inl ⟨_, K, by simp only [gTn]; rw [if_pos hk0], ?_, fun p a c => (j2.1 p a).trans (h.1 p a c), j2.2⟩
      simp (maxSteps := 2000000) (disch := first | assumption | omega) only [aft_v, aft_n, aft_t, Nat.add_assoc, Nat.reduceAdd, if_true, if_false, not_true_eq_false, not_false_eq_true, Classical.not_not, Int.reduceAdd, Int.reduceSub, Int.reduceMul, Int.reduceNeg, Int.reduceLT, Int.reduceLE, Int.reduceEq, Int.add_zero, Int.zero_add, Int.sub_zero, w_72_6, w_72_7, w_72_8, h4, hk0, j1]
    rcases s_takeNumber (lo := 1) (hi := 5) (fi := 1) hT hO h.2.2 (by decide) (by decide) (by decide) (by decide) with ⟨x, K, g1, j1, j2⟩ | ⟨v, b1, K, g1, hv, hb1, j1, j2, j3⟩
    · refine Or.inl ⟨x, K, by simp only [gTn]; rw [if_neg hk0, g1]; rfl, ?_, fun p a c => (j2.1 p a).trans (h.1 p a c), j2.2⟩
      simp (maxSteps := 2000000) (disch := first | assumption | omega) only [aft_v, aft_n, aft_t, Nat.add_assoc, Nat.reduceAdd, if_true, if_false, not_true_eq_false, not_false_eq_true, Classical.not_not, Int.reduceAdd, Int.reduceSub, Int.reduceMul, Int.reduceNeg, Int.reduceLT, Int.reduceLE, Int.reduceEq, Int.add_zero, Int.zero_add, Int.sub_zero, w_72_6, w_72_9, w_72_10, w_72_11, h4, hk0, j1]
    have qp := s_row_put (g := g) (I := K) (p := R) (i := e * 3 + k) (v := v) r_0 (by omega) (by omega)
    obtain ⟨L, hLd⟩ : ∃ L, L = upd2 K (R + 1) (e * 3 + k) v := ⟨_, rfl⟩
    rw [← hLd] at qp
    have lt : ∀ p, ¬ p = R + 1 → L p = K p := fun p hp => by rw [hLd]; funext i; exact upd2_p hp
    have kR : K (R + 1) = J (R + 1) := j2.1 (R + 1) (by omega)
    have eg : gTn B n (m + 1) k f b = gTn B n m (k + 1) (fun i => if i = k then v else f i) b1 := by simp only [gTn]; rw [if_neg hk0, g1]; rfl
    have go : rn 72 6 [some (.ref t), some (.ref q), some (.ref R), some (.int (iI e)), some (.int (iI k))] [] (mk g J) = rn 72 4 [some (.ref t), some (.ref q), some (.ref R), some (.int (iI e)), some (.int (iI (k + 1)))] [] (mk g L) := by
      simp (maxSteps := 2000000) (disch := first | assumption | omega) only [aft_v, aft_n, aft_t, Nat.add_assoc, Nat.reduceAdd, if_true, if_false, not_true_eq_false, not_false_eq_true, Classical.not_not, Int.reduceAdd, Int.reduceSub, Int.reduceMul, Int.reduceNeg, Int.reduceLT, Int.reduceLE, Int.reduceEq, Int.add_zero, Int.zero_add, Int.sub_zero, w_72_6, w_72_9, w_72_10, w_72_12, w_72_13, w_72_14, h4, hk0, j1, o1, j3, s_placeOf, qp]
    rw [go, eg]
    refine ih (k + 1) _ b1 L (by omega) (by omega) ⟨fun p a c => by rw [lt p c, j2.1 p a, h.1 p a c], by rw [lt t (by omega), j2.2.1]; exact h.2.1, lx_w (lt t (by omega)) (lt _ (by omega)) j2.2.2⟩ ⟨fun e' i e0 e1 i0 i1 => ?_, fun i i0 i1 => ?_⟩
    · have hz' := hz e' e0 e1
      rw [hLd, upd2_i (by omega), kR]
      exact hL.1 e' i e0 e1 i0 i1
    · show L (R + 1) (e * 3 + i) = (if i = k then v else f i) ∧ 1 ≤ (if i = k then v else f i) ∧ (if i = k then v else f i) ≤ 5
      by_cases hi : i = k
      · rw [if_pos hi, hi, hLd, upd2_at]; exact ⟨rfl, hv.1, hv.2.1⟩
      · rw [if_neg hi, hLd, upd2_i (by omega), kR]; exact hL.2 i i0 (by omega)
theorem l_te {E : Int} (hT : isTx g t) (hq : isPc g q) (hR : isR g R ∧ g.1 R = sX2 R ∧ gn g (R + 1) = 120) (hO : txB B n) (hd : q + 17 ≤ t) (hd2 : t + 2 < R) (hE : I q 1 = E) (hE2 : 0 ≤ E ∧ E ≤ 40) (hz : ∀ i, 0 ≤ i → i < E → I (q + 2) i = sz i ∧ 1 ≤ sz i ∧ sz i ≤ 3) : ∀ (m : Nat) (e : Int) (F : Int → Int → Int) (b : Int) (J : Mm) (o : Option Value), 0 ≤ e → e + m = E → tsI B n t R b I J → tlI sz R e 0 F (fun _ => 0) J →
    (∃ x K, gTe B n sz m e F b = .inl x ∧ rn 72 2 [some (.ref t), some (.ref q), some (.ref R), some (.int (iI e)), o] [] (mk g J) = some (.inl (some (.int (iI 0))), mk g K) ∧ teI t R x I K) ∨
    ∃ F' c K o', gTe B n sz m e F b = .inr (F', c) ∧ rn 72 2 [some (.ref t), some (.ref q), some (.ref R), some (.int (iI e)), o] [] (mk g J) = rn 72 16 [some (.ref t), some (.ref q), some (.ref R), some (.int (iI E)), o'] [] (mk g K) ∧ tsI B n t R c I K ∧ tlI sz R E 0 F' (fun _ => 0) K := by
  have t4 := hT.1
  have q0 := hq.1
  intro m
  induction m with
  | zero =>
    intro e F b J o e0 em h hL
    have he : e = E := by omega
    have hj : J q 1 = E := by rw [h.1 q (by omega) (by omega)]; exact hE
    refine Or.inr ⟨F, b, J, o, rfl, ?_, h, by rw [he] at hL; exact hL⟩
    rw [he]
    refine (w_72_2 (by first | assumption | omega) (by first | assumption | omega) (by first | assumption | omega) (by first | assumption | omega) (by first | assumption | omega)).trans ?_
    rw [hj]
    refine (if_pos (by omega)).trans ?_
    rfl
  | succ m ih =>
    intro e F b J o e0 em h hL
    have hj : J q 1 = E := by rw [h.1 q (by omega) (by omega)]; exact hE
    obtain ⟨z1, z2⟩ := hz e e0 (by omega)
    have start : rn 72 2 [some (.ref t), some (.ref q), some (.ref R), some (.int (iI e)), o] [] (mk g J) = rn 72 4 [some (.ref t), some (.ref q), some (.ref R), some (.int (iI e)), some (.int (iI 0))] [] (mk g J) := by
      refine (w_72_2 (by first | assumption | omega) (by first | assumption | omega) (by first | assumption | omega) (by first | assumption | omega) (by first | assumption | omega)).trans ?_
      rw [hj]
      refine (if_neg (by omega)).trans ?_
      simp (maxSteps := 2000000) (disch := first | assumption | omega) only [aft_v, aft_n, aft_t, Nat.add_assoc, Nat.reduceAdd, if_true, if_false, not_true_eq_false, not_false_eq_true, Classical.not_not, Int.reduceAdd, Int.reduceSub, Int.reduceMul, Int.reduceNeg, Int.reduceLT, Int.reduceLE, Int.reduceEq, Int.add_zero, Int.zero_add, Int.sub_zero, w_72_3]
    rw [start]
    rcases l_tn (sz := sz) (e := e) (N := sz e) (F := F) hT hq hR hO hd hd2 z2 z1 (by omega) (fun i i0 i1 => (hz i i0 (by omega)).2.2) (sz e).toNat 0 (fun _ => 0) b J (by decide) (by omega) h hL with ⟨x, K, g1, j1, j2⟩ | ⟨f', c, K, g1, j1, j2, j3⟩
    · exact Or.inl ⟨x, K, by simp only [gTe]; rw [g1]; rfl, j1, j2⟩
    have eg : gTe B n sz (m + 1) e F b = gTe B n sz m (e + 1) (fun i => if i = e then f' else F i) c := by simp only [gTe]; rw [g1]; rfl
    have go : rn 72 15 [some (.ref t), some (.ref q), some (.ref R), some (.int (iI e)), some (.int (iI (sz e)))] [] (mk g K) = rn 72 2 [some (.ref t), some (.ref q), some (.ref R), some (.int (iI (e + 1))), some (.int (iI (sz e)))] [] (mk g K) := w_72_15
    rw [j1, go, eg]
    refine ih (e + 1) _ c K (some (.int (iI (sz e)))) (by omega) (by omega) j2 ⟨fun e' i a0 a1 i0 i1 => ?_, fun i i0 i1 => by omega⟩
    show K (R + 1) (e' * 3 + i) = (if e' = e then f' else F e') i ∧ 1 ≤ (if e' = e then f' else F e') i ∧ (if e' = e then f' else F e') i ≤ 5
    by_cases he : e' = e
    · rw [if_pos he, he]
      rw [he] at i1
      exact j3.2 i i0 i1
    · rw [if_neg he]
      exact j3.1 e' i a0 (by omega) i0 i1
theorem s_readFingering {P : PT} (hT : isTx g t) (hq : isPc g q) (hR : isR g R ∧ g.1 R = sX2 R ∧ gn g (R + 1) = 120) (hO : txB B n) (hd : q + 17 ≤ t) (hd2 : t + 2 < R) (hP : P = pv I q) (hW : Wf P) (h2 : I (t + 2) = B) (h1 : I t 1 = n) :
    (∃ x K, gTl B n P = .inl x ∧ cl 72 [.ref t, .ref q, .ref R] (mk g I) = some (.inl (some (.int (iI 0))), mk g K) ∧ teI t R x I K) ∨
    ∃ F K, gTl B n P = .inr F ∧ cl 72 [.ref t, .ref q, .ref R] (mk g I) = some (.inl (some (.int (iI 1))), mk g K) ∧ (∀ p, ¬ p = t → ¬ p = R + 1 → K p = I p) ∧ K t 3 = -1 ∧ ∀ e i, 0 ≤ e → e < pE P → 0 ≤ i → i < pSz P e → K (R + 1) (e * 3 + i) = F e i ∧ 1 ≤ F e i ∧ F e i ≤ 5 := by
  have t4 := hT.1
  have hE : I q 1 = pE P := by rw [hP]; rfl
  have hz : ∀ i, 0 ≤ i → i < pE P → I (q + 2) i = pSz P i ∧ 1 ≤ pSz P i ∧ pSz P i ≤ 3 := fun i i0 i1 => ⟨by rw [hP]; rfl, (hW.2.2.1 i i0 i1).1⟩
  obtain ⟨J, j1, j2, j3, j4⟩ := s_beginReading (g := g) hT hO h2 h1
  have start : cl 72 [.ref t, .ref q, .ref R] (mk g I) = rn 72 2 [some (.ref t), some (.ref q), some (.ref R), some (.int (iI 0)), none] [] (mk g J) := by
    simp (maxSteps := 2000000) (disch := first | assumption | omega) only [aft_v, aft_n, aft_t, Nat.add_assoc, Nat.reduceAdd, if_true, if_false, not_true_eq_false, not_false_eq_true, Classical.not_not, Int.reduceAdd, Int.reduceSub, Int.reduceMul, Int.reduceNeg, Int.reduceLT, Int.reduceLE, Int.reduceEq, Int.add_zero, Int.zero_add, Int.sub_zero, c_72, w_72_0, w_72_1, j1]
  rw [start]
  rcases l_te (sz := pSz P) (I := I) hT hq hR hO hd hd2 hE hW.2.1 hz (pE P).toNat 0 (fun _ _ => 0) 0 J none (by decide) (by have := hW.2.1; omega) ⟨fun p a _ => j2 p a, j3, j4⟩ ⟨fun e' i a0 a1 => by omega, fun i i0 i1 => by omega⟩ with ⟨x, K, g1, k1, k2⟩ | ⟨F, c, K, o, g1, k1, k2, k3⟩
  · exact Or.inl ⟨x, K, by unfold gTl; rw [g1]; rfl, k1, k2⟩
  have eg : gTl B n P = if tkK B n c = 2 then .inl (-5, tkS B n c) else bnd (gEn B n c) fun _ => .inr F := by unfold gTl; rw [g1]; rfl
  have h4 := k2.2.2.2.2.1
  have hkb := tkK_b (B := B) (n := n) (b := c)
  rw [k1, eg]
  by_cases hk : tkK B n c = 2
  · obtain ⟨L, l1, l2⟩ := s_fail (g := g) (c := -5) hT k2.2.2
    refine Or.inl ⟨_, L, by rw [if_pos hk], ?_, fun p a d => (l2.1 p a).trans (k2.1 p a d), l2.2⟩
    simp (maxSteps := 2000000) (disch := first | assumption | omega) only [aft_v, aft_n, aft_t, Nat.add_assoc, Nat.reduceAdd, if_true, if_false, not_true_eq_false, not_false_eq_true, Classical.not_not, Int.reduceAdd, Int.reduceSub, Int.reduceMul, Int.reduceNeg, Int.reduceLT, Int.reduceLE, Int.reduceEq, Int.add_zero, Int.zero_add, Int.sub_zero, w_72_16, w_72_17, w_72_18, w_72_20, h4, hk, l1]
  rw [if_neg hk]
  rcases s_takeEnd (g := g) hT k2.2.2 with ⟨x, L, g2, l1, l2⟩ | ⟨g2, l1⟩
  · refine Or.inl ⟨x, L, by rw [g2]; rfl, ?_, fun p a d => (l2.1 p a).trans (k2.1 p a d), l2.2⟩
    simp (maxSteps := 2000000) (disch := first | assumption | omega) only [aft_v, aft_n, aft_t, Nat.add_assoc, Nat.reduceAdd, if_true, if_false, not_true_eq_false, not_false_eq_true, Classical.not_not, Int.reduceAdd, Int.reduceSub, Int.reduceMul, Int.reduceNeg, Int.reduceLT, Int.reduceLE, Int.reduceEq, Int.add_zero, Int.zero_add, Int.sub_zero, w_72_16, w_72_19, w_72_20, h4, hk, l1]
  · refine Or.inr ⟨F, K, by rw [g2]; rfl, ?_, k2.1, k2.2.1, fun e i a0 a1 i0 i1 => k3.1 e i a0 a1 i0 i1⟩
    simp (maxSteps := 2000000) (disch := first | assumption | omega) only [aft_v, aft_n, aft_t, Nat.add_assoc, Nat.reduceAdd, if_true, if_false, not_true_eq_false, not_false_eq_true, Classical.not_not, Int.reduceAdd, Int.reduceSub, Int.reduceMul, Int.reduceNeg, Int.reduceLT, Int.reduceLE, Int.reduceEq, Int.add_zero, Int.zero_add, Int.sub_zero, w_72_16, w_72_19, w_72_20, h4, hk, l1]
end TO
