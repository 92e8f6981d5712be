/-! The reference reads told fingers. -/
/-- fingers as one number -/
def cdS (k : Int) (f : Int → Int) : Int := (if 1 ≤ k then 25 * (f 0 - 1) else 0) + (if 2 ≤ k then 5 * (f 1 - 1) else 0) + (if 3 ≤ k then f 2 - 1 else 0)
def wkS (k : Int) : Int := if k = 0 then 25 else if k = 1 then 5 else if k = 2 then 1 else 0
theorem cdS_b {k : Int} {f : Int → Int} (hf : ∀ i, 0 ≤ i → i < k → 1 ≤ f i ∧ f i ≤ 5) : 0 ≤ cdS k f ∧ cdS k f < 125 := by
  unfold cdS
  have h0 : 1 ≤ k → 1 ≤ f 0 ∧ f 0 ≤ 5 := fun h => hf 0 (by decide) (by omega)
  have h1 : 2 ≤ k → 1 ≤ f 1 ∧ f 1 ≤ 5 := fun h => hf 1 (by decide) (by omega)
  have h2 : 3 ≤ k → 1 ≤ f 2 ∧ f 2 ≤ 5 := fun h => hf 2 (by decide) (by omega)
  by_cases c1 : 1 ≤ k <;> by_cases c2 : 2 ≤ k <;> by_cases c3 : 3 ≤ k <;> simp only [c1, c2, c3, if_true, if_false] <;> omega
theorem cdS_f {n k : Int} {f : Int → Int} (hf : ∀ i, 0 ≤ i → i < n → 1 ≤ f i ∧ f i ≤ 5) (hn : n ≤ 3) (k0 : 0 ≤ k) (k1 : k < n) : fgS (cdS n f) k = f k := by
  unfold fgS cdS
  have h0 : 1 ≤ n → 1 ≤ f 0 ∧ f 0 ≤ 5 := fun h => hf 0 (by decide) (by omega)
  have h1 : 2 ≤ n → 1 ≤ f 1 ∧ f 1 ≤ 5 := fun h => hf 1 (by decide) (by omega)
  have h2 : 3 ≤ n → 1 ≤ f 2 ∧ f 2 ≤ 5 := fun h => hf 2 (by decide) (by omega)
  rcases (show k = 0 ∨ k = 1 ∨ k = 2 by omega) with rfl | rfl | rfl
  · rw [if_pos rfl]
    by_cases c1 : 1 ≤ n <;> by_cases c2 : 2 ≤ n <;> by_cases c3 : 3 ≤ n <;> simp only [c1, c2, c3, if_true, if_false] <;> omega
  · rw [if_neg (by decide), if_pos rfl]
    by_cases c1 : 1 ≤ n <;> by_cases c2 : 2 ≤ n <;> by_cases c3 : 3 ≤ n <;> simp only [c1, c2, c3, if_true, if_false] <;> omega
  · rw [if_neg (by decide), if_neg (by decide)]
    by_cases c1 : 1 ≤ n <;> by_cases c2 : 2 ≤ n <;> by_cases c3 : 3 ≤ n <;> simp only [c1, c2, c3, if_true, if_false] <;> omega
theorem cdS_s {k v : Int} {f : Int → Int} (k0 : 0 ≤ k) (k3 : k < 3) : cdS (k + 1) (fun i => if i = k then v else f i) = cdS k f + wkS k * (v - 1) := by
  unfold cdS wkS
  rcases (show k = 0 ∨ k = 1 ∨ k = 2 by omega) with rfl | rfl | rfl
  · simp
  · simp
  · simp
theorem wkS_s {k : Int} (k0 : 0 ≤ k) (k3 : k < 3) : Int.tdiv (wkS k) 5 = wkS (k + 1) := by
  rcases (show k = 0 ∨ k = 1 ∨ k = 2 by omega) with rfl | rfl | rfl <;> rfl
/-- the reference while it reads told fingers -/
def tlM (sz : Int → Int) (m : Nat) (e k : Int) (F : Int → Int → Int) (f : Int → Int) (J : Mm) : Prop := (∀ e', 0 ≤ e' → e' < e → J (m + 17) e' = cdS (sz e') (F e')) ∧ J (m + 17) e = cdS k f
def tsM (B : Int → Int) (n : Int) (m : Nat) (b : Int) (I J : Mm) : Prop := (∀ p, ¬ p = m → ¬ p = m + 17 → J p = I p) ∧ (∀ i, ¬ i = 10 → ¬ i = 11 → ¬ i = 12 → ¬ i = 13 → J m i = I m i) ∧ J m 14 = 0 ∧ lxM B n m b J
def teM (m : Nat) (e : Int × Int) (I J : Mm) : Prop := (∀ p, ¬ p = m → ¬ p = m + 17 → J p = I p) ∧ (∀ i, ¬ i = 10 → ¬ i = 11 → ¬ i = 12 → ¬ i = 13 → ¬ i = 14 → ¬ i = 15 → J m i = I m i) ∧ J m 14 = e.1 ∧ J m 15 = e.2 ∧ (-5 ≤ e.1 ∧ e.1 < 0)
theorem tsM.er {B : Int → Int} {n : Int} {m : Nat} {b : Int} {e : Int × Int} {I J K : Mm} (h : tsM B n m b I J) (h' : erM m e J K) : teM m e I K :=
  ⟨fun p a c => (h'.1 p a).trans (h.1 p a c), fun i a b c d f k => (h'.2.1 i a b c d f k).trans (h.2.1 i a b c d), h'.2.2.1, h'.2.2.2.1, h'.2.2.2.2.1⟩
theorem tsM.ok {B : Int → Int} {n : Int} {m : Nat} {b c : Int} {I J K : Mm} (h : tsM B n m b I J) (h' : okM B n m c J K) : tsM B n m c I K :=
  ⟨fun p x y => (h'.1.1 p x).trans (h.1 p x y), fun i x y z w => (h'.1.2 i x y z w).trans (h.2.1 i x y z w), h'.w.trans h.2.2.1, h'.2⟩
theorem teM.w {m : Nat} {e : Int × Int} {I J : Mm} {i v : Int} (h : teM m e I J) : teM m e I (upd2 J (m + 17) i v) := by
  have hm : upd2 J (m + 17) i v m = J m := by funext j; exact upd2_p (by omega)
  refine ⟨fun p x y => by rw [← h.1 p x y]; funext j; exact upd2_p y, ?_⟩
  rw [hm]; exact h.2
theorem tsM.w {B : Int → Int} {n : Int} {m : Nat} {b i v : Int} {I J : Mm} (h : tsM B n m b I J) : tsM B n m b I (upd2 J (m + 17) i v) := by
  have hm : upd2 J (m + 17) i v m = J m := by funext j; exact upd2_p (by omega)
  have h7 : upd2 J (m + 17) i v (m + 7) = J (m + 7) := by funext j; exact upd2_p (by omega)
  refine ⟨fun p x y => by rw [← h.1 p x y]; funext j; exact upd2_p y, ?_⟩
  unfold lxM
  rw [hm, h7]; exact h.2
section MO
variable {g : Gm} {I J : Mm} {m : Nat} {B : Int → Int} {n b : Int} {sz : Int → Int} {E : Int}
theorem l_mtn {e N : Int} {F : Int → Int → Int} (hm : isM g m) (hO : txB B n) (hN : 1 ≤ N ∧ N ≤ 3) (hs : I (m + 1) (42 + 8 * e) = N) (he : 0 ≤ e ∧ e < 40) : ∀ (r : Nat) (k : Int) (f : Int → Int) (b : Int) (J : Mm), 0 ≤ k → k + r = N → tsM B n m b I J → tlM sz m e k F f J →
    (∃ (x : Int × Int) (K : Mm) (w : Int × Int), gTn B n r k f b = .inl x ∧ rn 237 5 [some (.ref m), some (.int (iI e)), some (.int (iI (wkS k))), some (.int (iI k))] [] (mk g J) = rn 237 2 [some (.ref m), some (.int (iI (e + 1))), some (.int (iI w.1)), some (.int (iI (Prod.snd w)))] [] (mk g K) ∧ teM m x I K) ∨
    ∃ f' c K, gTn B n r k f b = .inr (f', c) ∧ rn 237 5 [some (.ref m), some (.int (iI e)), some (.int (iI (wkS k))), some (.int (iI k))] [] (mk g J) = rn 237 2 [some (.ref m), some (.int (iI (e + 1))), some (.int (iI (wkS N))), some (.int (iI N))] [] (mk g K) ∧ tsM B n m c I K ∧ tlM sz m e N F f' K := by
  have hm' := hm
  obtain ⟨t_0, ⟨t_1, d_1, n_1⟩, ⟨t_2, d_2, n_2⟩, ⟨t_3, d_3, n_3⟩, ⟨t_4, d_4, n_4⟩, ⟨t_5, d_5, n_5⟩, ⟨t_6, n_6⟩, ⟨t_7, d_7, n_7⟩, ⟨t_8, d_8, n_8⟩, ⟨t_9, d_9, n_9⟩, ⟨t_10, d_10, n_10⟩, ⟨t_11, d_11, n_11⟩, ⟨t_12, d_12, n_12⟩, ⟨t_13, d_13, n_13⟩, ⟨t_14, d_14, n_14⟩, ⟨t_15, n_15⟩, ⟨t_16, n_16⟩, ⟨t_17, d_17, n_17⟩, ⟨t_18, d_18, n_18⟩⟩ := hm
  intro r
  induction r with
  | zero =>
    intro k f b J k0 kr h hL
    have hk : k = N := by omega
    have qn := s_notesOf (g := g) (I := J) (m := m) (e := e) hm' he
    rw [show J (m + 1) (42 + 8 * e) = N by rw [h.1 (m + 1) (by omega) (by omega)]; exact hs] at qn
    refine Or.inr (⟨f, b, J, rfl, ?_, h, by rw [hk] at hL; exact hL⟩)
    rw [hk]
    refine (w_237_5 (by first | assumption | omega)).trans ?_
    rw [qn, aft_v]
    refine (w_237_6 (by first | assumption | omega) (by first | assumption | omega) (by first | assumption | omega) (by first | assumption | omega)).trans ?_
    refine (if_pos (by omega)).trans ?_
    simp (maxSteps := 2000000) (disch := first | assumption | omega) only [aft_v, aft_n, aft_t, Nat.add_assoc, Nat.reduceAdd, if_true, if_false, not_true_eq_false, not_false_eq_true, Classical.not_not, Int.reduceAdd, Int.reduceSub, Int.reduceMul, Int.reduceNeg, Int.reduceLT, Int.reduceLE, Int.reduceEq, Int.add_zero, Int.zero_add, Int.sub_zero, w_237_12]
  | succ r ih =>
    intro k f b J k0 kr h hL
    have qn := fun (K : Mm) (hK : ∀ p, ¬ p = m → ¬ p = m + 17 → K p = I p) => show cl 183 [.ref m, .int (iI e)] (mk g K) = some (.inl (some (.int (iI N))), mk g K) by
      have q := s_notesOf (g := g) (I := K) (m := m) (e := e) hm' he
      rw [show K (m + 1) (42 + 8 * e) = N by rw [hK (m + 1) (by omega) (by omega)]; exact hs] at q
      exact q
    have hw := h.2.2.1
    have h12 := h.2.2.2.2.2.1
    have hkb := mkd_b (k := tkK B n b)
    have start : rn 237 5 [some (.ref m), some (.int (iI e)), some (.int (iI (wkS k))), some (.int (iI k))] [] (mk g J) = rn 237 8 [some (.ref m), some (.int (iI e)), some (.int (iI (wkS k))), some (.int (iI k))] [] (mk g J) := by
      refine (w_237_5 (by first | assumption | omega)).trans ?_
      rw [qn J h.1, aft_v]
      refine (w_237_6 (by first | assumption | omega) (by first | assumption | omega) (by first | assumption | omega) (by first | assumption | omega)).trans ?_
      refine (if_neg (by omega)).trans ?_
      simp (maxSteps := 2000000) (disch := first | assumption | omega) only [aft_v, aft_n, aft_t, Nat.add_assoc, Nat.reduceAdd, if_true, if_false, not_true_eq_false, not_false_eq_true, Classical.not_not, Int.reduceAdd, Int.reduceSub, Int.reduceMul, Int.reduceNeg, Int.reduceLT, Int.reduceLE, Int.reduceEq, Int.add_zero, Int.zero_add, Int.sub_zero, w_237_7, hw]
    have wb : 0 ≤ wkS k ∧ wkS k ≤ 25 := by
      unfold wkS
      (repeat' split) <;> omega
    have eW := wkS_s (k := k) k0 (by omega)
    -- what follows an error
    have bad : ∀ (x : Int × Int) (K : Mm) (v : Int), teM m x I K → rn 237 5 [some (.ref m), some (.int (iI e)), some (.int (iI v)), some (.int (iI (k + 1)))] [] (mk g K) = rn 237 2 [some (.ref m), some (.int (iI (e + 1))), some (.int (iI v)), some (.int (iI (k + 1)))] [] (mk g K) := fun x K v hK => by
      have hwK := hK.2.2.1
      have hn' : ¬ x.1 = 0 ∧ -5 ≤ x.1 ∧ x.1 ≤ 0 := by have := hK.2.2.2.2; omega
      refine (w_237_5 (by first | assumption | omega)).trans ?_
      rw [qn K hK.1, aft_v]
      refine (w_237_6 (by first | assumption | omega) (by first | assumption | omega) (by first | assumption | omega) (by first | assumption | omega)).trans ?_
      by_cases hkN : N ≤ k + 1
      · rw [if_pos hkN]
        exact w_237_12
      · rw [if_neg hkN]
        simp (maxSteps := 2000000) (disch := first | assumption | omega) only [aft_v, aft_n, aft_t, Nat.add_assoc, Nat.reduceAdd, if_true, if_false, not_true_eq_false, not_false_eq_true, Classical.not_not, Int.reduceAdd, Int.reduceSub, Int.reduceMul, Int.reduceNeg, Int.reduceLT, Int.reduceLE, Int.reduceEq, Int.add_zero, Int.zero_add, Int.sub_zero, w_237_7, w_237_12, hwK, hn'.1]
    rw [start]
    by_cases hk0 : tkK B n b = 0
    · have k3 := mkd_3.mpr hk0
      obtain ⟨K, j1, j2⟩ := s_fails (B := B) (n := n) (b := b) (c := -4) hm' hO (by decide) hw h.2.2.2
      have hK := h.er j2
      have q0 := s_takesW (g := g) (lo := 1) (hi := 5) (fi := 1) hm' hK.2.2.1 (by show ¬ (-4 : Int) = 0 ∧ -5 ≤ (-4 : Int) ∧ (-4 : Int) ≤ 0; decide)
      refine Or.inl (⟨_, upd2 K (m + 17) e (K (m + 17) e + wkS k * (0 - 1)), (wkS (k + 1), k + 1), by simp only [gTn]; rw [if_pos hk0], ?_, hK.w⟩)
      rw [← bad _ _ _ hK.w]
      simp (maxSteps := 2000000) (disch := first | assumption | omega) only [aft_v, aft_n, aft_t, Nat.add_assoc, Nat.reduceAdd, if_true, if_false, not_true_eq_false, not_false_eq_true, Classical.not_not, Int.reduceAdd, Int.reduceSub, Int.reduceMul, Int.reduceNeg, Int.reduceLT, Int.reduceLE, Int.reduceEq, Int.add_zero, Int.zero_add, Int.sub_zero, w_237_8, w_237_9, w_237_10, w_237_11, h12, k3, j1, q0, eW]
    have k3 : ¬ mkd (tkK B n b) = 3 := fun z => hk0 (mkd_3.mp z)
    rcases s_takes (lo := 1) (hi := 5) (fi := 1) hm' hO h.2.2.2 hw (by decide) (by decide) (by decide) with ⟨x, K, g1, j1, j2⟩ | ⟨v, b1, K, g1, j1, j2⟩
    · have hK := h.er j2
      refine Or.inl (⟨_, upd2 K (m + 17) e (J (m + 17) e + wkS k * (0 - 1)), (wkS (k + 1), k + 1), by simp only [gTn]; rw [if_neg hk0, g1]; rfl, ?_, hK.w⟩)
      rw [← bad _ _ _ hK.w]
      simp (maxSteps := 2000000) (disch := first | assumption | omega) only [aft_v, aft_n, aft_t, Nat.add_assoc, Nat.reduceAdd, if_true, if_false, not_true_eq_false, not_false_eq_true, Classical.not_not, Int.reduceAdd, Int.reduceSub, Int.reduceMul, Int.reduceNeg, Int.reduceLT, Int.reduceLE, Int.reduceEq, Int.add_zero, Int.zero_add, Int.sub_zero, w_237_8, w_237_10, w_237_11, h12, k3, j1, eW]
    have hK := h.ok j2
    have eg : gTn B n (r + 1) k f b = gTn B n r (k + 1) (fun i => if i = k then v else f i) b1 := by simp only [gTn]; rw [if_neg hk0, g1]; rfl
    have go : rn 237 8 [some (.ref m), some (.int (iI e)), some (.int (iI (wkS k))), some (.int (iI k))] [] (mk g J) = rn 237 5 [some (.ref m), some (.int (iI e)), some (.int (iI (wkS (k + 1)))), some (.int (iI (k + 1)))] [] (mk g (upd2 K (m + 17) e (J (m + 17) e + wkS k * (v - 1)))) := by
      simp (maxSteps := 2000000) (disch := first | assumption | omega) only [aft_v, aft_n, aft_t, Nat.add_assoc, Nat.reduceAdd, if_true, if_false, not_true_eq_false, not_false_eq_true, Classical.not_not, Int.reduceAdd, Int.reduceSub, Int.reduceMul, Int.reduceNeg, Int.reduceLT, Int.reduceLE, Int.reduceEq, Int.add_zero, Int.zero_add, Int.sub_zero, w_237_8, w_237_10, w_237_11, h12, k3, j1, eW]
    rw [go, eg]
    refine ih (k + 1) _ b1 _ (by omega) (by omega) hK.w ⟨fun e' e0 e1 => ?_, ?_⟩
    · rw [upd2_i (by omega), j2.1.1 (m + 17) (by omega)]
      exact hL.1 e' e0 e1
    · rw [upd2_at, hL.2, cdS_s k0 (by omega)]
theorem l_mteW {x : Int × Int} (hm : isM g m) (hE : I (m + 1) 0 = E) (hE2 : 0 ≤ E ∧ E ≤ 40) (hz : ∀ i, 0 ≤ i → i < E → I (m + 1) (42 + 8 * i) = sz i ∧ 1 ≤ sz i ∧ sz i ≤ 3) : ∀ (r : Nat) (e : Int) (J : Mm) (o2 o3 : Option Value), 0 ≤ e → e + r = E → teM m x I J →
    ∃ K p2 p3, rn 237 2 [some (.ref m), some (.int (iI e)), o2, o3] [] (mk g J) = rn 237 13 [some (.ref m), some (.int (iI E)), p2, p3] [] (mk g K) ∧ teM m x I K := by
  have hm' := hm
  obtain ⟨t_0, ⟨t_1, d_1, n_1⟩, ⟨t_2, d_2, n_2⟩, ⟨t_3, d_3, n_3⟩, ⟨t_4, d_4, n_4⟩, ⟨t_5, d_5, n_5⟩, ⟨t_6, n_6⟩, ⟨t_7, d_7, n_7⟩, ⟨t_8, d_8, n_8⟩, ⟨t_9, d_9, n_9⟩, ⟨t_10, d_10, n_10⟩, ⟨t_11, d_11, n_11⟩, ⟨t_12, d_12, n_12⟩, ⟨t_13, d_13, n_13⟩, ⟨t_14, d_14, n_14⟩, ⟨t_15, n_15⟩, ⟨t_16, n_16⟩, ⟨t_17, d_17, n_17⟩, ⟨t_18, d_18, n_18⟩⟩ := hm
  intro r
  induction r with
  | zero =>
    intro e J o2 o3 e0 er h
    have he : e = E := by omega
    have qe := s_events (g := g) (I := J) hm'
    rw [show J (m + 1) 0 = E by rw [h.1 (m + 1) (by omega) (by omega)]; exact hE] at qe
    refine ⟨J, o2, o3, ?_, h⟩
    rw [he]
    refine (w_237_2 (by first | assumption | omega)).trans ?_
    rw [qe, aft_v]
    refine (w_237_3 (by first | assumption | omega) (by first | assumption | omega) (by first | assumption | omega) (by first | assumption | omega)).trans ?_
    refine (if_pos (by omega)).trans ?_
    rfl
  | succ r ih =>
    intro e J o2 o3 e0 er h
    have qe := s_events (g := g) (I := J) hm'
    rw [show J (m + 1) 0 = E by rw [h.1 (m + 1) (by omega) (by omega)]; exact hE] at qe
    obtain ⟨z1, z2⟩ := hz e e0 (by omega)
    have hw : upd2 J (m + 17) e 0 m 14 = x.1 := by rw [upd2_p (by omega)]; exact h.2.2.1
    have hn' : ¬ x.1 = 0 ∧ -5 ≤ x.1 ∧ x.1 ≤ 0 := by have := h.2.2.2.2; omega
    have h' : teM m x I (upd2 J (m + 17) e 0) := h.w
    have qn := s_notesOf (g := g) (I := upd2 J (m + 17) e 0) (m := m) (e := e) hm' (by omega)
    rw [show upd2 J (m + 17) e 0 (m + 1) (42 + 8 * e) = sz e by rw [h'.1 (m + 1) (by omega) (by omega)]; exact z1] at qn
    obtain ⟨K, p2, p3, e1, e2⟩ := ih (e + 1) (upd2 J (m + 17) e 0) (some (.int (iI 25))) (some (.int (iI 0))) (by omega) (by omega) h'
    refine ⟨K, p2, p3, ?_, e2⟩
    rw [← e1]
    refine (w_237_2 (by first | assumption | omega)).trans ?_
    rw [qe, aft_v]
    refine (w_237_3 (by first | assumption | omega) (by first | assumption | omega) (by first | assumption | omega) (by first | assumption | omega)).trans ?_
    refine (if_neg (by omega)).trans ?_
    simp (maxSteps := 2000000) (disch := first | assumption | omega) only [aft_v, aft_n, aft_t, Nat.add_assoc, Nat.reduceAdd, if_true, if_false, not_true_eq_false, not_false_eq_true, Classical.not_not, Int.reduceAdd, Int.reduceSub, Int.reduceMul, Int.reduceNeg, Int.reduceLT, Int.reduceLE, Int.reduceEq, Int.add_zero, Int.zero_add, Int.sub_zero, w_237_4]
    refine (w_237_5 (by first | assumption | omega)).trans ?_
    rw [qn, aft_v]
    refine (w_237_6 (by first | assumption | omega) (by first | assumption | omega) (by first | assumption | omega) (by first | assumption | omega)).trans ?_
    refine (if_neg (by omega)).trans ?_
    simp (maxSteps := 2000000) (disch := first | assumption | omega) only [aft_v, aft_n, aft_t, Nat.add_assoc, Nat.reduceAdd, if_true, if_false, not_true_eq_false, not_false_eq_true, Classical.not_not, Int.reduceAdd, Int.reduceSub, Int.reduceMul, Int.reduceNeg, Int.reduceLT, Int.reduceLE, Int.reduceEq, Int.add_zero, Int.zero_add, Int.sub_zero, w_237_7, w_237_12, hw, hn'.1]
theorem l_mte (hm : isM g m) (hO : txB B n) (hE : I (m + 1) 0 = E) (hE2 : 0 ≤ E ∧ E ≤ 40) (hz : ∀ i, 0 ≤ i → i < E → I (m + 1) (42 + 8 * i) = sz i ∧ 1 ≤ sz i ∧ sz i ≤ 3) : ∀ (r : Nat) (e : Int) (F : Int → Int → Int) (b : Int) (J : Mm) (o2 o3 : Option Value), 0 ≤ e → e + r = E → tsM B n m b I J → (∀ e', 0 ≤ e' → e' < e → J (m + 17) e' = cdS (sz e') (F e')) →
    (∃ x K p2 p3, gTe B n sz r e F b = .inl x ∧ rn 237 2 [some (.ref m), some (.int (iI e)), o2, o3] [] (mk g J) = rn 237 13 [some (.ref m), some (.int (iI E)), p2, p3] [] (mk g K) ∧ teM m x I K) ∨
    ∃ F' c K p2 p3, gTe B n sz r e F b = .inr (F', c) ∧ rn 237 2 [some (.ref m), some (.int (iI e)), o2, o3] [] (mk g J) = rn 237 13 [some (.ref m), some (.int (iI E)), p2, p3] [] (mk g K) ∧ tsM B n m c I K ∧ ∀ e', 0 ≤ e' → e' < E → K (m + 17) e' = cdS (sz e') (F' e') := by
  have hm' := hm
  obtain ⟨t_0, ⟨t_1, d_1, n_1⟩, ⟨t_2, d_2, n_2⟩, ⟨t_3, d_3, n_3⟩, ⟨t_4, d_4, n_4⟩, ⟨t_5, d_5, n_5⟩, ⟨t_6, n_6⟩, ⟨t_7, d_7, n_7⟩, ⟨t_8, d_8, n_8⟩, ⟨t_9, d_9, n_9⟩, ⟨t_10, d_10, n_10⟩, ⟨t_11, d_11, n_11⟩, ⟨t_12, d_12, n_12⟩, ⟨t_13, d_13, n_13⟩, ⟨t_14, d_14, n_14⟩, ⟨t_15, n_15⟩, ⟨t_16, n_16⟩, ⟨t_17, d_17, n_17⟩, ⟨t_18, d_18, n_18⟩⟩ := hm
  intro r
  induction r with
  | zero =>
    intro e F b J o2 o3 e0 er h hL
    have he : e = E := by omega
    have qe := s_events (g := g) (I := J) hm'
    rw [show J (m + 1) 0 = E by rw [h.1 (m + 1) (by omega) (by omega)]; exact hE] at qe
    refine Or.inr ⟨F, b, J, o2, o3, rfl, ?_, h, by rw [he] at hL; exact hL⟩
    rw [he]
    refine (w_237_2 (by first | assumption | omega)).trans ?_
    rw [qe, aft_v]
    refine (w_237_3 (by first | assumption | omega) (by first | assumption | omega) (by first | assumption | omega) (by first | assumption | omega)).trans ?_
    refine (if_pos (by omega)).trans ?_
    rfl
  | succ r ih =>
    intro e F b J o2 o3 e0 er h hL
    have qe := s_events (g := g) (I := J) hm'
    rw [show J (m + 1) 0 = E by rw [h.1 (m + 1) (by omega) (by omega)]; exact hE] at qe
    obtain ⟨z1, z2⟩ := hz e e0 (by omega)
    have start : rn 237 2 [some (.ref m), some (.int (iI e)), o2, o3] [] (mk g J) = rn 237 5 [some (.ref m), some (.int (iI e)), some (.int (iI (wkS 0))), some (.int (iI 0))] [] (mk g (upd2 J (m + 17) e 0)) := by
      refine (w_237_2 (by first | assumption | omega)).trans ?_
      rw [qe, aft_v]
      refine (w_237_3 (by first | assumption | omega) (by first | assumption | omega) (by first | assumption | omega) (by first | assumption | omega)).trans ?_
      refine (if_neg (by omega)).trans ?_
      simp (maxSteps := 2000000) (disch := first | assumption | omega) only [aft_v, aft_n, aft_t, Nat.add_assoc, Nat.reduceAdd, if_true, if_false, not_true_eq_false, not_false_eq_true, Classical.not_not, Int.reduceAdd, Int.reduceSub, Int.reduceMul, Int.reduceNeg, Int.reduceLT, Int.reduceLE, Int.reduceEq, Int.add_zero, Int.zero_add, Int.sub_zero, w_237_4]
      rfl
    rw [start]
    rcases l_mtn (sz := sz) (e := e) (N := sz e) (F := F) hm' hO z2 z1 (by omega) (sz e).toNat 0 (fun _ => 0) b (upd2 J (m + 17) e 0) (by decide) (by omega) h.w ⟨fun e' a0 a1 => by rw [upd2_i (by omega)]; exact hL e' a0 a1, by rw [upd2_at]; rfl⟩ with ⟨x, K, w, g1, j1, j2⟩ | ⟨f', c, K, g1, j1, j2, j3, j4⟩
    · obtain ⟨L, p2, p3, e1, e2⟩ := l_mteW (sz := sz) (x := x) hm' hE hE2 hz r (e + 1) K (some (.int (iI w.1))) (some (.int (iI (Prod.snd w)))) (by omega) (by omega) j2
      exact Or.inl ⟨x, L, p2, p3, by simp only [gTe]; rw [g1]; rfl, by rw [j1, e1], e2⟩
    have eg : gTe B n sz (r + 1) e F b = gTe B n sz r (e + 1) (fun i => if i = e then f' else F i) c := by simp only [gTe]; rw [g1]; rfl
    rw [j1, eg]
    refine ih (e + 1) _ c K _ _ (by omega) (by omega) j2 (fun e' a0 a1 => ?_)
    by_cases he : e' = e
    · rw [if_pos he, he]; exact j4
    · rw [if_neg he]; exact j3 e' a0 (by omega)
theorem s_readsFingers {P : PT} (hm : isM g m) (hO : txB B n) (h7 : I (m + 7) = B) (h9 : I m 9 = n) (hP : P = mv I m) (hW : Wf P) :
    (∃ x K, gTl B n P = .inl x ∧ cl 237 [.ref m] (mk g I) = some (.inl none, mk g K) ∧ (∀ p, ¬ p = m → ¬ p = m + 17 → K p = I p) ∧ (-5 ≤ x.1 ∧ x.1 < 0) ∧ K m 14 = x.1 ∧ K m 16 = x.2 ∧ K m 9 = 0 ∧ K m 7 = 0 ∧ (∀ i, ¬ i = 7 → ¬ i = 9 → ¬ i = 10 → ¬ i = 11 → ¬ i = 12 → ¬ i = 13 → ¬ i = 14 → ¬ i = 15 → ¬ i = 16 → K m i = I m i)) ∨
    ∃ F K, gTl B n P = .inr F ∧ cl 237 [.ref m] (mk g I) = some (.inl none, mk g K) ∧ (∀ p, ¬ p = m → ¬ p = m + 17 → K p = I p) ∧ K m 14 = 0 ∧ K m 16 = -1 ∧ K m 9 = 0 ∧ K m 7 = 0 ∧ (∀ i, ¬ i = 7 → ¬ i = 9 → ¬ i = 10 → ¬ i = 11 → ¬ i = 12 → ¬ i = 13 → ¬ i = 14 → ¬ i = 15 → ¬ i = 16 → K m i = I m i) ∧ ∀ e, 0 ≤ e → e < pE P → K (m + 17) e = cdS (pSz P e) (F e) := by
  have hm' := hm
  obtain ⟨t_0, ⟨t_1, d_1, n_1⟩, ⟨t_2, d_2, n_2⟩, ⟨t_3, d_3, n_3⟩, ⟨t_4, d_4, n_4⟩, ⟨t_5, d_5, n_5⟩, ⟨t_6, n_6⟩, ⟨t_7, d_7, n_7⟩, ⟨t_8, d_8, n_8⟩, ⟨t_9, d_9, n_9⟩, ⟨t_10, d_10, n_10⟩, ⟨t_11, d_11, n_11⟩, ⟨t_12, d_12, n_12⟩, ⟨t_13, d_13, n_13⟩, ⟨t_14, d_14, n_14⟩, ⟨t_15, n_15⟩, ⟨t_16, n_16⟩, ⟨t_17, d_17, n_17⟩, ⟨t_18, d_18, n_18⟩⟩ := hm
  obtain ⟨J, j1, d1, d2, d3, d4, d5⟩ := s_starts (g := g) (I := I) hm' hO h7 h9
  have hE : J (m + 1) 0 = pE P := by rw [d1 _ (by omega), hP]; rfl
  have hz : ∀ i, 0 ≤ i → i < pE P → J (m + 1) (42 + 8 * i) = pSz P i ∧ 1 ≤ pSz P i ∧ pSz P i ≤ 3 := fun i i0 i1 => ⟨by rw [d1 _ (by omega), hP]; rfl, (hW.2.2.1 i i0 i1).1⟩
  have fin : ∀ (x : Int × Int) (K : Mm) (p2 p3 : Option Value), teM m x J K → ∃ L, rn 237 13 [some (.ref m), some (.int (iI (pE P))), p2, p3] [] (mk g K) = some (.inl none, mk g L) ∧ (∀ p, ¬ p = m → ¬ p = m + 17 → L p = I p) ∧ (-5 ≤ x.1 ∧ x.1 < 0) ∧ L m 14 = x.1 ∧ L m 16 = x.2 ∧ L m 9 = 0 ∧ L m 7 = 0 ∧ (∀ i, ¬ i = 7 → ¬ i = 9 → ¬ i = 10 → ¬ i = 11 → ¬ i = 12 → ¬ i = 13 → ¬ i = 14 → ¬ i = 15 → ¬ i = 16 → L m i = I m i) := fun x K p2 p3 hK => by
    have hw := hK.2.2.1
    have hn' : ¬ x.1 = 0 ∧ -5 ≤ x.1 ∧ x.1 ≤ 0 := by have := hK.2.2.2.2; omega
    have en := s_endsW (g := g) (I := K) hm' hw hn'
    rw [hK.2.2.2.1] at en
    refine ⟨upd2 (upd2 K m 16 x.2) m 9 0, by simp (maxSteps := 2000000) (disch := first | assumption | omega) only [aft_v, aft_n, aft_t, Nat.add_assoc, Nat.reduceAdd, if_true, if_false, not_true_eq_false, not_false_eq_true, Classical.not_not, Int.reduceAdd, Int.reduceSub, Int.reduceMul, Int.reduceNeg, Int.reduceLT, Int.reduceLE, Int.reduceEq, Int.add_zero, Int.zero_add, Int.sub_zero, w_237_13, w_237_19, w_237_20, hw, hn'.1, en], fun p a c => by rw [← d1 p a, ← hK.1 p a c]; funext i; rw [upd2_p a, upd2_p a], hK.2.2.2.2, by rw [upd2_i (by decide), upd2_i (by decide)]; exact hw, by rw [upd2_i (by decide), upd2_at], upd2_at, by rw [upd2_i (by decide), upd2_i (by decide), hK.2.1 7 (by decide) (by decide) (by decide) (by decide) (by decide) (by decide)]; exact d3, fun i a1 a2 a3 a4 a5 a6 a7 a8 a9 => by rw [upd2_i a2, upd2_i a9, hK.2.1 i a3 a4 a5 a6 a7 a8]; exact d2 i a1 a3 a4 a5 a6 a7⟩
  have start : cl 237 [.ref m] (mk g I) = rn 237 2 [some (.ref m), some (.int (iI 0)), none, none] [] (mk g J) := by
    simp (maxSteps := 2000000) (disch := first | assumption | omega) only [aft_v, aft_n, aft_t, Nat.add_assoc, Nat.reduceAdd, if_true, if_false, not_true_eq_false, not_false_eq_true, Classical.not_not, Int.reduceAdd, Int.reduceSub, Int.reduceMul, Int.reduceNeg, Int.reduceLT, Int.reduceLE, Int.reduceEq, Int.add_zero, Int.zero_add, Int.sub_zero, c_237, w_237_0, w_237_1, j1]
  rw [start]
  rcases l_mte (sz := pSz P) (I := J) hm' hO hE hW.2.1 hz (pE P).toNat 0 (fun _ _ => 0) 0 J none none (by decide) (by have := hW.2.1; omega) ⟨fun _ _ _ => rfl, fun _ _ _ _ _ => rfl, d4, d5⟩ (fun e' a0 a1 => by omega) with ⟨x, K, p2, p3, g1, k1, k2⟩ | ⟨F, c, K, p2, p3, g1, k1, k2, k3⟩
  · obtain ⟨L, l1, l2⟩ := fin x K p2 p3 k2
    exact Or.inl ⟨x, L, by unfold gTl; rw [g1]; rfl, by rw [k1, l1], l2⟩
  have eg : gTl B n P = if tkK B n c = 2 then .inl (-5, tkS B n c) else bnd (gEn B n c) fun _ => .inr F := by unfold gTl; rw [g1]; rfl
  have hw := k2.2.2.1
  have h12 := k2.2.2.2.2.2.1
  have hkb := mkd_b (k := tkK B n c)
  rw [k1, eg]
  by_cases hk : tkK B n c = 2
  · have k1' := mkd_1.mpr hk
    obtain ⟨L, l1, l2⟩ := s_fails (B := B) (n := n) (b := c) (c := -5) hm' hO (by decide) hw k2.2.2.2
    obtain ⟨M, m1, m2⟩ := fin _ L p2 p3 (k2.er l2)
    have hwL := l2.2.2.1
    refine Or.inl ⟨_, M, by rw [if_pos hk], ?_, m2⟩
    rw [← m1]
    have hn' : ¬ (-5 : Int) = 0 := by decide
    simp (maxSteps := 2000000) (disch := first | assumption | omega) only [aft_v, aft_n, aft_t, Nat.add_assoc, Nat.reduceAdd, if_true, if_false, not_true_eq_false, not_false_eq_true, Classical.not_not, Int.reduceAdd, Int.reduceSub, Int.reduceMul, Int.reduceNeg, Int.reduceLT, Int.reduceLE, Int.reduceEq, Int.add_zero, Int.zero_add, Int.sub_zero, w_237_13, w_237_14, w_237_15, w_237_16, w_237_18, hw, h12, k1', l1, hwL, hn', show ¬ (1 : Int) = 3 by decide]
  rw [if_neg hk]
  have kn1 : ¬ mkd (tkK B n c) = 1 := fun z => hk (mkd_1.mp z)
  by_cases hk0 : tkK B n c = 0
  · have k3' := mkd_3.mpr hk0
    have en := s_ends0 (g := g) (I := K) hm' hw
    refine Or.inr ⟨F, upd2 (upd2 K m 16 (-1)) m 9 0, by unfold gEn; rw [if_pos hk0]; rfl, by simp (maxSteps := 2000000) (disch := first | assumption | omega) only [aft_v, aft_n, aft_t, Nat.add_assoc, Nat.reduceAdd, if_true, if_false, not_true_eq_false, not_false_eq_true, Classical.not_not, Int.reduceAdd, Int.reduceSub, Int.reduceMul, Int.reduceNeg, Int.reduceLT, Int.reduceLE, Int.reduceEq, Int.add_zero, Int.zero_add, Int.sub_zero, w_237_13, w_237_14, w_237_19, w_237_20, hw, h12, k3', en], fun p a d => by rw [← d1 p a, ← k2.1 p a d]; funext i; rw [upd2_p a, upd2_p a], by rw [upd2_i (by decide), upd2_i (by decide)]; exact hw, by rw [upd2_i (by decide), upd2_at], upd2_at, by rw [upd2_i (by decide), upd2_i (by decide), k2.2.1 7 (by decide) (by decide) (by decide) (by decide)]; exact d3, fun i a1 a2 a3 a4 a5 a6 a7 a8 a9 => by rw [upd2_i a2, upd2_i a9, k2.2.1 i a3 a4 a5 a6]; exact d2 i a1 a3 a4 a5 a6 a7, fun e e0 e1 => by rw [upd2_p (by omega), upd2_p (by omega)]; exact k3 e e0 e1⟩
  · have k3' : ¬ mkd (tkK B n c) = 3 := fun z => hk0 (mkd_3.mp z)
    obtain ⟨L, l1, l2⟩ := s_fails (B := B) (n := n) (b := c) (c := -2) hm' hO (by decide) hw k2.2.2.2
    obtain ⟨M, m1, m2⟩ := fin _ L p2 p3 (k2.er l2)
    have hwL := l2.2.2.1
    refine Or.inl ⟨_, M, by unfold gEn; rw [if_neg hk0]; rfl, ?_, m2⟩
    rw [← m1]
    have hn' : ¬ (-2 : Int) = 0 := by decide
    simp (maxSteps := 2000000) (disch := first | assumption | omega) only [aft_v, aft_n, aft_t, Nat.add_assoc, Nat.reduceAdd, if_true, if_false, not_true_eq_false, not_false_eq_true, Classical.not_not, Int.reduceAdd, Int.reduceSub, Int.reduceMul, Int.reduceNeg, Int.reduceLT, Int.reduceLE, Int.reduceEq, Int.add_zero, Int.zero_add, Int.sub_zero, w_237_13, w_237_14, w_237_15, w_237_17, w_237_18, hw, h12, kn1, k3', l1, hwL, hn']
end MO
