/-! Fixing the first cheapest fingering, of both. -/
/-- how many notes had more than one finger -/
def fxS (P : PT) : Int := sumI (fun e => sumI (fun k => if andI (pSe P e k) (pSe P e k - 1) = 0 then 0 else 1) (pSz P e)) (pE P)
noncomputable def fxI (J : Mm) (p0 : Nat) (P : PT) (t : Int) : Mm := fun p i => if (p = p0 ∧ 0 ≤ i ∧ i < t) ∧ i % 3 < pSz P (i / 3) then bitF (fgP P (i / 3) (fsS P (i / 3)) (i % 3)) else J p i
theorem fxI_0 {J : Mm} {p0 : Nat} {P : PT} : fxI J p0 P 0 = J := by funext p i; exact if_neg (by omega)
theorem fxI_p {J : Mm} {p0 p : Nat} {P : PT} {t : Int} (h : ¬ p = p0) : fxI J p0 P t p = J p := by funext i; exact if_neg (fun z => h z.1.1)
theorem fxI_at {J : Mm} {p0 : Nat} {P : PT} {t i : Int} (h : t ≤ i) : fxI J p0 P t p0 i = J p0 i := if_neg (fun z => by omega)
theorem fxI_s {J : Mm} {p0 : Nat} {P : PT} {e k : Int} (he : 0 ≤ e) (hk : 0 ≤ k) (hk3 : k < 3) (hs : k < pSz P e) : upd2 (fxI J p0 P (e * 3 + k)) p0 (e * 3 + k) (bitF (fgP P e (fsS P e) k)) = fxI J p0 P (e * 3 + (k + 1)) := by
  funext p i
  by_cases hp : p = p0
  · subst hp
    by_cases hi : i = e * 3 + k
    · subst hi
      rw [upd2_at]
      have h1 : (e * 3 + k) % 3 = k := by omega
      have h2 : (e * 3 + k) / 3 = e := by omega
      unfold fxI
      rw [h1, h2, if_pos ⟨⟨rfl, by omega, by omega⟩, hs⟩]
    · rw [upd2_i hi]
      unfold fxI
      by_cases hc : (p = p ∧ 0 ≤ i ∧ i < e * 3 + k) ∧ i % 3 < pSz P (i / 3)
      · rw [if_pos hc, if_pos ⟨⟨rfl, hc.1.2.1, by omega⟩, hc.2⟩]
      · rw [if_neg hc, if_neg (fun z => hc ⟨⟨rfl, z.1.2.1, by omega⟩, z.2⟩)]
  · rw [upd2_p hp, fxI_p hp, fxI_p hp]
theorem fxI_e {J : Mm} {p0 : Nat} {P : PT} {e : Int} (he : 0 ≤ e) (h0 : 0 ≤ pSz P e) (h3 : pSz P e ≤ 3) : fxI J p0 P (e * 3 + pSz P e) = fxI J p0 P ((e + 1) * 3 + 0) := by
  funext p i
  unfold fxI
  by_cases hc : (p = p0 ∧ 0 ≤ i ∧ i < e * 3 + pSz P e) ∧ i % 3 < pSz P (i / 3)
  · rw [if_pos hc, if_pos ⟨⟨hc.1.1, hc.1.2.1, by omega⟩, hc.2⟩]
  · rw [if_neg hc, if_neg (fun z => hc ⟨⟨z.1.1, z.1.2.1, ?_⟩, z.2⟩)]
    obtain ⟨⟨z1, z2, z3⟩, z4⟩ := z
    by_cases h : i / 3 = e
    · rw [h] at z4; omega
    · omega
noncomputable def fxK (J : Mm) (m : Nat) (P : PT) (t : Int) : Mm := fun p i => if (p = m + 1 ∧ 42 ≤ i ∧ i < 42 + t) ∧ 5 ≤ (i - 42) % 8 ∧ (i - 42) % 8 - 5 < pSz P ((i - 42) / 8) then bitF (fgP P ((i - 42) / 8) (fsS P ((i - 42) / 8)) ((i - 42) % 8 - 5)) else J p i
theorem fxK_0 {J : Mm} {m : Nat} {P : PT} : fxK J m P 5 = J := by funext p i; exact if_neg (fun z => by omega)
theorem fxK_p {J : Mm} {m p : Nat} {P : PT} {t : Int} (h : ¬ p = m + 1) : fxK J m P t p = J p := by funext i; exact if_neg (fun z => h z.1.1)
theorem fxK_at {J : Mm} {m : Nat} {P : PT} {t i : Int} (h : 42 + t ≤ i) : fxK J m P t (m + 1) i = J (m + 1) i := if_neg (fun z => by omega)
theorem fxK_lo {J : Mm} {m : Nat} {P : PT} {t i : Int} (h : i < 42 ∨ (i - 42) % 8 < 5) : fxK J m P t (m + 1) i = J (m + 1) i := if_neg (fun z => by omega)
theorem fxK_s {J : Mm} {m : Nat} {P : PT} {e k : Int} (he : 0 ≤ e) (hk : 0 ≤ k) (hk3 : k < 3) (hs : k < pSz P e) : upd2 (fxK J m P (8 * e + 5 + k)) (m + 1) (42 + 8 * e + 5 + k) (bitF (fgP P e (fsS P e) k)) = fxK J m P (8 * e + 5 + (k + 1)) := by
  funext p i
  by_cases hp : p = m + 1
  · subst hp
    by_cases hi : i = 42 + 8 * e + 5 + k
    · subst hi
      rw [upd2_at]
      have h1 : (42 + 8 * e + 5 + k - 42) % 8 = 5 + k := by omega
      have h2 : (42 + 8 * e + 5 + k - 42) / 8 = e := by omega
      unfold fxK
      rw [h1, h2, if_pos ⟨⟨rfl, by omega, by omega⟩, by omega, by omega⟩, show 5 + k - 5 = k by omega]
    · rw [upd2_i hi]
      unfold fxK
      by_cases hc : ((m + 1 = m + 1 ∧ 42 ≤ i ∧ i < 42 + (8 * e + 5 + k)) ∧ 5 ≤ (i - 42) % 8 ∧ (i - 42) % 8 - 5 < pSz P ((i - 42) / 8))
      · rw [if_pos hc, if_pos ⟨⟨rfl, hc.1.2.1, by omega⟩, hc.2⟩]
      · rw [if_neg hc, if_neg (fun z => hc ⟨⟨rfl, z.1.2.1, by omega⟩, z.2⟩)]
  · rw [upd2_p hp, fxK_p hp, fxK_p hp]
theorem fxK_e {J : Mm} {m : Nat} {P : PT} {e : Int} (he : 0 ≤ e) (h0 : 0 ≤ pSz P e) (h3 : pSz P e ≤ 3) : fxK J m P (8 * e + 5 + pSz P e) = fxK J m P (8 * (e + 1) + 5 + 0) := by
  funext p i
  unfold fxK
  by_cases hc : ((p = m + 1 ∧ 42 ≤ i ∧ i < 42 + (8 * e + 5 + pSz P e)) ∧ 5 ≤ (i - 42) % 8 ∧ (i - 42) % 8 - 5 < pSz P ((i - 42) / 8))
  · rw [if_pos hc, if_pos ⟨⟨hc.1.1, hc.1.2.1, by omega⟩, hc.2⟩]
  · rw [if_neg hc, if_neg (fun z => hc ⟨⟨z.1.1, z.1.2.1, ?_⟩, z.2⟩)]
    obtain ⟨⟨z1, z2, z3⟩, z4, z5⟩ := z
    by_cases h : (i - 42) / 8 = e
    · rw [h] at z5; omega
    · omega
/-- sums over all notes, with more that goes along -/
theorem loop_sum4 {σ τ : Type} {O : Int → Int → σ → Option Rs} {N : Int → Int → Int → τ → Option Rs} {f : Int → Int → Int} {sz : Int → Int} {n : Int} (hn : 0 ≤ n ∧ n ≤ 40) (hs : ∀ e, 0 ≤ e → e < n → 0 ≤ sz e ∧ sz e ≤ 3) (hf : ∀ e k, 0 ≤ e → e < n → 0 ≤ k → k < sz e → 0 ≤ f e k ∧ f e k ≤ 1)
    (h1 : ∀ e a o, 0 ≤ e → e < n → 0 ≤ a → a ≤ 200 → ∃ t, O e a o = N e 0 a t)
    (h2 : ∀ e k a t, 0 ≤ e → e < n → 0 ≤ k → k < sz e → 0 ≤ a → a ≤ 200 → ∃ t', N e k a t = N e (k + 1) (a + f e k) t')
    (h3 : ∀ e a t, 0 ≤ e → e < n → 0 ≤ a → a ≤ 200 → ∃ o', N e (sz e) a t = O (e + 1) a o') (o : σ) :
    ∃ o', O 0 0 o = O n (sumI (fun e => sumI (f e) (sz e)) n) o' := by
  have bi : ∀ e k, 0 ≤ e → e < n → 0 ≤ k → k ≤ sz e → 0 ≤ sumI (f e) k ∧ sumI (f e) k ≤ k := by
    intro e k e0 e1 k0 k1
    have := sumI_b (f := f e) (A := 0) (B := 1) (n := k) k0 (fun i i0 i1 => hf e i e0 e1 i0 (by omega))
    omega
  have bo : ∀ e, 0 ≤ e → e ≤ n → 0 ≤ sumI (fun e => sumI (f e) (sz e)) e ∧ sumI (fun e => sumI (f e) (sz e)) e ≤ 120 := by
    intro e e0 e1
    have := sumI_b (f := fun e => sumI (f e) (sz e)) (A := 0) (B := 3) (n := e) e0 (fun i i0 i1 => by
      have := bi i (sz i) i0 (by omega) (hs i i0 (by omega)).1 (Int.le_refl _)
      have := hs i i0 (by omega)
      exact ⟨by omega, by omega⟩)
    omega
  have key := loop_up (σ := σ) (head := fun e o => O e (sumI (fun e => sumI (f e) (sz e)) e) o) (Inv := fun e _ => 0 ≤ e) (n := n) (by
    intro e o e1 e0
    have hb := bo e e0 (by omega)
    have hz := hs e e0 e1
    obtain ⟨t0, a1⟩ := h1 e (sumI (fun e => sumI (f e) (sz e)) e) o e0 e1 (by omega) (by omega)
    have inner := loop_up (σ := τ) (head := fun k t => N e k (sumI (fun e => sumI (f e) (sz e)) e + sumI (f e) k) t) (Inv := fun k _ => 0 ≤ k) (n := sz e) (by
      intro k t k1 k0
      have := bi e k e0 e1 k0 (by omega)
      obtain ⟨t', a2⟩ := h2 e k (sumI (fun e => sumI (f e) (sz e)) e + sumI (f e) k) t e0 e1 k0 k1 (by omega) (by omega)
      refine ⟨t', ?_, by omega⟩
      show N _ _ _ _ = N _ _ _ _
      rw [a2, sumI_s k0, Int.add_assoc]) 0 t0 hz.1 (Int.le_refl _)
    obtain ⟨t1, ie, -⟩ := inner
    have ie : N e 0 (sumI (fun e => sumI (f e) (sz e)) e + 0) t0 = N e (sz e) (sumI (fun e => sumI (f e) (sz e)) e + sumI (f e) (sz e)) t1 := ie
    rw [Int.add_zero] at ie
    have := bi e (sz e) e0 e1 hz.1 (Int.le_refl _)
    obtain ⟨o', a3⟩ := h3 e (sumI (fun e => sumI (f e) (sz e)) e + sumI (f e) (sz e)) t1 e0 e1 (by omega) (by omega)
    refine ⟨o', ?_, by omega⟩
    show O _ _ _ = O _ _ _
    rw [a1, ie, a3, sumI_s e0]) 0 o hn.1 (Int.le_refl _)
  obtain ⟨o', ke, -⟩ := key
  exact ⟨o', ke⟩
section FX
variable {g : Gm} {I : Mm} {m x : Nat} {P : PT}
theorem s_firstFinger' {l : Nat} {e k c v : Int} (hl : isPl g l) (he : 0 ≤ e ∧ e < 40) (hk : 0 ≤ k ∧ k < 3) (hc : 0 ≤ c ∧ c < 10) (h1 : I (l + 14) e = c) (h2 : I (l + 4) ((e * 10 + c) * 3 + k) = v) :
    cl 47 [.ref l, .int (iI e), .int (iI k)] (mk g I) = some (.inl (some (.int (iI v))), mk g I) := by
  obtain ⟨l_0, ⟨l_1, m_1, l_2⟩, ⟨l_3, m_3, l_4⟩, ⟨l_5, m_5, l_6⟩, ⟨l_7, m_7, l_8⟩, ⟨l_9, m_9, l_10⟩, ⟨l_11, m_11, l_12⟩, ⟨l_13, m_13, l_14⟩, ⟨l_15, m_15, l_16⟩, ⟨l_17, m_17, l_18⟩, l_19, l_20⟩ := hl
  simp (maxSteps := 2000000) (disch := first | assumption | omega) only [aft_v, aft_n, aft_t, Nat.add_assoc, Nat.reduceAdd, if_true, if_false, not_true_eq_false, not_false_eq_true, Classical.not_not, Int.reduceAdd, Int.reduceSub, Int.reduceMul, Int.reduceNeg, Int.reduceLT, Int.reduceLE, Int.reduceEq, Int.add_zero, Int.zero_add, Int.sub_zero, c_47, w_47_0, w_47_1, w_47_2, w_47_3, s_row_get, s_baseOf, h1, h2]
theorem chOk_fr {I1 : Mm} (h : chOk g I x) (f : frP (x + 35) I I1) : chOk g I1 x := by
  obtain ⟨hH, hB, hW, h9, h10, hx2, hk⟩ := h
  have ix : I1 x = I x := f x (by omega)
  have et : rmT I1 x = rmT I x := by unfold rmT rmO rmU; rw [ix]
  refine ⟨hH, gd_fr f (Or.inl (by omega)) hB, by rw [frP_pv f (by omega)]; exact hW, by rw [ix]; exact h9, by rw [ix]; exact h10, hx2, ?_⟩
  rw [et]
  rcases hk with ⟨A, a1, a2, a3, a4⟩ | ⟨a1, a2, a3, a4, a5, a6⟩
  · exact Or.inl ⟨A, a1, a2, pB_c (fun p a b => f p (by omega)) a3, a4⟩
  · exact Or.inr ⟨a1, a2, fun j hj i => by rw [f _ (by omega)]; exact a3 j hj i, isSt_c (f 0 (by omega)) (f 1 (by omega)) a4, a5, a6⟩
theorem s_hfix (h : chOk g I x) (ho : plOk x I) (hz : ¬ lsS (pv I (x + 1)) 0 = -1) :
    ∃ g' I1 I2 A, cl 125 [.ref x] (mk g I) = some (.inl (some (.int (iI (fxS (pv I (x + 1)))))), mk g' (fxI I2 (x + 9) (pv I (x + 1)) (I (x + 1) 1 * 3 + 0))) ∧ frP (x + 35) I I1 ∧ rmF x g g' I1 I2 A := by
  obtain ⟨I1, e1, f1, s1⟩ := s_needFingering h.1.hn h.1.2.2.2.1 h.2.1 ho
  rw [if_neg hz] at e1
  obtain ⟨g', I2, A, e2, f2, hH', hB', hv'⟩ := rm_go (chOk_fr h f1)
  have hv : pv I2 (x + 1) = pv I (x + 1) := by rw [hv', frP_pv f1 (by omega)]
  have hbd := gd_bd h.2.1
  obtain ⟨P, hP⟩ : ∃ P, P = pv I (x + 1) := ⟨_, rfl⟩
  rw [← hP] at s1 hbd hz hv ⊢
  have eP : I (x + 1) 1 = pE P := by rw [hP]; rfl
  have e22 : I2 (x + 1) 1 = pE P := by rw [← hv]; rfl
  have eZ : ∀ e, I2 (x + 3) e = pSz P e := fun e => by rw [← hv]; rfl
  have eS : ∀ e k, I2 (x + 9) (e * 3 + k) = pSe P e k := fun e k => by rw [← hv]; rfl
  have hl := hH'.2.2.2.1
  have h_0 := h.1.1
  obtain ⟨h5, hp⟩ := hH'.hn
  have h1 : g'.1 (x + 35) = sX1 (x + 35) := hl.1
  have w1 := hbd.2.1
  have hse : ∀ e k, 0 ≤ pSe P e k ∧ pSe P e k ≤ 31 := fun e k => by rw [← eS]; exact hB'.1.2.2.2.2.2.1 _
  have l14 : ∀ e, 0 ≤ e → e < pE P → I2 (x + 35 + 14) e = fsS P e := fun e a b => by rw [f2.2.2.1 _ (by omega) (by omega) (by have := f2.2.1; omega)]; exact s1.fs hz a b
  have l4 : ∀ e k, 0 ≤ e → e < pE P → 0 ≤ k → k < pSz P e → I2 (x + 35 + 4) ((e * 10 + fsS P e) * 3 + k) = fgP P e (fsS P e) k := fun e k a b k0 k1 => by
    have c0 := fsS_b hbd hz a b
    rw [f2.2.2.1 _ (by omega) (by omega) (by have := f2.2.1; omega)]; exact s1.fg a b c0.1 c0.2 k0 k1
  obtain ⟨p_0, ⟨p_1, q_1, p_2⟩, ⟨p_3, q_3, p_4⟩, ⟨p_5, q_5, p_6⟩, ⟨p_7, q_7, p_8⟩, ⟨p_9, q_9, p_10⟩, ⟨p_11, q_11, p_12⟩, ⟨p_13, q_13, p_14⟩, ⟨p_15, q_15, p_16⟩⟩ := hp
  have fE : ∀ t, fxI I2 (x + 9) P t (x + 1) 1 = pE P := fun t => by rw [fxI_p (by omega)]; exact e22
  have fZ : ∀ t e, 0 ≤ e → e < 40 → cl 62 [.ref (x + 2), .int (iI e)] (mk g' (fxI I2 (x + 9) P t)) = some (.inl (some (.int (iI (pSz P e)))), mk g' (fxI I2 (x + 9) P t)) := fun t e a b => by
    have := s_row_get (g := g') (I := fxI I2 (x + 9) P t) (p := x + 1 + 1) (i := e) p_1 a (by omega)
    rw [show x + 1 + 1 + 1 = x + 3 from rfl, fxI_p (by omega), eZ] at this
    exact this
  have key := loop_sum4 (σ := Option Value × Option Value) (τ := Option Value) (O := fun e a o => rn 125 3 [some (.ref x), some (.int (iI a)), some (.int (iI e)), o.1, o.2] [] (mk g' (fxI I2 (x + 9) P (e * 3 + 0)))) (N := fun e k a t => rn 125 5 [some (.ref x), some (.int (iI a)), some (.int (iI e)), some (.int (iI k)), t] [] (mk g' (fxI I2 (x + 9) P (e * 3 + k)))) (f := fun e k => if andI (pSe P e k) (pSe P e k - 1) = 0 then 0 else 1) (sz := pSz P) (n := pE P) hbd.2.1 (fun e e0 e1 => by have := (hbd.2.2.1 e e0 e1).1; omega) (fun e k _ _ _ _ => by split <;> omega)
    (fun e a o e0 e1 a0 a1 => by
      have q := fE (e * 3 + 0)
      obtain ⟨K, hK⟩ : ∃ K, K = fxI I2 (x + 9) P (e * 3 + 0) := ⟨_, rfl⟩
      rw [← hK] at q
      refine ⟨o.2, ?_⟩
      show rn _ _ _ _ _ = rn _ _ _ _ _
      rw [← hK]
      refine (w_125_3 (by first | assumption | omega) (by first | assumption | omega) (by first | assumption | omega) (by first | assumption | omega) (by first | assumption | omega) (by first | assumption | omega)).trans ?_
      rw [q]
      refine (if_neg (by omega)).trans ?_
      simp (maxSteps := 2000000) (disch := first | assumption | omega) only [aft_v, aft_n, aft_t, Nat.add_assoc, Nat.reduceAdd, if_true, if_false, not_true_eq_false, not_false_eq_true, Classical.not_not, Int.reduceAdd, Int.reduceSub, Int.reduceMul, Int.reduceNeg, Int.reduceLT, Int.reduceLE, Int.reduceEq, Int.add_zero, Int.zero_add, Int.sub_zero, w_125_4])
    (fun e k a t e0 e1 k0 k1 a0 a1 => by
      have n0 := hbd.2.2.1 e e0 e1
      have c0 := fsS_b hbd hz e0 e1
      have q0 := fZ (e * 3 + k) e e0 (by omega)
      have bF := fgP_b (P := P) (e := e) (c := fsS P e) (k := k) n0.1
      have bs := bc_1 (hse e k)
      have q1 : cl 62 [.ref (x + 8), .int (iI (e * 3 + k))] (mk g' (fxI I2 (x + 9) P (e * 3 + k))) = some (.inl (some (.int (iI (pSe P e k)))), mk g' (fxI I2 (x + 9) P (e * 3 + k))) := by
        have := s_row_get (g := g') (I := fxI I2 (x + 9) P (e * 3 + k)) (p := x + 1 + 7) (i := e * 3 + k) p_7 (by omega) (by omega)
        rw [show x + 1 + 7 + 1 = x + 9 from rfl, fxI_at (Int.le_refl _), eS] at this
        exact this
      have q2 := s_bitCount (g := g') (I := fxI I2 (x + 9) P (e * 3 + k)) (x := pSe P e k)
      have q3 := s_firstFinger' (g := g') (I := fxI I2 (x + 9) P (e * 3 + k)) (l := x + 35) (e := e) (k := k) (c := fsS P e) (v := fgP P e (fsS P e) k) hl (by omega) (by omega) (by omega) (by rw [fxI_p (by omega)]; exact l14 e e0 e1) (by rw [fxI_p (by omega)]; exact l4 e k e0 e1 k0 k1)
      have q4 := s_bitOf (g := g') (I := fxI I2 (x + 9) P (e * 3 + k)) (a := fgP P e (fsS P e) k) (by omega)
      have q5 : cl 63 [.ref (x + 8), .int (iI (e * 3 + k)), .int (iI (bitF (fgP P e (fsS P e) k)))] (mk g' (fxI I2 (x + 9) P (e * 3 + k))) = some (.inl none, mk g' (upd2 (fxI I2 (x + 9) P (e * 3 + k)) (x + 9) (e * 3 + k) (bitF (fgP P e (fsS P e) k)))) := s_row_put (p := x + 1 + 7) p_7 (by omega) (by omega)
      rw [fxI_s e0 k0 (by omega) k1] at q5
      obtain ⟨K, hK⟩ : ∃ K, K = fxI I2 (x + 9) P (e * 3 + k) := ⟨_, rfl⟩
      obtain ⟨K2, hK2⟩ : ∃ K2, K2 = fxI I2 (x + 9) P (e * 3 + (k + 1)) := ⟨_, rfl⟩
      rw [← hK] at q0 q1 q2 q3 q4 q5
      rw [← hK2] at q5
      refine ⟨some (.int (iI (e * 3 + k))), ?_⟩
      show rn _ _ _ _ _ = rn _ _ _ _ _
      rw [← hK, ← hK2]
      refine (w_125_5 (by first | omega | assumption) (by first | omega | assumption) (by first | omega | assumption)).trans ?_
      by_cases hff : andI (pSe P e k) (pSe P e k - 1) = 0
      · rw [if_pos hff]
        have hle : bcI (pSe P e k) ≤ 1 := by
          rcases Int.lt_or_le 1 (bcI (pSe P e k)) with h | h
          · exact absurd hff (bs.2.1.mp h)
          · exact h
        simp (maxSteps := 2000000) (disch := first | assumption | omega) only [aft_v, aft_n, aft_t, Nat.add_assoc, Nat.reduceAdd, if_true, if_false, not_true_eq_false, not_false_eq_true, Classical.not_not, Int.reduceAdd, Int.reduceSub, Int.reduceMul, Int.reduceNeg, Int.reduceLT, Int.reduceLE, Int.reduceEq, Int.add_zero, Int.zero_add, Int.sub_zero, w_125_6, w_125_7, w_125_8, w_125_9, w_125_10, w_125_12, w_125_13, w_125_14, w_125_15, w_125_16, q0, s_placeOf, q1, q2, q3, q4, q5, if_neg (show ¬ pSz P e ≤ k by omega), if_pos hle]
      · rw [if_neg hff]
        have hle : ¬ bcI (pSe P e k) ≤ 1 := by have := bs.2.1.mpr hff; omega
        simp (maxSteps := 2000000) (disch := first | assumption | omega) only [aft_v, aft_n, aft_t, Nat.add_assoc, Nat.reduceAdd, if_true, if_false, not_true_eq_false, not_false_eq_true, Classical.not_not, Int.reduceAdd, Int.reduceSub, Int.reduceMul, Int.reduceNeg, Int.reduceLT, Int.reduceLE, Int.reduceEq, Int.add_zero, Int.zero_add, Int.sub_zero, w_125_6, w_125_7, w_125_8, w_125_9, w_125_10, w_125_11, w_125_13, w_125_14, w_125_15, w_125_16, q0, s_placeOf, q1, q2, q3, q4, q5, if_neg (show ¬ pSz P e ≤ k by omega), if_neg hle])
    (fun e a t e0 e1 a0 a1 => by
      have n0 := hbd.2.2.1 e e0 e1
      have q0 := fZ (e * 3 + pSz P e) e e0 (by omega)
      rw [fxI_e e0 (by omega) n0.1.2] at q0
      obtain ⟨K, hK⟩ : ∃ K, K = fxI I2 (x + 9) P ((e + 1) * 3 + 0) := ⟨_, rfl⟩
      refine ⟨(some (.int (iI (pSz P e))), t), ?_⟩
      show rn _ _ _ _ (mk g' (fxI I2 (x + 9) P (e * 3 + pSz P e))) = rn _ _ _ _ _
      rw [fxI_e e0 (by omega) n0.1.2, ← hK]
      rw [← hK] at q0
      refine (w_125_5 (by first | omega | assumption) (by first | omega | assumption) (by first | omega | assumption)).trans ?_
      simp (maxSteps := 2000000) (disch := first | assumption | omega) only [aft_v, aft_n, aft_t, Nat.add_assoc, Nat.reduceAdd, if_true, if_false, not_true_eq_false, not_false_eq_true, Classical.not_not, Int.reduceAdd, Int.reduceSub, Int.reduceMul, Int.reduceNeg, Int.reduceLT, Int.reduceLE, Int.reduceEq, Int.add_zero, Int.zero_add, Int.sub_zero, w_125_6, w_125_17, q0, if_pos (Int.le_refl (pSz P e))]) (none, none)
  obtain ⟨o', key⟩ := key
  have key : rn 125 3 [some (.ref x), some (.int (iI 0)), some (.int (iI 0)), none, none] [] (mk g' (fxI I2 (x + 9) P 0)) = rn 125 3 [some (.ref x), some (.int (iI (fxS P))), some (.int (iI (pE P))), o'.1, o'.2] [] (mk g' (fxI I2 (x + 9) P (pE P * 3 + 0))) := key
  rw [fxI_0] at key
  have q := fE (pE P * 3 + 0)
  obtain ⟨K, hK⟩ : ∃ K, K = fxI I2 (x + 9) P (pE P * 3 + 0) := ⟨_, rfl⟩
  rw [← hK] at q key
  refine ⟨g', I1, I2, A, ?_, f1, f2⟩
  rw [eP, ← hK]
  simp (maxSteps := 2000000) (disch := first | assumption | omega) only [aft_v, aft_n, aft_t, Nat.add_assoc, Nat.reduceAdd, if_true, if_false, not_true_eq_false, not_false_eq_true, Classical.not_not, Int.reduceAdd, Int.reduceSub, Int.reduceMul, Int.reduceNeg, Int.reduceLT, Int.reduceLE, Int.reduceEq, Int.add_zero, Int.zero_add, Int.sub_zero, c_125, w_125_0, w_125_1, w_125_2, e1, e2]
  rw [key]
  refine (w_125_3 (by first | assumption | omega) (by first | assumption | omega) (by first | assumption | omega) (by first | assumption | omega) (by first | assumption | omega) (by first | assumption | omega)).trans ?_
  rw [q]
  refine (if_pos (by omega)).trans ?_
  simp (maxSteps := 2000000) (disch := first | assumption | omega) only [aft_v, aft_n, aft_t, Nat.add_assoc, Nat.reduceAdd, if_true, if_false, not_true_eq_false, not_false_eq_true, Classical.not_not, Int.reduceAdd, Int.reduceSub, Int.reduceMul, Int.reduceNeg, Int.reduceLT, Int.reduceLE, Int.reduceEq, Int.add_zero, Int.zero_add, Int.sub_zero, w_125_18]
theorem s_hfixNo (hx : isHn g x) (hl : isPl g (x + 35)) (hB : gd I (x + 1)) (ho : plOk x I) (hz : lsS (pv I (x + 1)) 0 = -1) :
    ∃ I', cl 125 [.ref x] (mk g I) = some (.inr "java/util/NoSuchElementException", mk (gexc g) I') ∧ frP (x + 35) I I' ∧ Sol (pv I (x + 1)) (x + 35) I' := by
  obtain ⟨I', e1, fr, s⟩ := s_needFingering hx hl hB ho
  rw [if_pos hz] at e1
  refine ⟨I', ?_, fr, s⟩
  obtain ⟨h5, hp⟩ := hx
  simp (maxSteps := 2000000) (disch := first | assumption | omega) only [aft_v, aft_n, aft_t, Nat.add_assoc, Nat.reduceAdd, if_true, if_false, not_true_eq_false, not_false_eq_true, Classical.not_not, Int.reduceAdd, Int.reduceSub, Int.reduceMul, Int.reduceNeg, Int.reduceLT, Int.reduceLE, Int.reduceEq, Int.add_zero, Int.zero_add, Int.sub_zero, c_125, w_125_0, e1]
theorem s_fixM {L : Nat → Int → Int} (hm : isM g m) (hW : Wf P) (hP : P = mv I m) (h6 : 0 ≤ I m 6 ∧ I m 6 ≤ 8) (hz : ¬ lsS P 0 = -1) :
    ∃ J K L', cl 259 [.ref m] (mk (gL g L) I) = some (.inl (some (.int (iI (fxS P)))), mk (gL g L') (fxK K m P (8 * pE P + 5 + 0))) ∧ frQ m 0 I J ∧ kpM m (m + 1) J K ∧ frML m L L' := by
  have hbd := Wf_bd hW
  have w1 := hW.2.1
  obtain ⟨J, L1, j1, j2, j3, j4, j5⟩ := s_chooses (g := g) (I := I) (L := L) hm hW hP
  rw [if_neg hz] at j1
  have fQ := frQ_C (t := 0) j2
  obtain ⟨J2, hJ2⟩ : ∃ J2, J2 = upd2 J m 7 0 := ⟨_, rfl⟩
  rw [← hJ2] at fQ
  have u7 : J2 m 7 = 0 := fQ.2.2
  have pJ : mv J2 m = P := by rw [hP]; exact frQ_mv fQ
  have r12 : ∀ e, 0 ≤ e → e < pE P → J2 (m + 12) e = 10 * e + fsS P e := fun e e0 e1 => by rw [hJ2, upd2_p (by omega)]; exact j5 hz e e0 e1
  have r9 : ∀ e, 0 ≤ e → e < pE P → J2 (m + 9) (10 * e + fsS P e) = itS P e (fsS P e) := fun e e0 e1 => by
    have c0 := fsS_b hbd hz e0 e1
    rw [hJ2, upd2_p (by omega)]; exact ((j4.1 e e0 e1).2 _ c0.1 c0.2).1
  obtain ⟨g2, hg2⟩ : ∃ g2, g2 = gL g L1 := ⟨_, rfl⟩
  have hm2 : isM g2 m := by rw [hg2]; exact hm
  have hm3 := hm2
  have hm0 := hm
  obtain ⟨K, k1, k2⟩ := s_keeps (g := g2) (I := J2) (r := m + 1) hm2 (Or.inl rfl) (by rw [fQ.2.1 6 (by decide)]; exact h6)
  obtain ⟨t_0, ⟨t_1, d_1, n_1⟩, ⟨t_2, d_2, n_2⟩, ⟨t_3, d_3, n_3⟩, ⟨t_4, d_4, n_4⟩, ⟨t_5, d_5, n_5⟩, ⟨t_6, n_6⟩, ⟨t_7, d_7, n_7⟩, ⟨t_8, d_8, n_8⟩, ⟨t_9, d_9, n_9⟩, ⟨t_10, d_10, n_10⟩, ⟨t_11, d_11, n_11⟩, ⟨t_12, d_12, n_12⟩, ⟨t_13, d_13, n_13⟩, ⟨t_14, d_14, n_14⟩, ⟨t_15, n_15⟩, ⟨t_16, n_16⟩, ⟨t_17, d_17, n_17⟩, ⟨t_18, d_18, n_18⟩⟩ := hm2
  have km : K (m + 1) = J2 (m + 1) := k2.1 _ (by omega) (by omega)
  have pK : mv K m = P := by rw [← pJ]; unfold mv; rw [km]
  have k12 : ∀ e, 0 ≤ e → e < pE P → K (m + 12) e = 10 * e + fsS P e := fun e a b => by rw [k2.1 _ (by omega) (by omega)]; exact r12 e a b
  have k9 : ∀ e, 0 ≤ e → e < pE P → K (m + 9) (10 * e + fsS P e) = itS P e (fsS P e) := fun e a b => by rw [k2.1 _ (by omega) (by omega)]; exact r9 e a b
  have eE : K (m + 1) 0 = pE P := by rw [← pK]; rfl
  have eZ : ∀ e, K (m + 1) (42 + 8 * e) = pSz P e := fun e => by rw [← pK]; rfl
  have eS : ∀ e k, K (m + 1) (42 + 8 * e + 5 + k) = pSe P e k := fun e k => by rw [← pK]; rfl
  have fev : ∀ t, cl 182 [.ref m] (mk g2 (fxK K m P t)) = some (.inl (some (.int (iI (pE P)))), mk g2 (fxK K m P t)) := fun t => by
    have := s_events (g := g2) (I := fxK K m P t) hm3
    rw [fxK_lo (by omega), eE] at this
    exact this
  have fno : ∀ t e, 0 ≤ e → e < 40 → cl 183 [.ref m, .int (iI e)] (mk g2 (fxK K m P t)) = some (.inl (some (.int (iI (pSz P e)))), mk g2 (fxK K m P t)) := fun t e a b => by
    have := s_notesOf (g := g2) (I := fxK K m P t) (e := e) hm3 ⟨a, b⟩
    rw [fxK_lo (by omega), eZ] at this
    exact this
  have key := loop_sum4 (σ := Option Value × Option Value) (τ := Option Value) (O := fun e a o => rn 259 8 [some (.ref m), some (.int (iI a)), some (.int (iI e)), o.1, o.2] [] (mk g2 (fxK K m P (8 * e + 5 + 0)))) (N := fun e k a t => rn 259 11 [some (.ref m), some (.int (iI a)), some (.int (iI e)), some (.int (iI k)), t] [] (mk g2 (fxK K m P (8 * e + 5 + k)))) (f := fun e k => if andI (pSe P e k) (pSe P e k - 1) = 0 then 0 else 1) (sz := pSz P) (n := pE P) hbd.2.1 (fun e e0 e1 => by have := (hbd.2.2.1 e e0 e1).1; omega) (fun e k _ _ _ _ => by split <;> omega)
    (fun e a o e0 e1 a0 a1 => by
      have q := fev (8 * e + 5 + 0)
      obtain ⟨S, hS⟩ : ∃ S, S = fxK K m P (8 * e + 5 + 0) := ⟨_, rfl⟩
      rw [← hS] at q
      refine ⟨o.2, ?_⟩
      show rn _ _ _ _ _ = rn _ _ _ _ _
      rw [← hS]
      refine (w_259_8 (by first | assumption | omega)).trans ?_
      simp (maxSteps := 2000000) (disch := first | assumption | omega) only [aft_v, aft_n, aft_t, Nat.add_assoc, Nat.reduceAdd, if_true, if_false, not_true_eq_false, not_false_eq_true, Classical.not_not, Int.reduceAdd, Int.reduceSub, Int.reduceMul, Int.reduceNeg, Int.reduceLT, Int.reduceLE, Int.reduceEq, Int.add_zero, Int.zero_add, Int.sub_zero, w_259_9, w_259_10, q, if_neg (show ¬ pE P ≤ e by omega)])
    (fun e k a t e0 e1 k0 k1 a0 a1 => by
      have n0 := hbd.2.2.1 e e0 e1
      have c0 := fsS_b hbd hz e0 e1
      have q0 := fno (8 * e + 5 + k) e e0 (by omega)
      have bF := fgP_b (P := P) (e := e) (c := fsS P e) (k := k) n0.1
      have q1 : cl 186 [.ref m, .int (iI e), .int (iI k)] (mk g2 (fxK K m P (8 * e + 5 + k))) = some (.inl (some (.int (iI (pSe P e k)))), mk g2 (fxK K m P (8 * e + 5 + k))) := by
        have := s_setOf (g := g2) (I := fxK K m P (8 * e + 5 + k)) (e := e) (k := k) hm3 (by omega) (by omega)
        rw [fxK_at (by omega), eS] at this
        exact this
      have ib := itS_b (P := P) (e := e) (c := fsS P e) n0.1
      have y12 : fxK K m P (8 * e + 5 + k) (m + 12) e = 10 * e + fsS P e := by rw [fxK_p (by omega)]; exact k12 e e0 e1
      have y9 : fxK K m P (8 * e + 5 + k) (m + 9) (10 * e + fsS P e) = itS P e (fsS P e) := by rw [fxK_p (by omega)]; exact k9 e e0 e1
      have q3 := s_fingerIn (g := g2) (I := fxK K m P (8 * e + 5 + k)) (a := itS P e (fsS P e)) (k := k) (by omega) (by omega)
      have eF : fgS (itS P e (fsS P e)) k = fgP P e (fsS P e) k := rfl
      rw [eF] at q3
      have sb : shlI 1 (fgP P e (fsS P e) k - 1) = bitF (fgP P e (fsS P e) k) := by unfold bitF; rw [if_pos bF]
      have hst := fxK_s (J := K) (m := m) (P := P) e0 k0 (by omega) k1
      obtain ⟨S, hS⟩ : ∃ S, S = fxK K m P (8 * e + 5 + k) := ⟨_, rfl⟩
      obtain ⟨S2, hS2⟩ : ∃ S2, S2 = fxK K m P (8 * e + 5 + (k + 1)) := ⟨_, rfl⟩
      rw [← hS] at q0 q1 q3 y12 y9 hst
      rw [← hS2] at hst
      refine ⟨some (.int (iI (pSe P e k))), ?_⟩
      show rn _ _ _ _ _ = rn _ _ _ _ _
      rw [← hS, ← hS2]
      refine (w_259_11 (by first | assumption | omega)).trans ?_
      have ab := and_b (a := pSe P e k) (b := pSe P e k - 1)
      by_cases hff : andI (pSe P e k) (pSe P e k - 1) = 0
      · rw [if_pos hff]
        simp (maxSteps := 2000000) (disch := first | assumption | omega) only [aft_v, aft_n, aft_t, Nat.add_assoc, Nat.reduceAdd, if_true, if_false, not_true_eq_false, not_false_eq_true, Classical.not_not, Int.reduceAdd, Int.reduceSub, Int.reduceMul, Int.reduceNeg, Int.reduceLT, Int.reduceLE, Int.reduceEq, Int.add_zero, Int.zero_add, Int.sub_zero, w_259_12, w_259_13, w_259_14, w_259_15, w_259_17, w_259_18, q0, q1, q3, y12, y9, sb, hst, hff, if_neg (show ¬ pSz P e ≤ k by omega)]
      · rw [if_neg hff]
        simp (maxSteps := 2000000) (disch := first | assumption | omega) only [aft_v, aft_n, aft_t, Nat.add_assoc, Nat.reduceAdd, if_true, if_false, not_true_eq_false, not_false_eq_true, Classical.not_not, Int.reduceAdd, Int.reduceSub, Int.reduceMul, Int.reduceNeg, Int.reduceLT, Int.reduceLE, Int.reduceEq, Int.add_zero, Int.zero_add, Int.sub_zero, w_259_12, w_259_13, w_259_14, w_259_16, w_259_17, w_259_18, q0, q1, q3, y12, y9, sb, hst, hff, if_neg (show ¬ pSz P e ≤ k by omega)])
    (fun e a t e0 e1 a0 a1 => by
      have n0 := hbd.2.2.1 e e0 e1
      have q0 := fno (8 * e + 5 + pSz P e) e e0 (by omega)
      rw [fxK_e e0 (by omega) n0.1.2] at q0
      obtain ⟨S, hS⟩ : ∃ S, S = fxK K m P (8 * (e + 1) + 5 + 0) := ⟨_, rfl⟩
      refine ⟨(some (.int (iI (pSz P e))), t), ?_⟩
      show rn _ _ _ _ (mk g2 (fxK K m P (8 * e + 5 + pSz P e))) = rn _ _ _ _ _
      rw [fxK_e e0 (by omega) n0.1.2, ← hS]
      rw [← hS] at q0
      refine (w_259_11 (by first | assumption | omega)).trans ?_
      simp (maxSteps := 2000000) (disch := first | assumption | omega) only [aft_v, aft_n, aft_t, Nat.add_assoc, Nat.reduceAdd, if_true, if_false, not_true_eq_false, not_false_eq_true, Classical.not_not, Int.reduceAdd, Int.reduceSub, Int.reduceMul, Int.reduceNeg, Int.reduceLT, Int.reduceLE, Int.reduceEq, Int.add_zero, Int.zero_add, Int.sub_zero, w_259_12, w_259_19, q0, if_pos (Int.le_refl (pSz P e))]) (none, none)
  obtain ⟨o', key⟩ := key
  have key : rn 259 8 [some (.ref m), some (.int (iI 0)), some (.int (iI 0)), none, none] [] (mk g2 (fxK K m P 5)) = rn 259 8 [some (.ref m), some (.int (iI (fxS P))), some (.int (iI (pE P))), o'.1, o'.2] [] (mk g2 (fxK K m P (8 * pE P + 5 + 0))) := key
  rw [fxK_0] at key
  have q := fev (8 * pE P + 5 + 0)
  obtain ⟨S, hS⟩ : ∃ S, S = fxK K m P (8 * pE P + 5 + 0) := ⟨_, rfl⟩
  rw [← hS] at q key
  refine ⟨J2, K, L1, ?_, fQ, k2, j3⟩
  rw [← hS, ← hg2]
  rw [← hg2] at j1
  have h6' : (gL g L).1 m = sX6 m := hm0.1
  have u8 : upd2 J m 7 0 m 7 = 0 := upd2_at
  simp (maxSteps := 2000000) (disch := first | assumption | omega) only [aft_v, aft_n, aft_t, Nat.add_assoc, Nat.reduceAdd, if_true, if_false, not_true_eq_false, not_false_eq_true, Classical.not_not, Int.reduceAdd, Int.reduceSub, Int.reduceMul, Int.reduceNeg, Int.reduceLT, Int.reduceLE, Int.reduceEq, Int.add_zero, Int.zero_add, Int.sub_zero, c_259, w_259_0, w_259_1, w_259_2, j1, show ¬ (1 : Int) = 0 by decide]
  refine (w_259_4 (by first | assumption | omega) (by first | assumption | omega) (by first | assumption | omega) (by first | assumption | omega)).trans ?_
  rw [← hJ2]
  simp (maxSteps := 2000000) (disch := first | assumption | omega) only [aft_v, aft_n, aft_t, Nat.add_assoc, Nat.reduceAdd, if_true, if_false, not_true_eq_false, not_false_eq_true, Classical.not_not, Int.reduceAdd, Int.reduceSub, Int.reduceMul, Int.reduceNeg, Int.reduceLT, Int.reduceLE, Int.reduceEq, Int.add_zero, Int.zero_add, Int.sub_zero, w_259_6, w_259_7, u7, k1, if_pos (Int.le_refl 0)]
  rw [key]
  refine (w_259_8 (by first | assumption | omega)).trans ?_
  simp (maxSteps := 2000000) (disch := first | assumption | omega) only [aft_v, aft_n, aft_t, Nat.add_assoc, Nat.reduceAdd, if_true, if_false, not_true_eq_false, not_false_eq_true, Classical.not_not, Int.reduceAdd, Int.reduceSub, Int.reduceMul, Int.reduceNeg, Int.reduceLT, Int.reduceLE, Int.reduceEq, Int.add_zero, Int.zero_add, Int.sub_zero, w_259_9, w_259_20, q, if_pos (Int.le_refl (pE P))]
theorem s_fixNo {L : Nat → Int → Int} (hm : isM g m) (hW : Wf P) (hP : P = mv I m) (hz : lsS P 0 = -1) :
    ∃ I' L', cl 259 [.ref m] (mk (gL g L) I) = some (.inl (some (.int (iI 0))), mk (gL g L') I') ∧ frQ m 1 I I' ∧ frML m L L' := by
  obtain ⟨J, L1, j1, j2, j3, j4, j5⟩ := s_chooses (g := g) (I := I) (L := L) hm hW hP
  rw [if_pos hz] at j1
  refine ⟨upd2 J m 7 1, L1, ?_, frQ_C j2, j3⟩
  have u7 : upd2 J m 7 1 m 7 = 1 := upd2_at
  obtain ⟨t_0, ⟨t_1, d_1, n_1⟩, ⟨t_2, d_2, n_2⟩, ⟨t_3, d_3, n_3⟩, ⟨t_4, d_4, n_4⟩, ⟨t_5, d_5, n_5⟩, ⟨t_6, n_6⟩, ⟨t_7, d_7, n_7⟩, ⟨t_8, d_8, n_8⟩, ⟨t_9, d_9, n_9⟩, ⟨t_10, d_10, n_10⟩, ⟨t_11, d_11, n_11⟩, ⟨t_12, d_12, n_12⟩, ⟨t_13, d_13, n_13⟩, ⟨t_14, d_14, n_14⟩, ⟨t_15, n_15⟩, ⟨t_16, n_16⟩, ⟨t_17, d_17, n_17⟩, ⟨t_18, d_18, n_18⟩⟩ := hm
  simp (maxSteps := 2000000) (disch := first | assumption | omega | (simp (disch := omega) only [gL_gL, gL_21, gtL, gnL, gL_1, gL_gL, gL_21, upd2_p]; first | assumption | omega)) only [gL_gL, gL_21, aft_v, aft_n, aft_t, Nat.add_assoc, Nat.reduceAdd, if_true, if_false, not_true_eq_false, not_false_eq_true, Classical.not_not, Int.reduceAdd, Int.reduceSub, Int.reduceMul, Int.reduceNeg, Int.reduceLT, Int.reduceLE, Int.reduceEq, Int.add_zero, Int.zero_add, Int.sub_zero, c_259, w_259_0, w_259_1, w_259_3, w_259_4, w_259_5, j1, u7, if_neg (show ¬ (1 : Int) ≤ 0 by decide)]
end FX
