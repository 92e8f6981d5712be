/-! The reference loads a piece. -/
theorem pstM.per {B : Int → Int} {n : Int} {m : Nat} {P : PT} {b : Int} {e : Int × Int} {I J K : Mm} (h : pstM B n m P b I J) (h' : perM m e J K) : perM m e I K :=
  ⟨fun p h1 h2 => (h'.1 p h1 h2).trans (h.1 p h1 h2), fun i a b c d f k => (h'.2.1 i a b c d f k).trans (h.2.1 i a b c d), h'.2.2⟩
section LO
variable {g : Gm} {I J : Mm} {m : Nat} {B : Int → Int} {n b : Int} {P : PT}
/-- a loop of readers: from head to exit -/
theorem l_loop {p : Nat} {F : PT → Int → Rz (PT × Int)} {Q : PT → Prop} {H X : Mm → Option Rs} (hO : txB B n)
    (hF : ∀ P b J, Q P → pstM B n m P b I J → isW B n b p → (∃ e K, F P b = .inl e ∧ H J = H K ∧ perM m e I K) ∨ ∃ P' c K, F P b = .inr (P', c) ∧ b < c ∧ Q P' ∧ H J = H K ∧ pstM B n m P' c I K)
    (hN : ∀ P b J, pstM B n m P b I J → ¬ isW B n b p → H J = X J) (hE : ∀ e J, perM m e I J → H J = X J) :
    ∀ (f : Nat) (P : PT) (b : Int) (J : Mm), Q P → pstM B n m P b I J → n < b + f → (∃ e K, gLp B n p F f P b = .inl e ∧ H J = X K ∧ perM m e I K) ∨ ∃ P' c K, gLp B n p F f P b = .inr (P', c) ∧ Q P' ∧ H J = X K ∧ pstM B n m P' c I K := by
  intro f
  induction f with
  | zero => intro P b J hQ h hf; have := h.2.2.2.1.2.2.2.2.2.2.2; omega
  | succ f ih =>
    intro P b J hQ h hf
    by_cases hw : isW B n b p
    · rcases hF P b J hQ h hw with ⟨e, K, g1, e1, h1⟩ | ⟨P', c, K, g1, hc, hQ', e1, h1⟩
      · exact Or.inl ⟨e, K, by simp only [gLp, wdS_y hw]; rw [g1]; rfl, e1.trans (hE e K h1), h1⟩
      · have eg : gLp B n p F (f + 1) P b = gLp B n p F f P' c := by simp only [gLp, wdS_y hw]; rw [g1]; rfl
        rw [eg, e1]
        exact ih P' c K hQ' h1 (by omega)
    · exact Or.inr ⟨P, b, J, by simp only [gLp, wdS_n hw]; rfl, hQ, hN P b J h hw, h⟩
theorem gSe_lt {c d : Int} (h : gSe B n c = .inr d) (hc : c ≤ n) : c < d := by
  unfold gSe at h
  by_cases hk : tkK B n c = 3
  · rw [if_pos hk] at h
    have h := Sum.inr.inj h
    have a := tkS_b (B := B) hc
    have e := tkE_b (B := B) hc
    have := e.2.2 (by omega)
    omega
  · rw [if_neg hk] at h; cases h
theorem gNu_lt {lo hi fi c : Int} {x : Int × Int} (h : gNu B n lo hi fi c = .inr x) (hc : c ≤ n) : c < x.2 ∧ x.2 ≤ n := by
  unfold gNu at h
  by_cases k2 : tkK B n c = 2
  · rw [if_pos k2] at h
    have a := tkS_b (B := B) hc
    have e := tkE_b (B := B) hc
    have e2 := e.2.2 (by omega)
    by_cases hw : lo ≤ tkN B n 1000 c ∧ tkN B n 1000 c ≤ hi
    · rw [if_pos hw] at h
      by_cases hf : fi ≤ tkN B n 1000 c
      · rw [if_pos hf] at h
        have h := Sum.inr.inj h
        rw [← h]
        exact ⟨by show c < tkE B n c; omega, e.2.1⟩
      · rw [if_neg hf] at h; cases h
    · rw [if_neg hw] at h; cases h
  · rw [if_neg k2] at h; cases h
theorem isW_lt {p : Nat} (hw : isW B n b p) (hb : b ≤ n) : b < tkE B n b ∧ tkE B n b ≤ n := by
  have a := tkS_b (B := B) hb
  have e := tkE_b (B := B) hb
  have := e.2.2 (by rw [hw.1]; decide)
  exact ⟨by omega, e.2.1⟩
theorem gWt_lt {x : PT × Int} (hw : isW B n b 6) (hb : b ≤ n) (h : gWt B n P b = .inr x) : b < x.2 := by
  obtain ⟨a1, a2⟩ := isW_lt hw hb
  unfold gWt at h
  by_cases hn : gNm B n (tkE B n b) < 0
  · rw [if_pos hn] at h; cases h
  rw [if_neg hn] at h
  obtain ⟨v, hv, h⟩ := bnd_inr h
  obtain ⟨c, hc, h⟩ := bnd_inr h
  have h := Sum.inr.inj h
  have e := tkE_b (B := B) a2
  have s := tkS_b (B := B) a2
  have l1 := gNu_lt hv e.2.1
  have l2 := gSe_lt hc l1.2
  rw [← h]
  show b < c
  omega
theorem gSp_lt {x : PT × Int} (hw : isW B n b 7) (hb : b ≤ n) (h : gSp B n P b = .inr x) : b < x.2 := by
  obtain ⟨a1, a2⟩ := isW_lt hw hb
  unfold gSp at h
  obtain ⟨x1, h1, h⟩ := bnd_inr h
  obtain ⟨x2, h2, h⟩ := bnd_inr h
  obtain ⟨x3, h3, h⟩ := bnd_inr h
  obtain ⟨x4, h4, h⟩ := bnd_inr h
  obtain ⟨x5, h5, h⟩ := bnd_inr h
  obtain ⟨c, hc, h⟩ := bnd_inr h
  have h := Sum.inr.inj h
  have l1 := gNu_lt h1 a2
  have l2 := gNu_lt h2 l1.2
  have l3 := gNu_lt h3 l2.2
  have l4 := gNu_lt h4 l3.2
  have l5 := gNu_lt h5 l4.2
  have l6 := gSe_lt hc l5.2
  rw [← h]
  show b < c
  omega
theorem gKl_lt : ∀ (f : Nat) (k pr : Int) (ky : Int → Int) (b : Int) (x : Int × (Int → Int) × Int), b ≤ n → gKl B n f k pr ky b = .inr x → b < x.2.2 ∧ x.2.2 ≤ n := by
  intro f
  induction f with
  | zero => intro k pr ky b x hb h; simp only [gKl] at h; cases h
  | succ f ih =>
    intro k pr ky b x hb h
    simp only [gKl] at h
    obtain ⟨y, y1, h⟩ := bnd_inr h
    have l1 := gNu_lt y1 hb
    by_cases hk : tkK B n y.2 = 2
    · rw [if_pos hk] at h
      have := ih _ _ _ _ _ l1.2 h
      omega
    · rw [if_neg hk] at h
      have h := Sum.inr.inj h
      rw [← h]
      exact l1
theorem gFn_le : ∀ (f : Nat) (k : Int) (se : Int → Int) (b : Int) (x : (Int → Int) × Int), b ≤ n → gFn B n f k se b = .inr x → b ≤ x.2 ∧ x.2 ≤ n := by
  intro f
  induction f with
  | zero =>
    intro k se b x hb h
    simp only [gFn] at h
    by_cases hk : tkK B n b = 2
    · rw [if_pos hk] at h; cases h
    · rw [if_neg hk] at h
      have h := Sum.inr.inj h
      rw [← h]
      exact ⟨Int.le_refl _, hb⟩
  | succ f ih =>
    intro k se b x hb h
    simp only [gFn] at h
    obtain ⟨y, y1, h⟩ := bnd_inr h
    have l1 := gNu_lt y1 hb
    have := ih _ _ _ _ l1.2 h
    omega
theorem gRe_le {x : Int × Int} (hb : b ≤ n) (h : gRe B n b = .inr x) : b ≤ x.2 ∧ x.2 ≤ n := by
  unfold gRe at h
  have a := tkS_b (B := B) hb
  have e := tkE_b (B := B) hb
  by_cases hw : wdS B n b 9 = 0
  · rw [if_pos hw] at h
    have h := Sum.inr.inj h
    rw [← h]
    exact ⟨Int.le_refl _, hb⟩
  · rw [if_neg hw] at h
    have := gNu_lt h e.2.1
    omega
theorem gFg_le {k : Int} {x : (Int → Int) × Int} (hb : b ≤ n) (h : gFg B n k b = .inr x) : b ≤ x.2 ∧ x.2 ≤ n := by
  unfold gFg at h
  have a := tkS_b (B := B) hb
  have e := tkE_b (B := B) hb
  by_cases hw : wdS B n b 10 = 0
  · rw [if_pos hw] at h
    have h := Sum.inr.inj h
    rw [← h]
    exact ⟨Int.le_refl _, hb⟩
  · rw [if_neg hw] at h
    have := gFn_le _ _ _ _ _ e.2.1 h
    omega
theorem gEv_lt {x : PT × Int} (hw : isW B n b 8) (hb : b ≤ n) (h : gEv B n P b = .inr x) : b < x.2 := by
  obtain ⟨a1, a2⟩ := isW_lt hw hb
  unfold gEv at h
  by_cases hn : 40 ≤ pE P
  · rw [if_pos hn] at h; cases h
  rw [if_neg hn] at h
  obtain ⟨x1, h1, h⟩ := bnd_inr h
  obtain ⟨x2, h2, h⟩ := bnd_inr h
  obtain ⟨x3, h3, h⟩ := bnd_inr h
  obtain ⟨c, hc, h⟩ := bnd_inr h
  have h := Sum.inr.inj h
  have l1 := gKl_lt _ _ _ _ _ _ a2 h1
  have l2 := gRe_le l1.2 h2
  have l3 := gFg_le l2.2 h3
  have l4 := gSe_lt hc l3.2
  rw [← h]
  show b < c
  omega
theorem l_mHead (hm : isM g m) (hO : txB B n) (h7 : I (m + 7) = B) (h9 : I m 9 = n) (hs : ∀ p, 3 ≤ p → p ≤ 20 → isTs g I p) (hx : 64 ≤ m) (h : pstM B n m P 0 I J) :
    (∃ e K, gHd B n P 0 = .inl e ∧ rn 180 3 [some (.ref m)] [] (mk g J) = rn 180 17 [some (.ref m)] [] (mk g K) ∧ perM m e I K) ∨
    ∃ P' c K, gHd B n P 0 = .inr (P', c) ∧ rn 180 3 [some (.ref m)] [] (mk g J) = rn 180 17 [some (.ref m)] [] (mk g K) ∧ pstM B n m P' c I K := by
  have hm' := hm
  obtain ⟨t_0, ⟨t_1, d_1, n_1⟩, ⟨t_2, d_2, n_2⟩, ⟨t_3, d_3, n_3⟩, ⟨t_4, d_4, n_4⟩, ⟨t_5, d_5, n_5⟩, ⟨t_6, n_6⟩, ⟨t_7, d_7, n_7⟩, ⟨t_8, d_8, n_8⟩, ⟨t_9, d_9, n_9⟩, ⟨t_10, d_10, n_10⟩, ⟨t_11, d_11, n_11⟩, ⟨t_12, d_12, n_12⟩, ⟨t_13, d_13, n_13⟩, ⟨t_14, d_14, n_14⟩, ⟨t_15, n_15⟩, ⟨t_16, n_16⟩, ⟨t_17, d_17, n_17⟩, ⟨t_18, d_18, n_18⟩⟩ := hm
  have o1 : ¬ (1 : Int) = 0 := by decide
  have hts : ∀ K, (∀ p, ¬ p = m → ¬ p = m + 1 → K p = I p) → ∀ p, 3 ≤ p → p ≤ 20 → isTs g K p := fun K hK p p0 p1 => isTs_c (hK _ (by omega) (by omega)) (hs p p0 p1)
  have w3 := s_misWord hm' hO h.2.2.2.1 h.2.2.1 (hts J h.1 3 (by decide) (by decide))
  by_cases hw3 : isW B n 0 3
  · rw [wdS_y hw3] at w3
    obtain ⟨K, j1, j2⟩ := s_must1 hm' hO h.2.2.2.1 h.2.2.1
    have hK := h.ok j2
    obtain ⟨b1, hb1⟩ : ∃ b1, b1 = tkE B n 0 := ⟨_, rfl⟩
    rw [← hb1] at hK
    have eg : gHd B n P 0 = bnd (gWd B n (if wdS B n b1 4 = 0 then 5 else 4) b1) fun b2 => bnd (gSe B n b2) fun b3 => .inr (paR P (wdS B n b1 4), b3) := by unfold gHd; rw [show gWd B n 3 0 = .inr b1 by unfold gWd; rw [wdS_y hw3, if_pos rfl, hb1]]; rfl
    have w4 := s_misWord hm' hO hK.2.2.2.1 hK.2.2.1 (hts K hK.1 4 (by decide) (by decide))
    obtain ⟨r, hr⟩ : ∃ r, r = wdS B n b1 4 := ⟨_, rfl⟩
    have r01 := wdS_01 (B := B) (n := n) (b := b1) (p := 4)
    rw [← hr] at w4 r01 eg
    obtain ⟨L, hL⟩ : ∃ L, L = upd2 K (m + 1) 1 r := ⟨_, rfl⟩
    have hLs : pstM B n m (paR P r) b1 I L := by rw [hL]; exact hK.w (fun p hp => by funext i; exact upd2_p hp) (mR_A hK.2.2.2.2)
    have w4' := s_misWord hm' hO hLs.2.2.2.1 hLs.2.2.1 (hts L hLs.1 4 (by decide) (by decide))
    have w5' := s_misWord hm' hO hLs.2.2.2.1 hLs.2.2.1 (hts L hLs.1 5 (by decide) (by decide))
    rw [← hr] at w4'
    obtain ⟨s, hsd⟩ : ∃ s, s = (if r = 0 then wdS B n b1 5 else 1) := ⟨_, rfl⟩
    have s01 : s = 0 ∨ s = 1 := by
      rw [hsd]
      by_cases hr0 : r = 0
      · rw [if_pos hr0]; exact wdS_01
      · rw [if_neg hr0]; exact Or.inr rfl
    have start : rn 180 3 [some (.ref m)] [] (mk g J) = aft rn 180 16 [some (.ref m)] [] (some []) (cl 173 [.ref m, .int (iI s)] (mk g L)) := by
      by_cases hr0 : r = 0
      · rw [if_pos hr0] at hsd
        have s5 := wdS_01 (B := B) (n := n) (b := b1) (p := 5)
        rw [← hsd] at w5' s5
        rw [hr0] at w4 w4' hL
        by_cases hs0 : s = 0
        · rw [hs0] at w5' ⊢
          simp (maxSteps := 2000000) (disch := first | assumption | omega) only [aft_v, aft_n, aft_t, Nat.add_assoc, Nat.reduceAdd, if_true, if_false, not_true_eq_false, not_false_eq_true, Classical.not_not, Int.reduceAdd, Int.reduceSub, Int.reduceMul, Int.reduceNeg, Int.reduceLT, Int.reduceLE, Int.reduceEq, Int.add_zero, Int.zero_add, Int.sub_zero, w_180_3, w_180_4, w_180_5, w_180_6, w_180_8, w_180_9, w_180_10, w_180_11, w_180_12, w_180_14, w_180_15, w3, j1, w4, w4', w5', ← hL]
        · have hs1 : s = 1 := by omega
          rw [hs1] at w5' ⊢
          simp (maxSteps := 2000000) (disch := first | assumption | omega) only [aft_v, aft_n, aft_t, Nat.add_assoc, Nat.reduceAdd, if_true, if_false, not_true_eq_false, not_false_eq_true, Classical.not_not, Int.reduceAdd, Int.reduceSub, Int.reduceMul, Int.reduceNeg, Int.reduceLT, Int.reduceLE, Int.reduceEq, Int.add_zero, Int.zero_add, Int.sub_zero, w_180_3, w_180_4, w_180_5, w_180_6, w_180_8, w_180_9, w_180_10, w_180_11, w_180_12, w_180_13, w_180_15, w3, j1, w4, w4', w5', ← hL, o1]
      · have hr1 : r = 1 := by omega
        rw [if_neg hr0] at hsd
        rw [hr1] at w4 w4' hL
        rw [hsd]
        simp (maxSteps := 2000000) (disch := first | assumption | omega) only [aft_v, aft_n, aft_t, Nat.add_assoc, Nat.reduceAdd, if_true, if_false, not_true_eq_false, not_false_eq_true, Classical.not_not, Int.reduceAdd, Int.reduceSub, Int.reduceMul, Int.reduceNeg, Int.reduceLT, Int.reduceLE, Int.reduceEq, Int.add_zero, Int.zero_add, Int.sub_zero, w_180_3, w_180_4, w_180_5, w_180_6, w_180_7, w_180_9, w_180_10, w_180_13, w_180_15, w3, j1, w4, w4', ← hL, o1]
    rw [start, eg]
    have hg : gWd B n (if r = 0 then 5 else 4) b1 = if s = 1 then .inr (tkE B n b1) else .inl (-2, tkS B n b1) := by
      by_cases hr0 : r = 0
      · rw [if_pos hr0] at hsd ⊢
        unfold gWd
        rw [← hsd]
      · rw [if_neg hr0] at hsd ⊢
        unfold gWd
        rw [← hr, show r = 1 by omega, hsd]
    rw [hg]
    rcases s01 with hs0 | hs1
    · rw [hs0]
      obtain ⟨M, m1, m2⟩ := s_must0 hm' hO hLs.2.2.2.1 hLs.2.2.1
      have hM := hLs.er m2
      have q2 := s_mustEndP hm' hO h7 h9 hM
      refine Or.inl ⟨_, M, by rw [if_neg (by decide)]; rfl, ?_, hM⟩
      simp (maxSteps := 2000000) (disch := first | assumption | omega) only [aft_v, aft_n, aft_t, Nat.add_assoc, Nat.reduceAdd, if_true, if_false, not_true_eq_false, not_false_eq_true, Classical.not_not, Int.reduceAdd, Int.reduceSub, Int.reduceMul, Int.reduceNeg, Int.reduceLT, Int.reduceLE, Int.reduceEq, Int.add_zero, Int.zero_add, Int.sub_zero, w_180_16, m1, q2]
    · rw [hs1]
      obtain ⟨M, m1, m2⟩ := s_must1 hm' hO hLs.2.2.2.1 hLs.2.2.1
      have hM := hLs.ok m2
      rw [if_pos rfl]
      rcases s_mustEnd hm' hO hM.2.2.2.1 hM.2.2.1 with ⟨e, N, g2, n1, n2⟩ | ⟨b3, N, g2, n1, n2⟩
      · refine Or.inl ⟨e, N, by show bnd (gSe B n _) _ = _; rw [g2]; rfl, ?_, hM.er n2⟩
        simp (maxSteps := 2000000) (disch := first | assumption | omega) only [aft_v, aft_n, aft_t, Nat.add_assoc, Nat.reduceAdd, if_true, if_false, not_true_eq_false, not_false_eq_true, Classical.not_not, Int.reduceAdd, Int.reduceSub, Int.reduceMul, Int.reduceNeg, Int.reduceLT, Int.reduceLE, Int.reduceEq, Int.add_zero, Int.zero_add, Int.sub_zero, w_180_16, m1, n1]
      · refine Or.inr ⟨paR P r, b3, N, by show bnd (gSe B n _) _ = _; rw [g2]; rfl, ?_, hM.ok n2⟩
        simp (maxSteps := 2000000) (disch := first | assumption | omega) only [aft_v, aft_n, aft_t, Nat.add_assoc, Nat.reduceAdd, if_true, if_false, not_true_eq_false, not_false_eq_true, Classical.not_not, Int.reduceAdd, Int.reduceSub, Int.reduceMul, Int.reduceNeg, Int.reduceLT, Int.reduceLE, Int.reduceEq, Int.add_zero, Int.zero_add, Int.sub_zero, w_180_16, m1, n1]
  · rw [wdS_n hw3] at w3
    obtain ⟨K, j1, j2⟩ := s_must0 hm' hO h.2.2.2.1 h.2.2.1
    have hK := h.er j2
    have hL : perM m (-2, tkS B n 0) I (upd2 K (m + 1) 1 0) := hK.w (fun p hp => by funext i; exact upd2_p hp)
    have a4 := s_misWordW (g := g) (p := 4) hm' hK.2.2.1 hK.ne
    have b4 := s_misWordW (g := g) (p := 4) hm' hL.2.2.1 hL.ne
    have b5 := s_misWordW (g := g) (p := 5) hm' hL.2.2.1 hL.ne
    have q1 := s_mustW (g := g) (r := 0) hm' hL.2.2.1 hL.ne (Or.inl rfl)
    have q2 := s_mustEndP hm' hO h7 h9 hL
    refine Or.inl ⟨_, upd2 K (m + 1) 1 0, by unfold gHd gWd; rw [wdS_n hw3, if_neg (by decide)]; rfl, ?_, hL⟩
    simp (maxSteps := 2000000) (disch := first | assumption | omega) only [aft_v, aft_n, aft_t, Nat.add_assoc, Nat.reduceAdd, if_true, if_false, not_true_eq_false, not_false_eq_true, Classical.not_not, Int.reduceAdd, Int.reduceSub, Int.reduceMul, Int.reduceNeg, Int.reduceLT, Int.reduceLE, Int.reduceEq, Int.add_zero, Int.zero_add, Int.sub_zero, w_180_3, w_180_4, w_180_5, w_180_6, w_180_8, w_180_9, w_180_10, w_180_11, w_180_12, w_180_14, w_180_15, w_180_16, w3, j1, a4, b4, b5, q1, q2]
end LO
