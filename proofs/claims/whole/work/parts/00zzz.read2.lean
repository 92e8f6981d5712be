/-! The class reads spans. -/
section RS
variable {g : Gm} {I J : Mm} {t q : Nat} {B : Int → Int} {n b : Int} {P : PT}
/-- a span ahead of its semicolon -/
noncomputable def gS5 (B : Int → Int) (n : Int) (P : PT) (b : Int) : Rz (PT × Int) := bnd (gNu B n 1 5 1 b) fun x1 => bnd (gNu B n 1 5 (x1.1 + 1) x1.2) fun x2 => bnd (gNu B n 1 24 1 x2.2) fun x3 => bnd (gNu B n 1 24 x3.1 x3.2) fun x4 => bnd (gNu B n 1 24 x4.1 x4.2) fun x5 => .inr (paS P x1.1 x2.1 x3.1 x4.1 x5.1, x5.2)
theorem gSp_5 : gSp B n P b = bnd (gS5 B n P (tkE B n b)) fun x => bnd (gSe B n x.2) fun b6 => .inr (x.1, b6) := by
  unfold gSp gS5
  cases gNu B n 1 5 1 (tkE B n b) with
  | inl e => rfl
  | inr x1 =>
    show bnd (gNu B n 1 5 (x1.1 + 1) x1.2) _ = bnd (bnd (gNu B n 1 5 (x1.1 + 1) x1.2) _) _
    cases gNu B n 1 5 (x1.1 + 1) x1.2 with
    | inl e => rfl
    | inr x2 =>
      show bnd (gNu B n 1 24 1 x2.2) _ = bnd (bnd (gNu B n 1 24 1 x2.2) _) _
      cases gNu B n 1 24 1 x2.2 with
      | inl e => rfl
      | inr x3 =>
        show bnd (gNu B n 1 24 x3.1 x3.2) _ = bnd (bnd (gNu B n 1 24 x3.1 x3.2) _) _
        cases gNu B n 1 24 x3.1 x3.2 with
        | inl e => rfl
        | inr x4 =>
          show bnd (gNu B n 1 24 x4.1 x4.2) _ = bnd (bnd (gNu B n 1 24 x4.1 x4.2) _) _
          cases gNu B n 1 24 x4.1 x4.2 with
          | inl e => rfl
          | inr x5 => rfl
theorem s_readSpan (hT : isTx g t) (hq : isPc g q) (hO : txB B n) (hd : q + 17 ≤ t) (h : pst B n t q P b I J) : pan B n t q g I (gS5 B n P b) (cl 77 [.ref t, .ref q] (mk g J)) ∧ (∀ Q c, gS5 B n P b = .inr (Q, c) → b < c) := by
  have t4 := hT.1
  have q0 := hq.1
  have o1 : ¬ (1 : Int) = 0 := by decide
  have nolt : ∀ (e : Int × Int) (Q : PT) (c : Int), (Sum.inl e : Rz (PT × Int)) = .inr (Q, c) → b < c := fun e Q c z => by cases z
  rcases s_takeNumber (lo := 1) (hi := 5) (fi := 1) hT hO h.2.2.1 (by decide) (by decide) (by decide) (by decide) with ⟨e, K1, g1, j1, k1⟩ | ⟨v1, b1, K1, g1, hv1, hb1, j1, k1, u1⟩
  · have eg : gS5 B n P b = .inl e := by unfold gS5; rw [g1]; rfl
    refine ⟨Or.inl ⟨e, K1, eg, ?_, h.er hd k1⟩, by rw [eg]; exact nolt e⟩
    simp (maxSteps := 2000000) (disch := first | assumption | omega) only [aft_v, aft_n, aft_t, Nat.add_assoc, Nat.reduceAdd, if_true, if_false, not_true_eq_false, not_false_eq_true, Classical.not_not, Int.reduceAdd, Int.reduceSub, Int.reduceMul, Int.reduceNeg, Int.reduceLT, Int.reduceLE, Int.reduceEq, Int.add_zero, Int.zero_add, Int.sub_zero, c_77, w_77_0, w_77_1, w_77_2, j1]
  have h1 := h.ok hd k1
  have eg : gS5 B n P b = bnd (gNu B n 1 5 (v1 + 1) b1) fun x2 => bnd (gNu B n 1 24 1 x2.2) fun x3 => bnd (gNu B n 1 24 x3.1 x3.2) fun x4 => bnd (gNu B n 1 24 x4.1 x4.2) fun x5 => .inr (paS P v1 x2.1 x3.1 x4.1 x5.1, x5.2) := by unfold gS5; rw [g1]; rfl
  rcases s_takeNumber (lo := 1) (hi := 5) (fi := v1 + 1) hT hO h1.2.2.1 (by decide) (by decide) (by omega) (by decide) with ⟨e, K2, g2, j2, k2⟩ | ⟨v2, b2, K2, g2, hv2, hb2, j2, k2, u2⟩
  · have eg : gS5 B n P b = .inl e := by rw [eg, g2]; rfl
    refine ⟨Or.inl ⟨e, K2, eg, ?_, h1.er hd k2⟩, by rw [eg]; exact nolt e⟩
    simp (maxSteps := 2000000) (disch := first | assumption | omega) only [aft_v, aft_n, aft_t, Nat.add_assoc, Nat.reduceAdd, if_true, if_false, not_true_eq_false, not_false_eq_true, Classical.not_not, Int.reduceAdd, Int.reduceSub, Int.reduceMul, Int.reduceNeg, Int.reduceLT, Int.reduceLE, Int.reduceEq, Int.add_zero, Int.zero_add, Int.sub_zero, c_77, w_77_0, w_77_1, w_77_3, w_77_4, w_77_5, j1, o1, u1, j2]
  have h2 := h1.ok hd k2
  rw [g2] at eg
  rcases s_takeNumber (lo := 1) (hi := 24) (fi := 1) hT hO h2.2.2.1 (by decide) (by decide) (by decide) (by decide) with ⟨e, K3, g3, j3, k3⟩ | ⟨v3, b3, K3, g3, hv3, hb3, j3, k3, u3⟩
  · have eg : gS5 B n P b = .inl e := by rw [eg]; show bnd (gNu B n 1 24 1 b2) _ = _; rw [g3]; rfl
    refine ⟨Or.inl ⟨e, K3, eg, ?_, h2.er hd k3⟩, by rw [eg]; exact nolt e⟩
    simp (maxSteps := 2000000) (disch := first | assumption | omega) only [aft_v, aft_n, aft_t, Nat.add_assoc, Nat.reduceAdd, if_true, if_false, not_true_eq_false, not_false_eq_true, Classical.not_not, Int.reduceAdd, Int.reduceSub, Int.reduceMul, Int.reduceNeg, Int.reduceLT, Int.reduceLE, Int.reduceEq, Int.add_zero, Int.zero_add, Int.sub_zero, c_77, w_77_0, w_77_1, w_77_3, w_77_4, w_77_6, w_77_7, w_77_8, j1, o1, u1, j2, u2, j3]
  have h3 := h2.ok hd k3
  have eg : gS5 B n P b = bnd (gNu B n 1 24 v3 b3) fun x4 => bnd (gNu B n 1 24 x4.1 x4.2) fun x5 => .inr (paS P v1 v2 v3 x4.1 x5.1, x5.2) := by rw [eg]; show bnd (gNu B n 1 24 1 b2) _ = _; rw [g3]; rfl
  rcases s_takeNumber (lo := 1) (hi := 24) (fi := v3) hT hO h3.2.2.1 (by decide) (by decide) (by omega) (by decide) with ⟨e, K4, g4, j4, k4⟩ | ⟨v4, b4, K4, g4, hv4, hb4, j4, k4, u4⟩
  · have eg : gS5 B n P b = .inl e := by rw [eg, g4]; rfl
    refine ⟨Or.inl ⟨e, K4, eg, ?_, h3.er hd k4⟩, by rw [eg]; exact nolt e⟩
    simp (maxSteps := 2000000) (disch := first | assumption | omega) only [aft_v, aft_n, aft_t, Nat.add_assoc, Nat.reduceAdd, if_true, if_false, not_true_eq_false, not_false_eq_true, Classical.not_not, Int.reduceAdd, Int.reduceSub, Int.reduceMul, Int.reduceNeg, Int.reduceLT, Int.reduceLE, Int.reduceEq, Int.add_zero, Int.zero_add, Int.sub_zero, c_77, w_77_0, w_77_1, w_77_3, w_77_4, w_77_6, w_77_7, w_77_9, w_77_10, w_77_11, j1, o1, u1, j2, u2, j3, u3, j4]
  have h4 := h3.ok hd k4
  rw [g4] at eg
  rcases s_takeNumber (lo := 1) (hi := 24) (fi := v4) hT hO h4.2.2.1 (by decide) (by decide) (by omega) (by decide) with ⟨e, K5, g5, j5, k5⟩ | ⟨v5, b5, K5, g5, hv5, hb5, j5, k5, u5⟩
  · have eg : gS5 B n P b = .inl e := by rw [eg]; show bnd (gNu B n 1 24 v4 b4) _ = _; rw [g5]; rfl
    refine ⟨Or.inl ⟨e, K5, eg, ?_, h4.er hd k5⟩, by rw [eg]; exact nolt e⟩
    simp (maxSteps := 2000000) (disch := first | assumption | omega) only [aft_v, aft_n, aft_t, Nat.add_assoc, Nat.reduceAdd, if_true, if_false, not_true_eq_false, not_false_eq_true, Classical.not_not, Int.reduceAdd, Int.reduceSub, Int.reduceMul, Int.reduceNeg, Int.reduceLT, Int.reduceLE, Int.reduceEq, Int.add_zero, Int.zero_add, Int.sub_zero, c_77, w_77_0, w_77_1, w_77_3, w_77_4, w_77_6, w_77_7, w_77_9, w_77_10, w_77_12, w_77_13, w_77_14, j1, o1, u1, j2, u2, j3, u3, j4, u4, j5]
  have h5 := h4.ok hd k5
  have eg : gS5 B n P b = .inr (paS P v1 v2 v3 v4 v5, b5) := by rw [eg]; show bnd (gNu B n 1 24 v4 b4) _ = _; rw [g5]; rfl
  have ps := s_putSpan (g := g) (I := K5) (q := q) (a := v1) (b := v2) (lo := v3) (hi := v4) (li := v5) hq (by omega) (by omega)
  refine ⟨Or.inr ⟨paS P v1 v2 v3 v4 v5, b5, spU K5 q v1 v2 v3 v4 v5, eg, ?_, h5.w hd (fun p hp => spU_o p (by omega) (by omega) (by omega)) (pB_sp h5.2.2.2.1 (by omega) (by omega) (by omega)) (paS_A (by omega) (by omega) h5.2.2.2.2)⟩, fun Q c z => ?_⟩
  · simp (maxSteps := 2000000) (disch := first | assumption | omega) only [aft_v, aft_n, aft_t, Nat.add_assoc, Nat.reduceAdd, if_true, if_false, not_true_eq_false, not_false_eq_true, Classical.not_not, Int.reduceAdd, Int.reduceSub, Int.reduceMul, Int.reduceNeg, Int.reduceLT, Int.reduceLE, Int.reduceEq, Int.add_zero, Int.zero_add, Int.sub_zero, c_77, w_77_0, w_77_1, w_77_3, w_77_4, w_77_6, w_77_7, w_77_9, w_77_10, w_77_12, w_77_13, w_77_15, w_77_16, j1, o1, u1, j2, u2, j3, u3, j4, u4, j5, u5, ps]
    rfl
  · rw [eg] at z
    have z : (paS P v1 v2 v3 v4 v5, b5) = (Q, c) := Sum.inr.inj z
    have z : b5 = c := congrArg Prod.snd z
    omega
theorem l_readSpans (hT : isTx g t) (hq : isPc g q) (hO : txB B n) (hd : q + 17 ≤ t) (hs : ∀ p, 3 ≤ p → p ≤ 20 → isTs g I p) (hx : 64 ≤ q) : ∀ (f : Nat) (c : Int) (P : PT) (b : Int) (J : Mm), pst B n t q P b I J → 0 ≤ c → c ≤ b → n < b + f → pan B n t q g I (gLp B n 7 (gSp B n) f P b) (rn 76 1 [some (.ref t), some (.ref q), some (.int (iI c))] [] (mk g J)) := by
  have t4 := hT.1
  have o1 : ¬ (1 : Int) = 0 := by decide
  have hts : ∀ K, (∀ p, ¬ p = t → (p < q ∨ q + 16 < p) → K p = I p) → ∀ p, 3 ≤ p → p ≤ 20 → isTs g K p := fun K hK p p0 p1 => isTs_c (hK _ (by omega) (by omega)) (hs p p0 p1)
  intro f
  induction f with
  | zero => intro c P b J h c0 c1 hf; have := h.2.2.1.2.2.2.2.2.2.2; omega
  | succ f ih =>
    intro c P b J h c0 c1 hf
    have hb := lx_b h.2.2.1 hO
    have w := s_isWord' hT hO h.2.2.1 (hts J h.1 7 (by decide) (by decide))
    by_cases hw : isW B n b 7
    · rw [wdS_y hw] at w
      have htk := hb.2.2.2.2.2 (by rw [hw.1]; decide)
      have eg : gLp B n 7 (gSp B n) (f + 1) P b = bnd (gSp B n P b) fun x => gLp B n 7 (gSp B n) f x.1 x.2 := by simp only [gLp, wdS_y hw]; rfl
      rw [eg, gSp_5]
      obtain ⟨K, j1, j2, _⟩ := s_scan2 hT hO h.2.2.1
      have hK := h.ok hd j2
      obtain ⟨b1, hb1⟩ : ∃ b1, b1 = tkE B n b := ⟨_, rfl⟩
      rw [← hb1] at hK j2 htk ⊢
      obtain ⟨r1, r2⟩ := s_readSpan hT hq hO hd hK
      rcases r1 with ⟨e, L, g1, l1, l2⟩ | ⟨Q, b2, L, g1, l1, hL⟩
      · refine Or.inl ⟨e, L, by rw [g1]; rfl, ?_, l2⟩
        simp (maxSteps := 2000000) (disch := first | assumption | omega) only [aft_v, aft_n, aft_t, Nat.add_assoc, Nat.reduceAdd, if_true, if_false, not_true_eq_false, not_false_eq_true, Classical.not_not, Int.reduceAdd, Int.reduceSub, Int.reduceMul, Int.reduceNeg, Int.reduceLT, Int.reduceLE, Int.reduceEq, Int.add_zero, Int.zero_add, Int.sub_zero, w_76_1, w_76_2, w_76_3, w_76_4, w_76_5, w_76_6, w_76_9, show ¬ 600 ≤ c by omega, w, j1, l1, o1]
      have hb2 := r2 Q b2 g1
      rw [g1]
      rcases s_takeSemicolon hT hO hL.2.2.1 with ⟨e, N, g2, n1, n2⟩ | ⟨b4, N, g2, hb4, n1, n2⟩
      · refine Or.inl ⟨e, N, by show bnd (bnd (gSe B n b2) _) _ = _; rw [g2]; rfl, ?_, hL.er hd n2⟩
        simp (maxSteps := 2000000) (disch := first | assumption | omega) only [aft_v, aft_n, aft_t, Nat.add_assoc, Nat.reduceAdd, if_true, if_false, not_true_eq_false, not_false_eq_true, Classical.not_not, Int.reduceAdd, Int.reduceSub, Int.reduceMul, Int.reduceNeg, Int.reduceLT, Int.reduceLE, Int.reduceEq, Int.add_zero, Int.zero_add, Int.sub_zero, w_76_1, w_76_2, w_76_3, w_76_4, w_76_5, w_76_6, w_76_7, w_76_8, w_76_9, show ¬ 600 ≤ c by omega, w, j1, l1, o1, n1]
      have hN := hL.ok hd n2
      refine (ih (c + 1) Q b4 N hN (by omega) (by omega) (by omega)).eq (by show bnd (bnd (gSe B n b2) _) _ = _; rw [g2]; rfl) ?_
      simp (maxSteps := 2000000) (disch := first | assumption | omega) only [aft_v, aft_n, aft_t, Nat.add_assoc, Nat.reduceAdd, if_true, if_false, not_true_eq_false, not_false_eq_true, Classical.not_not, Int.reduceAdd, Int.reduceSub, Int.reduceMul, Int.reduceNeg, Int.reduceLT, Int.reduceLE, Int.reduceEq, Int.add_zero, Int.zero_add, Int.sub_zero, w_76_1, w_76_2, w_76_3, w_76_4, w_76_5, w_76_6, w_76_7, w_76_8, w_76_10, show ¬ 600 ≤ c by omega, w, j1, l1, o1, n1]
    · rw [wdS_n hw] at w
      refine Or.inr ⟨P, b, J, by simp only [gLp, wdS_n hw]; rfl, ?_, h⟩
      by_cases hc : 600 ≤ c
      · simp (maxSteps := 2000000) (disch := first | assumption | omega) only [aft_v, aft_n, aft_t, Nat.add_assoc, Nat.reduceAdd, if_true, if_false, not_true_eq_false, not_false_eq_true, Classical.not_not, Int.reduceAdd, Int.reduceSub, Int.reduceMul, Int.reduceNeg, Int.reduceLT, Int.reduceLE, Int.reduceEq, Int.add_zero, Int.zero_add, Int.sub_zero, w_76_1, w_76_11, hc]
      · simp (maxSteps := 2000000) (disch := first | assumption | omega) only [aft_v, aft_n, aft_t, Nat.add_assoc, Nat.reduceAdd, if_true, if_false, not_true_eq_false, not_false_eq_true, Classical.not_not, Int.reduceAdd, Int.reduceSub, Int.reduceMul, Int.reduceNeg, Int.reduceLT, Int.reduceLE, Int.reduceEq, Int.add_zero, Int.zero_add, Int.sub_zero, w_76_1, w_76_2, w_76_3, w_76_11, hc, w]
theorem s_readSpans (hT : isTx g t) (hq : isPc g q) (hO : txB B n) (hd : q + 17 ≤ t) (hs : ∀ p, 3 ≤ p → p ≤ 20 → isTs g I p) (hx : 64 ≤ q) (h : pst B n t q P b I J) : pan B n t q g I (gLo B n 7 (gSp B n) P b) (cl 76 [.ref t, .ref q] (mk g J)) := by
  have h0 := h.2.2.1.2.2.2.2.2.2.1
  have hn := hO.1.2
  refine (l_readSpans hT hq hO hd hs hx 601 0 P b J h (by decide) h0 (by omega)).eq rfl ?_
  simp (maxSteps := 2000000) (disch := first | assumption | omega) only [aft_v, aft_n, aft_t, Nat.add_assoc, Nat.reduceAdd, if_true, if_false, not_true_eq_false, not_false_eq_true, Classical.not_not, Int.reduceAdd, Int.reduceSub, Int.reduceMul, Int.reduceNeg, Int.reduceLT, Int.reduceLE, Int.reduceEq, Int.add_zero, Int.zero_add, Int.sub_zero, c_76, w_76_0]
end RS
