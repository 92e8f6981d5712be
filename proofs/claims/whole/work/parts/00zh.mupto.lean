/-! The reference: least costs up to each shape; what rests on them. -/
section MU
variable {g : Gm} {I : Mm} {m : Nat} {P : PT}
def UpM (P : PT) (m : Nat) (I : Mm) (e : Int) : Prop := ∀ c, 0 ≤ c → c < cntS P e → I (m + 14) (10 * e + c) = farS (ahS P 0 e c)
theorem s_laysUpTo (hm : isM g m) (hW : Wf P) (hP : P = mv I m) (hS : ∀ e, 0 ≤ e → e < pE P → ShM P m I e) :
    ∃ I', cl 210 [.ref m] (mk g I) = some (.inl none, mk g I') ∧ onl (m + 14) I I' ∧ ∀ e, 0 ≤ e → e < pE P → UpM P m I' e := by
  have hm' := hm
  have hbd := Wf_bd hW
  have w1 := hW.2.1
  have hEP : pE P = I (m + 1) 0 := by rw [hP]; rfl
  obtain ⟨t_0, ⟨t_1, d_1, n_1⟩, ⟨t_2, d_2, n_2⟩, ⟨t_3, d_3, n_3⟩, ⟨t_4, d_4, n_4⟩, ⟨t_5, d_5, n_5⟩, ⟨t_6, n_6⟩, ⟨t_7, d_7, n_7⟩, ⟨t_8, d_8, n_8⟩, ⟨t_9, d_9, n_9⟩, ⟨t_10, d_10, n_10⟩, ⟨t_11, d_11, n_11⟩, ⟨t_12, d_12, n_12⟩, ⟨t_13, d_13, n_13⟩, ⟨t_14, d_14, n_14⟩, ⟨t_15, n_15⟩, ⟨t_16, n_16⟩, ⟨t_17, d_17, n_17⟩, ⟨t_18, d_18, n_18⟩⟩ := hm
  have hev : ∀ K, K (m + 1) = I (m + 1) → cl 182 [.ref m] (mk g K) = some (.inl (some (.int (iI (pE P)))), mk g K) := fun K hK => by rw [hEP, ← hK]; exact s_events hm'
  have outer := loop_up (σ := Mm × Option Value × Option Value × Option Value × Option Value) (head := fun e s => rn 210 1 [some (.ref m), some (.int (iI e)), s.2.1, s.2.2.1, s.2.2.2.1, s.2.2.2.2] [] (mk g s.1))
    (Inv := fun e s => 0 ≤ e ∧ onl (m + 14) I s.1 ∧ ∀ e', 0 ≤ e' → e' < e → UpM P m s.1 e') (n := pE P) (by
    rintro e ⟨K0, o2, o3, o4, o5⟩ hlt ⟨e0, h1, h2⟩
    have h1 : onl (m + 14) I K0 := h1
    have h2 : ∀ e', 0 ≤ e' → e' < e → UpM P m K0 e' := h2
    have n0 := hbd.2.2.1 e e0 hlt
    have inner := loop_up (σ := Mm × Option Value × Option Value × Option Value) (head := fun c s => rn 210 4 [some (.ref m), some (.int (iI e)), some (.int (iI (10 * e + c))), s.2.1, s.2.2.1, s.2.2.2] [] (mk g s.1))
      (Inv := fun c s => 0 ≤ c ∧ onl (m + 14) I s.1 ∧ (∀ e', 0 ≤ e' → e' < e → UpM P m s.1 e') ∧ ∀ c', 0 ≤ c' → c' < c → s.1 (m + 14) (10 * e + c') = farS (ahS P 0 e c')) (n := cntS P e) (by
      rintro c ⟨K, o3, o4, o5⟩ c1 ⟨c0, h1, h2, h3⟩
      have h1 : onl (m + 14) I K := h1
      have h2 : ∀ e', 0 ≤ e' → e' < e → UpM P m K e' := h2
      have h3 : ∀ c', 0 ≤ c' → c' < c → K (m + 14) (10 * e + c') = farS (ahS P 0 e c') := h3
      have km : K (m + 1) = I (m + 1) := h1 _ (by omega)
      have hSK : ∀ e, 0 ≤ e → e < pE P → ShM P m K e := fun e a b => (hS e a b).mono (h1 _ (by omega)) (h1 _ (by omega)) (h1 _ (by omega))
      have k11 : K (m + 11) e = cntS P e := (hSK e e0 hlt).1
      obtain ⟨y1, y2⟩ := (hSK e e0 hlt).2 c c0 c1
      have bO := hbd.2.2.2.1 0 e c e0 hlt
      have nO := it_ok c0 c1
      have fin1 : ∀ v e', 0 ≤ e' → e' < e → UpM P m (upd2 K (m + 14) (10 * e + c) v) e' := fun v e' a b c' ca cb => by
        have nb := hbd.2.2.1 e' a (by omega)
        rw [upd2_i (by omega)]; exact h2 e' a b c' ca cb
      have fin2 : ∀ c', 0 ≤ c' → c' < c + 1 → upd2 K (m + 14) (10 * e + c) (farS (ahS P 0 e c)) (m + 14) (10 * e + c') = farS (ahS P 0 e c') := fun c' a b => by
        by_cases hcc : c' = c
        · subst hcc; exact upd2_at
        · rw [upd2_i (by omega)]; exact h3 c' a (by omega)
      by_cases h0 : e = 0
      · have hv : farS (ahS P 0 e c) = 0 + ownS P 0 e c := by
          rw [h0, ahS_0]; rw [h0] at nO; unfold farS; rw [if_neg nO]; omega
        refine ⟨(upd2 K (m + 14) (10 * e + c) (farS (ahS P 0 e c)), some (.int (iI 0)), some (.int (iI (10 * (e - 1)))), o5), ?_, by omega, h1.upd, fin1 _, fin2⟩
        show rn _ _ _ _ (mk g K) = rn _ _ [_, _, some (.int (iI (10 * e + (c + 1)))), _, _, _] _ _
        rw [hv, ← Int.add_assoc]
        refine (w_210_4 (by first | assumption | omega) (by first | assumption | omega) (by first | assumption | omega) (by first | assumption | omega) (by first | assumption | omega) (by first | assumption | omega) (by first | assumption | omega) (by first | assumption | omega) (by first | assumption | omega)).trans ?_
        rw [k11]
        refine (if_neg (by omega)).trans ?_
        refine (w_210_5 (by first | assumption | omega) (by first | assumption | omega)).trans ?_
        refine (if_neg (by omega)).trans ?_
        refine (w_210_6).trans ?_
        refine (w_210_8).trans ?_
        refine (w_210_9 (by first | assumption | omega) (by first | assumption | omega)).trans ?_
        refine (if_pos (by omega)).trans ?_
        simp (maxSteps := 2000000) (disch := first | assumption | omega) only [aft_v, aft_n, aft_t, Nat.add_assoc, Nat.reduceAdd, if_true, if_false, not_true_eq_false, not_false_eq_true, Classical.not_not, Int.reduceAdd, Int.reduceSub, Int.reduceMul, Int.reduceNeg, Int.reduceLT, Int.reduceLE, Int.reduceEq, Int.add_zero, Int.zero_add, Int.sub_zero, w_210_16, w_210_17, w_210_18, w_210_19, show ¬ (0 : Int) = 1000000000 by decide, y2]
      · have np := hbd.2.2.1 (e - 1) (by omega) (by omega)
        have k11p : K (m + 11) (e - 1) = cntS P (e - 1) := (hSK (e - 1) (by omega) (by omega)).1
        have hst := fun k => st_b hbd (e := e - 1) (c := k) (n := c) (by omega) (by omega)
        have hah := fun k => ahS_b hbd (b := 0) (e := e - 1) (c := k) (by omega) (by omega)
        have hsm := fun k => sum_b (hah k) (hst k) (by decide) (by decide)
        obtain ⟨A, hA⟩ : ∃ A : Int → Int, A = fun i => itI (fun k a => if sumS (ahS P 0 (e - 1) k) (stepS P (e - 1) k c) = -1 then a else min a (sumS (ahS P 0 (e - 1) k) (stepS P (e - 1) k c))) (1000000000 : Int) i := ⟨_, rfl⟩
        have hA0 : A 0 = 1000000000 := by rw [hA]; rfl
        have hAs : ∀ i, 0 ≤ i → A (i + 1) = if sumS (ahS P 0 (e - 1) i) (stepS P (e - 1) i c) = -1 then A i else min (A i) (sumS (ahS P 0 (e - 1) i) (stepS P (e - 1) i c)) := fun i h => by rw [hA]; exact itI_s h
        have hAb : ∀ i, 0 ≤ i → 0 ≤ A i ∧ A i ≤ 1000000000 := fun i h => by
          rw [hA]
          refine itI_ind (fun _ x => 0 ≤ x ∧ x ≤ 1000000000) (by decide) (fun k x _ _ hx => ?_) h
          have := hsm k
          show 0 ≤ (if sumS (ahS P 0 (e - 1) k) (stepS P (e - 1) k c) = -1 then x else min x _) ∧ (if sumS (ahS P 0 (e - 1) k) (stepS P (e - 1) k c) = -1 then x else min x _) ≤ _
          split <;> omega
        have mid := loop_up (σ := Option Value) (head := fun k s => rn 210 9 [some (.ref m), some (.int (iI e)), some (.int (iI (10 * e + c))), some (.int (iI (A k))), some (.int (iI (10 * (e - 1) + k))), s] [] (mk g K)) (Inv := fun k _ => 0 ≤ k) (n := cntS P (e - 1)) (by
          intro k s k1 k0
          obtain ⟨x1, x2⟩ := (hSK (e - 1) (by omega) (by omega)).2 k k0 k1
          have hU := h2 (e - 1) (by omega) (by omega) k k0 k1
          have b1 := itS_b (P := P) (e := e) (c := c) n0.1
          have b0 := itS_b (P := P) (e := e - 1) (c := k) np.1
          have hpa := s_passage (g := g) (I := K) (e := e - 1) (its := itS P (e - 1) k) (thn := itS P e c) hm' (by rw [show mv K m = P by rw [hP]; unfold mv; rw [km]]; exact hW) (by rw [show mv K m = P by rw [hP]; unfold mv; rw [km]]; omega) b0 b1
          have hst9 : passS (mv K m) (e - 1) (pRe (mv K m) (e - 1)) (fgS (itS P (e - 1) k)) (fgS (itS P e c)) = stepS P (e - 1) k c := by
            rw [show mv K m = P by rw [hP]; unfold mv; rw [km]]; unfold stepS stepW fgP; rw [show e - 1 + 1 = e by omega]
          rw [hst9] at hpa
          have bs := hst k
          have ba := hah k
          have fb := far_b ba (by decide)
          have ab := hAb k k0
          refine ⟨some (.int (iI (stepS P (e - 1) k c))), ?_, by omega⟩
          show rn _ _ _ _ _ = rn _ _ [_, _, _, _, some (.int (iI (10 * (e - 1) + (k + 1)))), _] _ _
          rw [hAs k k0, ← Int.add_assoc]
          refine (w_210_9 (by first | assumption | omega) (by first | assumption | omega)).trans ?_
          refine (if_neg (by omega)).trans ?_
          refine (w_210_10 (by first | assumption | omega) (by first | assumption | omega) (by first | assumption | omega) (by first | assumption | omega) (by first | assumption | omega) (by first | assumption | omega) (by first | assumption | omega) (by first | assumption | omega) (by first | assumption | omega)).trans ?_
          rw [k11p]
          refine (if_neg (by omega)).trans ?_
          by_cases c1 : stepS P (e - 1) k c = -1
          · have hs : sumS (ahS P 0 (e - 1) k) (stepS P (e - 1) k c) = -1 := by unfold sumS; rw [if_pos (Or.inr c1)]
            rw [if_pos hs]
            rw [c1] at hpa ⊢
            simp (maxSteps := 2000000) (disch := first | assumption | omega) only [aft_v, aft_n, aft_t, Nat.add_assoc, Nat.reduceAdd, if_true, if_false, not_true_eq_false, not_false_eq_true, Classical.not_not, Int.reduceAdd, Int.reduceSub, Int.reduceMul, Int.reduceNeg, Int.reduceLT, Int.reduceLE, Int.reduceEq, Int.add_zero, Int.zero_add, Int.sub_zero, w_210_11, w_210_12, w_210_15, x1, y1, hpa]
          · by_cases c2 : ahS P 0 (e - 1) k = -1
            · have hs : sumS (ahS P 0 (e - 1) k) (stepS P (e - 1) k c) = -1 := by unfold sumS; rw [if_pos (Or.inl c2)]
              have hU : K (m + 14) (10 * (e - 1) + k) = 1000000000 := by rw [hU, c2]; rfl
              rw [if_pos hs]
              simp (maxSteps := 2000000) (disch := first | assumption | omega) only [aft_v, aft_n, aft_t, Nat.add_assoc, Nat.reduceAdd, if_true, if_false, not_true_eq_false, not_false_eq_true, Classical.not_not, Int.reduceAdd, Int.reduceSub, Int.reduceMul, Int.reduceNeg, Int.reduceLT, Int.reduceLE, Int.reduceEq, Int.add_zero, Int.zero_add, Int.sub_zero, w_210_11, w_210_12, w_210_13, w_210_15, x1, y1, hpa, c1, hU]
            · have hs : sumS (ahS P 0 (e - 1) k) (stepS P (e - 1) k c) = ahS P 0 (e - 1) k + stepS P (e - 1) k c := by unfold sumS; rw [if_neg (fun z => by rcases z with z | z; exact c2 z; exact c1 z)]
              have hU : K (m + 14) (10 * (e - 1) + k) = ahS P 0 (e - 1) k := by rw [hU]; unfold farS; rw [if_neg c2]
              rw [hs, if_neg (by omega)]
              simp (maxSteps := 2000000) (disch := first | assumption | omega) only [aft_v, aft_n, aft_t, Nat.add_assoc, Nat.reduceAdd, if_true, if_false, not_true_eq_false, not_false_eq_true, Classical.not_not, Int.reduceAdd, Int.reduceSub, Int.reduceMul, Int.reduceNeg, Int.reduceLT, Int.reduceLE, Int.reduceEq, Int.add_zero, Int.zero_add, Int.sub_zero, w_210_11, w_210_12, w_210_13, w_210_14, w_210_15, x1, y1, hpa, c1, hU, if_neg (show ¬ 1000000000 ≤ ahS P 0 (e - 1) k by omega)]) 0 o5 np.2.1 (Int.le_refl _)
        obtain ⟨p5, e1, -⟩ := mid
        have e1 : rn 210 9 [some (.ref m), some (.int (iI e)), some (.int (iI (10 * e + c))), some (.int (iI (A 0))), some (.int (iI (10 * (e - 1) + 0))), o5] [] (mk g K) = rn 210 9 [some (.ref m), some (.int (iI e)), some (.int (iI (10 * e + c))), some (.int (iI (A (cntS P (e - 1))))), some (.int (iI (10 * (e - 1) + cntS P (e - 1)))), p5] [] (mk g K) := e1
        rw [hA0, Int.add_zero] at e1
        obtain ⟨M, hM⟩ : ∃ M : Int, M = mnI (fun k => sumS (ahS P 0 (e - 1) k) (stepS P (e - 1) k c)) (cntS P (e - 1)) := ⟨_, rfl⟩
        have hAl : A (cntS P (e - 1)) = farS M := by
          rw [hA, hM]
          exact mn_far (f := fun k => sumS (ahS P 0 (e - 1) k) (stepS P (e - 1) k c)) np.2.1 (fun k _ _ => by have := hsm k; omega)
        have hMb := mnI_b (f := fun k => sumS (ahS P 0 (e - 1) k) (stepS P (e - 1) k c)) (n := cntS P (e - 1)) (A := 1200000 + 21384) np.2.1 (by decide) (fun k _ _ => hsm k)
        rw [← hM] at hMb
        have hae : ahS P 0 e c = sumS M (ownS P 0 e c) := by rw [hM]; exact ahS_s (by omega)
        rw [hAl] at e1
        have start : rn 210 4 [some (.ref m), some (.int (iI e)), some (.int (iI (10 * e + c))), o3, o4, o5] [] (mk g K) = rn 210 9 [some (.ref m), some (.int (iI e)), some (.int (iI (10 * e + c))), some (.int (iI (farS M))), some (.int (iI (10 * (e - 1) + cntS P (e - 1)))), p5] [] (mk g K) := by
          refine (w_210_4 (by first | assumption | omega) (by first | assumption | omega) (by first | assumption | omega) (by first | assumption | omega) (by first | assumption | omega) (by first | assumption | omega) (by first | assumption | omega) (by first | assumption | omega) (by first | assumption | omega)).trans ?_
          rw [k11]
          refine (if_neg (by omega)).trans ?_
          refine (w_210_5 (by first | assumption | omega) (by first | assumption | omega)).trans ?_
          refine (if_pos (by omega)).trans ?_
          refine (w_210_7).trans ?_
          refine (w_210_8).trans ?_
          exact e1
        have fin9 : ∀ v, rn 210 16 [some (.ref m), some (.int (iI e)), some (.int (iI (10 * e + c))), some (.int (iI (farS M))), some (.int (iI (10 * (e - 1) + cntS P (e - 1)))), p5] [] (mk g K) = v → rn 210 9 [some (.ref m), some (.int (iI e)), some (.int (iI (10 * e + c))), some (.int (iI (farS M))), some (.int (iI (10 * (e - 1) + cntS P (e - 1)))), p5] [] (mk g K) = v := by
          intro v hv
          refine (w_210_9 (by first | assumption | omega) (by first | assumption | omega)).trans ?_
          refine (if_neg (by omega)).trans ?_
          refine (w_210_10 (by first | assumption | omega) (by first | assumption | omega) (by first | assumption | omega) (by first | assumption | omega) (by first | assumption | omega) (by first | assumption | omega) (by first | assumption | omega) (by first | assumption | omega) (by first | assumption | omega)).trans ?_
          rw [k11p]
          refine (if_pos (by omega)).trans ?_
          exact hv
        refine ⟨(upd2 K (m + 14) (10 * e + c) (farS (ahS P 0 e c)), some (.int (iI (farS M))), some (.int (iI (10 * (e - 1) + cntS P (e - 1)))), p5), ?_, by omega, h1.upd, fin1 _, fin2⟩
        show rn _ _ _ _ (mk g K) = rn _ _ [_, _, some (.int (iI (10 * e + (c + 1)))), _, _, _] _ _
        rw [← Int.add_assoc, start]
        refine fin9 _ ?_
        by_cases cM : M = -1
        · have f1 : farS M = 1000000000 := by rw [cM]; rfl
          have f2 : farS (ahS P 0 e c) = 1000000000 := by rw [hae]; unfold sumS; rw [if_pos (Or.inl cM)]; rfl
          rw [f1, f2]
          simp (maxSteps := 2000000) (disch := first | assumption | omega) only [aft_v, aft_n, aft_t, Nat.add_assoc, Nat.reduceAdd, if_true, if_false, not_true_eq_false, not_false_eq_true, Classical.not_not, Int.reduceAdd, Int.reduceSub, Int.reduceMul, Int.reduceNeg, Int.reduceLT, Int.reduceLE, Int.reduceEq, Int.add_zero, Int.zero_add, Int.sub_zero, w_210_16, w_210_17, w_210_19]
        · have f1 : farS M = M := by unfold farS; rw [if_neg cM]
          have f3 : sumS M (ownS P 0 e c) = M + ownS P 0 e c := by unfold sumS; rw [if_neg (fun (z : M = -1 ∨ ownS P 0 e c = -1) => z.elim cM nO)]
          have f2 : farS (ahS P 0 e c) = M + ownS P 0 e c := by rw [hae, f3]; unfold farS; rw [if_neg (by omega)]
          rw [f1, f2]
          simp (maxSteps := 2000000) (disch := first | assumption | omega) only [aft_v, aft_n, aft_t, Nat.add_assoc, Nat.reduceAdd, if_true, if_false, not_true_eq_false, not_false_eq_true, Classical.not_not, Int.reduceAdd, Int.reduceSub, Int.reduceMul, Int.reduceNeg, Int.reduceLT, Int.reduceLE, Int.reduceEq, Int.add_zero, Int.zero_add, Int.sub_zero, w_210_16, w_210_18, w_210_19, if_pos (show ¬ M = 1000000000 by omega), y2]) 0 (K0, o3, o4, o5) n0.2.1 ⟨Int.le_refl _, h1, h2, fun c' a b => by omega⟩
    obtain ⟨⟨K, p3, p4, p5⟩, e1, -, k1, k2, k3⟩ := inner
    have e1 : rn 210 4 [some (.ref m), some (.int (iI e)), some (.int (iI (10 * e + 0))), o3, o4, o5] [] (mk g K0) = rn 210 4 [some (.ref m), some (.int (iI e)), some (.int (iI (10 * e + cntS P e))), p3, p4, p5] [] (mk g K) := e1
    rw [Int.add_zero] at e1
    have k1 : onl (m + 14) I K := k1
    have k11 : K (m + 11) e = cntS P e := by rw [k1 _ (by omega)]; exact (hS e e0 hlt).1
    refine ⟨(K, some (.int (iI (10 * e + cntS P e))), p3, p4, p5), ?_, by omega, k1, fun e' a b => ?_⟩
    · show rn _ _ _ _ (mk g K0) = rn _ _ _ _ _
      refine (w_210_1 (by first | assumption | omega)).trans ?_
      rw [hev K0 (h1 _ (by omega)), aft_v]
      refine (w_210_2 (by first | assumption | omega) (by first | assumption | omega) (by first | assumption | omega) (by first | assumption | omega)).trans ?_
      refine (if_neg (by omega)).trans ?_
      refine (w_210_3).trans ?_
      rw [e1]
      refine (w_210_4 (by first | assumption | omega) (by first | assumption | omega) (by first | assumption | omega) (by first | assumption | omega) (by first | assumption | omega) (by first | assumption | omega) (by first | assumption | omega) (by first | assumption | omega) (by first | assumption | omega)).trans ?_
      rw [k11]
      refine (if_pos (by omega)).trans ?_
      simp (maxSteps := 2000000) (disch := first | assumption | omega) only [aft_v, aft_n, aft_t, Nat.add_assoc, Nat.reduceAdd, if_true, if_false, not_true_eq_false, not_false_eq_true, Classical.not_not, Int.reduceAdd, Int.reduceSub, Int.reduceMul, Int.reduceNeg, Int.reduceLT, Int.reduceLE, Int.reduceEq, Int.add_zero, Int.zero_add, Int.sub_zero, w_210_20]
    · by_cases hee : e' = e
      · subst hee; exact k3
      · exact k2 e' a (by omega)) 0 (I, none, none, none, none) w1.1 ⟨Int.le_refl _, onl.refl, fun e' a b => by omega⟩
  obtain ⟨⟨K, o2, o3, o4, o5⟩, e1, -, k1, k2⟩ := outer
  have e1 : rn 210 1 [some (.ref m), some (.int (iI 0)), none, none, none, none] [] (mk g I) = rn 210 1 [some (.ref m), some (.int (iI (pE P))), o2, o3, o4, o5] [] (mk g K) := e1
  have k1 : onl (m + 14) I K := k1
  refine ⟨K, ?_, k1, k2⟩
  simp (maxSteps := 2000000) (disch := first | assumption | omega) only [aft_v, aft_n, aft_t, Nat.add_assoc, Nat.reduceAdd, if_true, if_false, not_true_eq_false, not_false_eq_true, Classical.not_not, Int.reduceAdd, Int.reduceSub, Int.reduceMul, Int.reduceNeg, Int.reduceLT, Int.reduceLE, Int.reduceEq, Int.add_zero, Int.zero_add, Int.sub_zero, c_210, w_210_0]
  rw [e1]
  refine (w_210_1 (by first | assumption | omega)).trans ?_
  rw [hev K (k1 _ (by omega)), aft_v]
  refine (w_210_2 (by first | assumption | omega) (by first | assumption | omega) (by first | assumption | omega) (by first | assumption | omega)).trans ?_
  refine (if_pos (by omega)).trans ?_
  simp (maxSteps := 2000000) (disch := first | assumption | omega) only [aft_v, aft_n, aft_t, Nat.add_assoc, Nat.reduceAdd, if_true, if_false, not_true_eq_false, not_false_eq_true, Classical.not_not, Int.reduceAdd, Int.reduceSub, Int.reduceMul, Int.reduceNeg, Int.reduceLT, Int.reduceLE, Int.reduceEq, Int.add_zero, Int.zero_add, Int.sub_zero, w_210_21]
end MU
