/-! costOfTold and faultOfTold of the reference. -/
section MC
variable {g : Gm} {I J : Mm} {m : Nat} {P : PT} {F : Int → Int → Int} {B : Int → Int} {n : Int}
/-- told fingers lie in the reference's row -/
def tRowM (J : Mm) (m : Nat) (P : PT) (F : Int → Int → Int) : Prop := ∀ e, 0 ≤ e → e < pE P → J (m + 17) e = tA P F e
def tSt (m : Nat) (P : PT) (F : Int → Int → Int) (J K : Mm) : Prop := onl (m + 8) J K ∧ mv K m = P ∧ tRowM K m P F
theorem tSt_0 (hP : mv J m = P) (hR : tRowM J m P F) : tSt m P F J J := ⟨fun _ _ => rfl, hP, hR⟩
theorem s_mcostE {e : Int} {K : Mm} (hm : isM g m) (hW : Wf P) (hF : tOk P F) (h : tSt m P F J K) (e0 : 0 ≤ e) (e1 : e < pE P) : ∃ K', cl 238 [.ref m, .int (iI e)] (mk g K) = some (.inl (some (.int (iI (tcE P F e)))), mk g K') ∧ tSt m P F J K' := by
  have hm' := hm
  obtain ⟨t_0, ⟨t_1, d_1, n_1⟩, ⟨t_2, d_2, n_2⟩, ⟨t_3, d_3, n_3⟩, ⟨t_4, d_4, n_4⟩, ⟨t_5, d_5, n_5⟩, ⟨t_6, n_6⟩, ⟨t_7, d_7, n_7⟩, ⟨t_8, d_8, n_8⟩, ⟨t_9, d_9, n_9⟩, ⟨t_10, d_10, n_10⟩, ⟨t_11, d_11, n_11⟩, ⟨t_12, d_12, n_12⟩, ⟨t_13, d_13, n_13⟩, ⟨t_14, d_14, n_14⟩, ⟨t_15, n_15⟩, ⟨t_16, n_16⟩, ⟨t_17, d_17, n_17⟩, ⟨t_18, d_18, n_18⟩⟩ := hm
  obtain ⟨a, b, c⟩ := h
  have he := hW.2.1
  have z := hW.2.2.1 e e0 e1
  have ta := tA_b hF e0 e1
  have hn : K (m + 1) (42 + 8 * e) = pSz P e := by rw [← b]; rfl
  have qn := s_notesOf (g := g) (I := K) (m := m) (e := e) hm' (by omega)
  rw [hn] at qn
  obtain ⟨L, l1, l2, l3⟩ := s_looksAt (g := g) (I := K) (m := m) (its := tA P F e) (n := pSz P e) hm' ta z.1
  have lv : mv L m = P := by rw [← b]; unfold mv; rw [l2 (m + 1) (by omega)]
  have q := s_costHere (g := g) (I := L) (m := m) (e := e) hm' (by rw [lv]; exact hW) (by rw [lv]; exact ⟨e0, e1⟩) (fun k k0 k1 => by rw [lv] at k1; rw [l3 k k0 k1]; exact fgS_b ta.1 ta.2)
  rw [lv] at q
  have ef : ecostS P e 0 (L (m + 8)) = tcE P F e := ecost_F z.1.1 (fun k k0 k1 _ => l3 k k0 k1)
  rw [ef] at q
  have ke : K (m + 17) e = tA P F e := c e e0 e1
  refine ⟨L, ?_, fun p hp => (l2 p hp).trans (a p hp), lv, fun i i0 i1 => by rw [l2 _ (by omega)]; exact c i i0 i1⟩
  refine c_238.trans ?_
  refine (w_238_0 (by first | omega | assumption) (by first | omega | assumption) (by first | omega | assumption) (by first | omega | assumption) (by first | omega | assumption)).trans ?_
  rw [ke, qn, aft_v]
  simp (maxSteps := 2000000) (disch := first | assumption | omega) only [aft_v, aft_n, aft_t, Nat.add_assoc, Nat.reduceAdd, if_true, if_false, not_true_eq_false, not_false_eq_true, Classical.not_not, Int.reduceAdd, Int.reduceSub, Int.reduceMul, Int.reduceNeg, Int.reduceLT, Int.reduceLE, Int.reduceEq, Int.add_zero, Int.zero_add, Int.sub_zero, w_238_1, w_238_2, w_238_3, l1, q]
theorem s_mcostP {e : Int} {K : Mm} (hm : isM g m) (hW : Wf P) (hF : tOk P F) (h : tSt m P F J K) (e0 : 1 ≤ e) (e1 : e < pE P) : cl 205 [.ref m, .int (iI (e - 1)), .int (iI (tA P F (e - 1))), .int (iI (tA P F e))] (mk g K) = some (.inl (some (.int (iI (tcP P F e)))), mk g K) := by
  obtain ⟨a, b, c⟩ := h
  have q := s_passage (g := g) (I := K) (m := m) (e := e - 1) (its := tA P F (e - 1)) (thn := tA P F e) hm (by rw [b]; exact hW) (by rw [b]; omega) (tA_b hF (by omega) (by omega)) (tA_b hF (by omega) e1)
  rw [b] at q
  have et : tcP P F e = passS P (e - 1) (pRe P (e - 1)) (fgS (tA P F (e - 1))) (fgS (tA P F e)) := if_neg (by omega)
  rw [et]
  exact q
theorem s_faultNow (hm : isM g m) (hW : Wf P) (hF : tOk P F) (hP : mv J m = P) (hR : tRowM J m P F) : ∃ K, cl 239 [.ref m] (mk g J) = some (.inl (some (.int (iI (tfV P F)))), mk g K) ∧ tSt m P F J K := by
  have hm' := hm
  obtain ⟨t_0, ⟨t_1, d_1, n_1⟩, ⟨t_2, d_2, n_2⟩, ⟨t_3, d_3, n_3⟩, ⟨t_4, d_4, n_4⟩, ⟨t_5, d_5, n_5⟩, ⟨t_6, n_6⟩, ⟨t_7, d_7, n_7⟩, ⟨t_8, d_8, n_8⟩, ⟨t_9, d_9, n_9⟩, ⟨t_10, d_10, n_10⟩, ⟨t_11, d_11, n_11⟩, ⟨t_12, d_12, n_12⟩, ⟨t_13, d_13, n_13⟩, ⟨t_14, d_14, n_14⟩, ⟨t_15, n_15⟩, ⟨t_16, n_16⟩, ⟨t_17, d_17, n_17⟩, ⟨t_18, d_18, n_18⟩⟩ := hm
  have he := hW.2.1
  have qe : ∀ K, tSt m P F J K → cl 182 [.ref m] (mk g K) = some (.inl (some (.int (iI (pE P)))), mk g K) := fun K h => by
    have q := s_events (g := g) (I := K) hm'
    rw [show K (m + 1) 0 = pE P by rw [← h.2.1]; rfl] at q
    exact q
  have key : ∀ L : Int, 0 ≤ L → L ≤ pE P → (∀ e, 0 ≤ e → e < L → ¬ (tcE P F e = -1 ∨ tcP P F e = -1)) → ∃ K, rn 239 1 [some (.ref m), some (.int (iI 0))] [] (mk g J) = rn 239 1 [some (.ref m), some (.int (iI L))] [] (mk g K) ∧ tSt m P F J K := fun L L0 L1 hL => by
    obtain ⟨s, k1, k2⟩ := loop_up (σ := Mm) (head := fun i s => rn 239 1 [some (.ref m), some (.int (iI i))] [] (mk g s)) (Inv := fun i s => 0 ≤ i ∧ tSt m P F J s) (n := L) (by
      rintro i s i1 ⟨i0, hs⟩
      have hn := hL i i0 i1
      have bE := tcE_b hW hF i0 (by omega)
      have bP := tcP_b hW hF i0 (by omega)
      obtain ⟨K, c1, c2⟩ := s_mcostE (J := J) hm' hW hF hs i0 (by omega)
      refine ⟨K, ?_, by omega, c2⟩
      show rn _ _ _ _ _ = rn _ _ _ _ _
      refine (w_239_1 (by first | omega | assumption)).trans ?_
      rw [qe s hs, aft_v]
      refine (w_239_2 (by first | omega | assumption) (by first | omega | assumption) (by first | omega | assumption) (by first | omega | assumption)).trans ?_
      refine (if_neg (by omega)).trans ?_
      refine (w_239_3 (by first | omega | assumption)).trans ?_
      rw [c1, aft_v]
      refine (w_239_4 (by first | omega | assumption) (by first | omega | assumption)).trans ?_
      refine (if_pos (by omega)).trans ?_
      refine (w_239_6 (by first | omega | assumption) (by first | omega | assumption)).trans ?_
      by_cases h0 : i ≤ 0
      · rw [if_pos h0]
        exact w_239_10
      · rw [if_neg h0]
        have cp := s_mcostP (g := g) hm' hW hF c2 (show 1 ≤ i by omega) (by omega)
        have r1 := c2.2.2 i i0 (by omega)
        have r2 := c2.2.2 (i - 1) (by omega) (by omega)
        refine (w_239_7 (by first | omega | assumption) (by first | omega | assumption) (by first | omega | assumption) (by first | omega | assumption) (by first | omega | assumption) (by first | omega | assumption) (by first | omega | assumption) (by first | omega | assumption)).trans ?_
        rw [r1, r2, cp, aft_v]
        refine (w_239_8 (by first | omega | assumption) (by first | omega | assumption)).trans ?_
        refine (if_pos (by omega)).trans ?_
        exact w_239_10) 0 J L0 ⟨Int.le_refl _, tSt_0 hP hR⟩
    exact ⟨s, k1, k2.2⟩
  have start : cl 239 [.ref m] (mk g J) = rn 239 1 [some (.ref m), some (.int (iI 0))] [] (mk g J) := by
    simp (maxSteps := 2000000) (disch := first | assumption | omega) only [aft_v, aft_n, aft_t, Nat.add_assoc, Nat.reduceAdd, if_true, if_false, not_true_eq_false, not_false_eq_true, Classical.not_not, Int.reduceAdd, Int.reduceSub, Int.reduceMul, Int.reduceNeg, Int.reduceLT, Int.reduceLE, Int.reduceEq, Int.add_zero, Int.zero_add, Int.sub_zero, c_239, w_239_0]
  rw [start]
  rcases tf_b (P := P) (F := F) hW with ⟨a, c⟩ | ⟨a, c, d⟩
  · obtain ⟨K, k1, k2⟩ := key (pE P) he.1 (Int.le_refl _) c
    refine ⟨K, ?_, k2⟩
    have ev : tfV P F = -1 := by unfold tfV; rw [a]; rfl
    rw [k1, ev]
    refine (w_239_1 (by first | omega | assumption)).trans ?_
    rw [qe K k2, aft_v]
    refine (w_239_2 (by first | omega | assumption) (by first | omega | assumption) (by first | omega | assumption) (by first | omega | assumption)).trans ?_
    refine (if_pos (by omega)).trans ?_
    simp (maxSteps := 2000000) (disch := first | assumption | omega) only [aft_v, aft_n, aft_t, Nat.add_assoc, Nat.reduceAdd, if_true, if_false, not_true_eq_false, not_false_eq_true, Classical.not_not, Int.reduceAdd, Int.reduceSub, Int.reduceMul, Int.reduceNeg, Int.reduceLT, Int.reduceLE, Int.reduceEq, Int.add_zero, Int.zero_add, Int.sub_zero, w_239_11]
  · obtain ⟨K, k1, k2⟩ := key (tfL P F) a.1 (by omega) d
    have ev : tfV P F = if tcE P F (tfL P F) = -1 then 10 * tfL P F + 1 else 10 * tfL P F + 2 := by
      have hl : ¬ tfL P F < 0 := by omega
      exact if_neg hl
    obtain ⟨i, hi⟩ : ∃ i, i = tfL P F := ⟨_, rfl⟩
    rw [← hi] at k1 a c ev
    have bE := tcE_b hW hF a.1 a.2
    have bP := tcP_b hW hF a.1 a.2
    obtain ⟨K2, c1, c2⟩ := s_mcostE (J := J) hm' hW hF k2 a.1 a.2
    refine ⟨K2, ?_, c2⟩
    rw [k1, ev]
    refine (w_239_1 (by first | omega | assumption)).trans ?_
    rw [qe K k2, aft_v]
    refine (w_239_2 (by first | omega | assumption) (by first | omega | assumption) (by first | omega | assumption) (by first | omega | assumption)).trans ?_
    refine (if_neg (by omega)).trans ?_
    refine (w_239_3 (by first | omega | assumption)).trans ?_
    rw [c1, aft_v]
    refine (w_239_4 (by first | omega | assumption) (by first | omega | assumption)).trans ?_
    by_cases h : tcE P F i = -1
    · rw [if_pos h, if_neg (by omega)]
      simp (maxSteps := 2000000) (disch := first | assumption | omega) only [aft_v, aft_n, aft_t, Nat.add_assoc, Nat.reduceAdd, if_true, if_false, not_true_eq_false, not_false_eq_true, Classical.not_not, Int.reduceAdd, Int.reduceSub, Int.reduceMul, Int.reduceNeg, Int.reduceLT, Int.reduceLE, Int.reduceEq, Int.add_zero, Int.zero_add, Int.sub_zero, w_239_5]
    · rw [if_neg h, if_pos h]
      have h' := c.resolve_left h
      have h0 : ¬ i ≤ 0 := fun z => by
        have : tcP P F i = 0 := if_pos z
        omega
      have cp := s_mcostP (g := g) hm' hW hF c2 (show 1 ≤ i by omega) a.2
      have r1 := c2.2.2 i a.1 a.2
      have r2 := c2.2.2 (i - 1) (by omega) (by omega)
      refine (w_239_6 (by first | omega | assumption) (by first | omega | assumption)).trans ?_
      refine (if_neg (by omega)).trans ?_
      refine (w_239_7 (by first | omega | assumption) (by first | omega | assumption) (by first | omega | assumption) (by first | omega | assumption) (by first | omega | assumption) (by first | omega | assumption) (by first | omega | assumption) (by first | omega | assumption)).trans ?_
      rw [r1, r2, cp, aft_v]
      refine (w_239_8 (by first | omega | assumption) (by first | omega | assumption)).trans ?_
      refine (if_neg (by omega)).trans ?_
      simp (maxSteps := 2000000) (disch := first | assumption | omega) only [aft_v, aft_n, aft_t, Nat.add_assoc, Nat.reduceAdd, if_true, if_false, not_true_eq_false, not_false_eq_true, Classical.not_not, Int.reduceAdd, Int.reduceSub, Int.reduceMul, Int.reduceNeg, Int.reduceLT, Int.reduceLE, Int.reduceEq, Int.add_zero, Int.zero_add, Int.sub_zero, w_239_9]
/-- what telling fingers leaves behind in the reference -/
def tdM (m : Nat) (v : Int) (I J : Mm) : Prop := (∀ p, ¬ p = m → ¬ p = m + 8 → ¬ p = m + 17 → J p = I p) ∧ J m 7 = 0 ∧ J m 9 = 0 ∧ J m 16 = v ∧ (∀ i, ¬ i = 7 → ¬ i = 9 → ¬ i = 10 → ¬ i = 11 → ¬ i = 12 → ¬ i = 13 → ¬ i = 14 → ¬ i = 15 → ¬ i = 16 → J m i = I m i)
theorem s_mcostOfTold (hm : isM g m) (hO : txB B n) (h7 : I (m + 7) = B) (h9 : I m 9 = n) (hP : P = mv I m) (hW : Wf P) :
    (∃ e J, gTl B n P = .inl e ∧ cl 240 [.ref m] (mk g I) = some (.inl (some (.int (iI e.1))), mk g J) ∧ tdM m e.2 I J) ∨ ∃ F J, gTl B n P = .inr F ∧ cl 240 [.ref m] (mk g I) = some (.inl (some (.int (iI (tcV P F)))), mk g J) ∧ tdM m (-1) I J := by
  have hm' := hm
  have hr := s_readsFingers (g := g) hm hO h7 h9 hP hW
  have he := hW.2.1
  obtain ⟨t_0, ⟨t_1, d_1, n_1⟩, ⟨t_2, d_2, n_2⟩, ⟨t_3, d_3, n_3⟩, ⟨t_4, d_4, n_4⟩, ⟨t_5, d_5, n_5⟩, ⟨t_6, n_6⟩, ⟨t_7, d_7, n_7⟩, ⟨t_8, d_8, n_8⟩, ⟨t_9, d_9, n_9⟩, ⟨t_10, d_10, n_10⟩, ⟨t_11, d_11, n_11⟩, ⟨t_12, d_12, n_12⟩, ⟨t_13, d_13, n_13⟩, ⟨t_14, d_14, n_14⟩, ⟨t_15, n_15⟩, ⟨t_16, n_16⟩, ⟨t_17, d_17, n_17⟩, ⟨t_18, d_18, n_18⟩⟩ := hm
  rcases hr with ⟨e, K, g1, k1, k2, k3, k4, k5, k6, k7, k8⟩ | ⟨F, K, g1, k1, k2, k4, k5, k6, k7, k8, k9⟩
  · have hn : ¬ e.1 = 0 := by omega
    refine Or.inl ⟨e, K, g1, ?_, fun p a b c => k2 p a c, k7, k6, k5, k8⟩
    simp (maxSteps := 2000000) (disch := first | assumption | omega) only [aft_v, aft_n, aft_t, Nat.add_assoc, Nat.reduceAdd, if_true, if_false, not_true_eq_false, not_false_eq_true, Classical.not_not, Int.reduceAdd, Int.reduceSub, Int.reduceMul, Int.reduceNeg, Int.reduceLT, Int.reduceLE, Int.reduceEq, Int.add_zero, Int.zero_add, Int.sub_zero, c_240, w_240_0, w_240_1, w_240_2, k1, k4, hn]
  · have hF : tOk P F := gTl_ok g1
    have kv : mv K m = P := by rw [hP]; unfold mv; rw [k2 (m + 1) (by omega) (by omega)]
    obtain ⟨L, l1, l2⟩ := s_faultNow (g := g) hm' hW hF kv k9
    have lm : ∀ M, tSt m P F K M → tdM m (-1) I M := fun M hM => ⟨fun p a b c => (hM.1 p b).trans (k2 p a c), by rw [hM.1 m (by omega)]; exact k7, by rw [hM.1 m (by omega)]; exact k6, by rw [hM.1 m (by omega)]; exact k5, by rw [hM.1 m (by omega)]; exact k8⟩
    have qe : ∀ M, tSt m P F K M → cl 182 [.ref m] (mk g M) = some (.inl (some (.int (iI (pE P)))), mk g M) := fun M h => by
      have q := s_events (g := g) (I := M) hm'
      rw [show M (m + 1) 0 = pE P by rw [← h.2.1]; rfl] at q
      exact q
    have fb : ∀ v, v = tfV P F → -2147483648 ≤ v ∧ v < 2147483648 := fun v hv => by
      rw [hv]; unfold tfV
      rcases tf_b (P := P) (F := F) hW with ⟨a, _⟩ | ⟨a, _⟩
      · have hl : tfL P F < 0 := by omega
        rw [if_pos hl]; decide
      · have hl : ¬ tfL P F < 0 := by omega
        rw [if_neg hl]
        by_cases h : tcE P F (tfL P F) = -1
        · rw [if_pos h]; omega
        · rw [if_neg h]; omega
    have fbb := fb _ rfl
    have start : cl 240 [.ref m] (mk g I) = if tfV P F = -1 then rn 240 6 [some (.ref m), none, none] [] (mk g L) else rn 240 5 [some (.ref m), none, none] [] (mk g L) := by
      simp (maxSteps := 2000000) (disch := first | assumption | omega) only [aft_v, aft_n, aft_t, Nat.add_assoc, Nat.reduceAdd, if_true, if_false, not_true_eq_false, not_false_eq_true, Classical.not_not, Int.reduceAdd, Int.reduceSub, Int.reduceMul, Int.reduceNeg, Int.reduceLT, Int.reduceLE, Int.reduceEq, Int.add_zero, Int.zero_add, Int.sub_zero, c_240, w_240_0, w_240_1, w_240_3, k1, k4, l1]
      exact w_240_4 (by first | assumption | omega) (by first | assumption | omega)
    rw [start]
    rcases tf_b (P := P) (F := F) hW with ⟨a, c⟩ | ⟨a, c, d⟩
    · have ev : tfV P F = -1 := by unfold tfV; rw [a]; rfl
      have ec : tcV P F = sumN (fun e => tcE P F e + tcP P F e) (pE P).toNat := by unfold tcV; rw [a]; rfl
      obtain ⟨s, s1, s2⟩ := loop_up (σ := Int × Mm) (head := fun i s => rn 240 7 [some (.ref m), some (.int (iI s.1)), some (.int (iI i))] [] (mk g s.2)) (Inv := fun i s => 0 ≤ i ∧ s.1 = sumN (fun e => tcE P F e + tcP P F e) i.toNat ∧ tSt m P F K s.2) (n := pE P) (by
        rintro i ⟨s, M⟩ i1 ⟨i0, hs, hM⟩
        have hM : tSt m P F K M := hM
        have hs : s = sumN (fun e => tcE P F e + tcP P F e) i.toNat := hs
        obtain ⟨M2, c1, c2⟩ := s_mcostE (J := K) hm' hW hF hM i0 i1
        have hsum : s + (tcE P F i + tcP P F i) = sumN (fun e => tcE P F e + tcP P F e) (i + 1).toNat := by
          rw [show (i + 1).toNat = i.toNat + 1 by omega]
          show s + _ = sumN (fun e => tcE P F e + tcP P F e) i.toNat + (tcE P F (i.toNat : Int) + tcP P F (i.toNat : Int))
          rw [show ((i.toNat : Nat) : Int) = i by omega, hs]
        refine ⟨(s + (tcE P F i + tcP P F i), M2), ?_, by omega, hsum, c2⟩
        show rn _ _ _ _ _ = rn _ _ _ _ _
        refine (w_240_7 (by first | omega | assumption)).trans ?_
        rw [qe M hM, aft_v]
        refine (w_240_8 (by first | omega | assumption) (by first | omega | assumption) (by first | omega | assumption) (by first | omega | assumption)).trans ?_
        refine (if_neg (by omega)).trans ?_
        refine (w_240_9 (by first | omega | assumption)).trans ?_
        rw [c1, aft_v]
        refine (w_240_10 (by first | omega | assumption) (by first | omega | assumption)).trans ?_
        by_cases h0 : i ≤ 0
        · have ep : tcP P F i = 0 := if_pos h0
          rw [if_pos h0, ep]
          simp (maxSteps := 2000000) (disch := first | assumption | omega) only [aft_v, aft_n, aft_t, Nat.add_assoc, Nat.reduceAdd, if_true, if_false, not_true_eq_false, not_false_eq_true, Classical.not_not, Int.reduceAdd, Int.reduceSub, Int.reduceMul, Int.reduceNeg, Int.reduceLT, Int.reduceLE, Int.reduceEq, Int.add_zero, Int.zero_add, Int.sub_zero, w_240_13, w_240_14]
        · rw [if_neg h0]
          have cp := s_mcostP (g := g) hm' hW hF c2 (show 1 ≤ i by omega) i1
          have r1 := c2.2.2 i i0 i1
          have r2 := c2.2.2 (i - 1) (by omega) (by omega)
          refine (w_240_11 (by first | omega | assumption) (by first | omega | assumption) (by first | omega | assumption) (by first | omega | assumption) (by first | omega | assumption) (by first | omega | assumption) (by first | omega | assumption) (by first | omega | assumption)).trans ?_
          rw [r1, r2, cp, aft_v]
          simp (maxSteps := 2000000) (disch := first | assumption | omega) only [aft_v, aft_n, aft_t, Nat.add_assoc, Nat.reduceAdd, if_true, if_false, not_true_eq_false, not_false_eq_true, Classical.not_not, Int.reduceAdd, Int.reduceSub, Int.reduceMul, Int.reduceNeg, Int.reduceLT, Int.reduceLE, Int.reduceEq, Int.add_zero, Int.zero_add, Int.sub_zero, w_240_12, w_240_14]) 0 (0, L) he.1 ⟨Int.le_refl _, rfl, l2⟩
      obtain ⟨s, M⟩ := s
      have s1 : rn 240 7 [some (.ref m), some (.int (iI 0)), some (.int (iI 0))] [] (mk g L) = rn 240 7 [some (.ref m), some (.int (iI s)), some (.int (iI (pE P)))] [] (mk g M) := s1
      have s3 : s = tcV P F := by rw [ec]; exact s2.2.1
      have s4 : tSt m P F K M := s2.2.2
      refine Or.inr ⟨F, M, g1, ?_, lm M s4⟩
      rw [if_pos ev]
      refine (w_240_6).trans ?_
      rw [s1, s3]
      refine (w_240_7 (by first | omega | assumption)).trans ?_
      rw [qe M s4, aft_v]
      refine (w_240_8 (by first | omega | assumption) (by first | omega | assumption) (by first | omega | assumption) (by first | omega | assumption)).trans ?_
      refine (if_pos (by omega)).trans ?_
      simp (maxSteps := 2000000) (disch := first | assumption | omega) only [aft_v, aft_n, aft_t, Nat.add_assoc, Nat.reduceAdd, if_true, if_false, not_true_eq_false, not_false_eq_true, Classical.not_not, Int.reduceAdd, Int.reduceSub, Int.reduceMul, Int.reduceNeg, Int.reduceLT, Int.reduceLE, Int.reduceEq, Int.add_zero, Int.zero_add, Int.sub_zero, w_240_15]
    · have hl : ¬ tfL P F < 0 := by omega
      have ev : ¬ tfV P F = -1 := by
        unfold tfV
        rw [if_neg hl]
        by_cases h : tcE P F (tfL P F) = -1
        · rw [if_pos h]; omega
        · rw [if_neg h]; omega
      have ec : tcV P F = -10 := if_neg hl
      refine Or.inr ⟨F, L, g1, ?_, lm L l2⟩
      rw [if_neg ev, ec]
      simp (maxSteps := 2000000) (disch := first | assumption | omega) only [aft_v, aft_n, aft_t, Nat.add_assoc, Nat.reduceAdd, if_true, if_false, not_true_eq_false, not_false_eq_true, Classical.not_not, Int.reduceAdd, Int.reduceSub, Int.reduceMul, Int.reduceNeg, Int.reduceLT, Int.reduceLE, Int.reduceEq, Int.add_zero, Int.zero_add, Int.sub_zero, w_240_5]
theorem s_mfaultOfTold (hm : isM g m) (hO : txB B n) (h7 : I (m + 7) = B) (h9 : I m 9 = n) (hP : P = mv I m) (hW : Wf P) :
    (∃ e J, gTl B n P = .inl e ∧ cl 241 [.ref m] (mk g I) = some (.inl (some (.int (iI e.1))), mk g J) ∧ tdM m e.2 I J) ∨ ∃ F J, gTl B n P = .inr F ∧ cl 241 [.ref m] (mk g I) = some (.inl (some (.int (iI (if tfV P F = -1 then -10 else tfV P F)))), mk g J) ∧ tdM m (-1) I J := by
  have hm' := hm
  have hr := s_readsFingers (g := g) hm hO h7 h9 hP hW
  have he := hW.2.1
  obtain ⟨t_0, ⟨t_1, d_1, n_1⟩, ⟨t_2, d_2, n_2⟩, ⟨t_3, d_3, n_3⟩, ⟨t_4, d_4, n_4⟩, ⟨t_5, d_5, n_5⟩, ⟨t_6, n_6⟩, ⟨t_7, d_7, n_7⟩, ⟨t_8, d_8, n_8⟩, ⟨t_9, d_9, n_9⟩, ⟨t_10, d_10, n_10⟩, ⟨t_11, d_11, n_11⟩, ⟨t_12, d_12, n_12⟩, ⟨t_13, d_13, n_13⟩, ⟨t_14, d_14, n_14⟩, ⟨t_15, n_15⟩, ⟨t_16, n_16⟩, ⟨t_17, d_17, n_17⟩, ⟨t_18, d_18, n_18⟩⟩ := hm
  rcases hr with ⟨e, K, g1, k1, k2, k3, k4, k5, k6, k7, k8⟩ | ⟨F, K, g1, k1, k2, k4, k5, k6, k7, k8, k9⟩
  · have hn : ¬ e.1 = 0 := by omega
    refine Or.inl ⟨e, K, g1, ?_, fun p a b c => k2 p a c, k7, k6, k5, k8⟩
    simp (maxSteps := 2000000) (disch := first | assumption | omega) only [aft_v, aft_n, aft_t, Nat.add_assoc, Nat.reduceAdd, if_true, if_false, not_true_eq_false, not_false_eq_true, Classical.not_not, Int.reduceAdd, Int.reduceSub, Int.reduceMul, Int.reduceNeg, Int.reduceLT, Int.reduceLE, Int.reduceEq, Int.add_zero, Int.zero_add, Int.sub_zero, c_241, w_241_0, w_241_1, w_241_2, k1, k4, hn]
  · have hF : tOk P F := gTl_ok g1
    have kv : mv K m = P := by rw [hP]; unfold mv; rw [k2 (m + 1) (by omega) (by omega)]
    obtain ⟨L, l1, l2⟩ := s_faultNow (g := g) hm' hW hF kv k9
    have fbb : -2147483648 ≤ tfV P F ∧ tfV P F < 2147483648 := by
      unfold tfV
      rcases tf_b (P := P) (F := F) hW with ⟨a, _⟩ | ⟨a, _⟩
      · have hl : tfL P F < 0 := by omega
        rw [if_pos hl]; decide
      · have hl : ¬ tfL P F < 0 := by omega
        rw [if_neg hl]
        by_cases h : tcE P F (tfL P F) = -1
        · rw [if_pos h]; omega
        · rw [if_neg h]; omega
    refine Or.inr ⟨F, L, g1, ?_, fun p a b c => (l2.1 p b).trans (k2 p a c), by rw [l2.1 m (by omega)]; exact k7, by rw [l2.1 m (by omega)]; exact k6, by rw [l2.1 m (by omega)]; exact k5, by rw [l2.1 m (by omega)]; exact k8⟩
    by_cases hv : tfV P F = -1
    · rw [if_pos hv]
      simp (maxSteps := 2000000) (disch := first | assumption | omega) only [aft_v, aft_n, aft_t, Nat.add_assoc, Nat.reduceAdd, if_true, if_false, not_true_eq_false, not_false_eq_true, Classical.not_not, Int.reduceAdd, Int.reduceSub, Int.reduceMul, Int.reduceNeg, Int.reduceLT, Int.reduceLE, Int.reduceEq, Int.add_zero, Int.zero_add, Int.sub_zero, c_241, w_241_0, w_241_1, w_241_3, w_241_4, w_241_5, w_241_7, k1, k4, l1, hv]
    · rw [if_neg hv]
      simp (maxSteps := 2000000) (disch := first | assumption | omega) only [aft_v, aft_n, aft_t, Nat.add_assoc, Nat.reduceAdd, if_true, if_false, not_true_eq_false, not_false_eq_true, Classical.not_not, Int.reduceAdd, Int.reduceSub, Int.reduceMul, Int.reduceNeg, Int.reduceLT, Int.reduceLE, Int.reduceEq, Int.add_zero, Int.zero_add, Int.sub_zero, c_241, w_241_0, w_241_1, w_241_3, w_241_4, w_241_6, w_241_7, k1, k4, l1, hv]
end MC
