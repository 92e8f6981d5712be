/-! Plan: how many fingerings. -/
theorem wy_b {P : PT} (hbd : bdP P) {ch : Int} : ∀ (e : Nat) (c : Int), (e : Int) < pE P → 0 ≤ wyN P ch e c ∧ wyN P ch e c ≤ 1000000000000000 := by
  intro e
  induction e with
  | zero => intro c _; show 0 ≤ (1 : Int) ∧ (1 : Int) ≤ _; omega
  | succ e ih =>
    intro c he
    have h1 := sumI_b (f := fun c' => if ¬ sumS (sumS (ahS P 0 e c') (stepS P e c' c)) (ownS P 0 (e + 1 : Nat) c) = -1 ∧ (ch = 0 ∨ sumS (sumS (ahS P 0 e c') (stepS P e c' c)) (ownS P 0 (e + 1 : Nat) c) = ahS P 0 (e + 1 : Nat) c) then wyN P ch e c' else 0) (A := 0) (B := 1000000000000000) (n := cntS P e) (hbd.2.2.1 e (by omega) (by omega)).2.1 (fun i _ _ => by
      have := ih i (by omega)
      split <;> omega)
    show 0 ≤ min _ _ ∧ min _ _ ≤ _
    omega
section WY
variable {g : Gm} {I : Mm} {q l : Nat} {P : PT}
theorem s_waysAt {i : Int} {L : Nat → Int → Int} (hl : isPl g l) (hi : 0 ≤ i ∧ i < 400) : cl 53 [.ref l, .int (iI i)] (mk (gL g L) I) = some (.inl (some (.long (lI (L (l + 19) i)))), mk (gL g L) I) := by
  have hl2 : isPl (gL g L) l := hl
  obtain ⟨l_0, ⟨l_1, m_1, l_2⟩, ⟨l_3, m_3, l_4⟩, ⟨l_5, m_5, l_6⟩, ⟨l_7, m_7, l_8⟩, ⟨l_9, m_9, l_10⟩, ⟨l_11, m_11, l_12⟩, ⟨l_13, m_13, l_14⟩, ⟨l_15, m_15, l_16⟩, ⟨l_17, m_17, l_18⟩, l_19, l_20⟩ := hl2
  have t1 : gt (gL g L) (l + 19) = 0 ∨ gt (gL g L) (l + 19) = 1 ∨ gt (gL g L) (l + 19) = 4 ∨ gt (gL g L) (l + 19) = 7 := Or.inr (Or.inl l_19)
  simp (maxSteps := 2000000) (disch := first | assumption | omega) only [aft_v, aft_n, aft_t, Nat.add_assoc, Nat.reduceAdd, if_true, if_false, not_true_eq_false, not_false_eq_true, Classical.not_not, Int.reduceAdd, Int.reduceSub, Int.reduceMul, Int.reduceNeg, Int.reduceLT, Int.reduceLE, Int.reduceEq, Int.add_zero, Int.zero_add, Int.sub_zero, c_53, w_53_0, w_53_1, w_53_2, w_53_3, w_53_4, l_20, if_neg (show ¬ i < 0 by omega), if_neg (show ¬ ((400 : Nat) : Int) ≤ i by omega)]
  rfl
theorem s_putWays {i v : Int} {L : Nat → Int → Int} (hl : isPl g l) (hi : 0 ≤ i ∧ i < 400) : cl 54 [.ref l, .int (iI i), .long (lI v)] (mk (gL g L) I) = some (.inl none, mk (gL g (upd2 L (l + 19) i v)) I) := by
  have hl2 : isPl (gL g L) l := hl
  obtain ⟨l_0, ⟨l_1, m_1, l_2⟩, ⟨l_3, m_3, l_4⟩, ⟨l_5, m_5, l_6⟩, ⟨l_7, m_7, l_8⟩, ⟨l_9, m_9, l_10⟩, ⟨l_11, m_11, l_12⟩, ⟨l_13, m_13, l_14⟩, ⟨l_15, m_15, l_16⟩, ⟨l_17, m_17, l_18⟩, l_19, l_20⟩ := hl2
  have t1 : gt (gL g L) (l + 19) = 0 ∨ gt (gL g L) (l + 19) = 1 ∨ gt (gL g L) (l + 19) = 4 ∨ gt (gL g L) (l + 19) = 7 := Or.inr (Or.inl l_19)
  simp (maxSteps := 2000000) (disch := first | assumption | omega) only [aft_v, aft_n, aft_t, Nat.add_assoc, Nat.reduceAdd, if_true, if_false, not_true_eq_false, not_false_eq_true, Classical.not_not, Int.reduceAdd, Int.reduceSub, Int.reduceMul, Int.reduceNeg, Int.reduceLT, Int.reduceLE, Int.reduceEq, Int.add_zero, Int.zero_add, Int.sub_zero, c_54, w_54_0, w_54_1, w_54_2, w_54_3, l_20, if_neg (show ¬ i < 0 by omega), if_neg (show ¬ ((400 : Nat) : Int) ≤ i by omega)]
  rfl
theorem s_waysInto {e c ch : Int} {L : Nat → Int → Int} (hl : isPl g l) (hbd : bdP P) (hS : Sol P l I) (he : 1 ≤ e ∧ e < pE P) (hc : 0 ≤ c ∧ c < cntS P e) (hch : ch = 0 ∨ ch = 1) (hL : ∀ c', 0 ≤ c' → c' < cntS P (e - 1) → L (l + 19) ((e - 1) * 10 + c') = wyN P ch (e - 1).toNat c') :
    cl 52 [.ref l, .int (iI e), .int (iI c), .int (iI ch)] (mk (gL g L) I) = some (.inl (some (.long (lI (wyN P ch e.toNat c)))), mk (gL g L) I) := by
  have hl' : isPl (gL g L) l := hl
  have hl2 : isPl (gL g L) l := hl
  obtain ⟨l_0, ⟨l_1, m_1, l_2⟩, ⟨l_3, m_3, l_4⟩, ⟨l_5, m_5, l_6⟩, ⟨l_7, m_7, l_8⟩, ⟨l_9, m_9, l_10⟩, ⟨l_11, m_11, l_12⟩, ⟨l_13, m_13, l_14⟩, ⟨l_15, m_15, l_16⟩, ⟨l_17, m_17, l_18⟩, l_19, l_20⟩ := hl2
  have b1 := hbd.2.1
  have n0 := hbd.2.2.1 e (by omega) he.2
  have np := hbd.2.2.1 (e - 1) (by omega) (by omega)
  have hcp := hS.cn (e := e - 1) (by omega) (by omega)
  obtain ⟨k, hk⟩ : ∃ k : Nat, e = k + 1 := ⟨(e - 1).toNat, by omega⟩
  have e1 : (e - 1).toNat = k := by omega
  have e2 : e.toNat = k + 1 := by omega
  have ek : e - 1 = k := by omega
  obtain ⟨V, hV⟩ : ∃ V : Int → Int, V = fun c' => sumS (sumS (ahS P 0 (e - 1) c') (stepS P (e - 1) c' c)) (ownS P 0 e c) := ⟨_, rfl⟩
  obtain ⟨T, hT⟩ : ∃ T : Int → Int, T = fun c' => if ¬ V c' = -1 ∧ (ch = 0 ∨ V c' = ahS P 0 e c) then wyN P ch k c' else 0 := ⟨_, rfl⟩
  have hW : wyN P ch e.toNat c = min (sumI T (cntS P (e - 1))) 1000000000000000 := by
    rw [e2, hT, hV, ek, hk]; rfl
  have hTb : ∀ i, 0 ≤ T i ∧ T i ≤ 1000000000000000 := fun i => by
    rw [hT]
    have := wy_b hbd (ch := ch) k i (by omega)
    show 0 ≤ (if ¬ V i = -1 ∧ (ch = 0 ∨ V i = ahS P 0 e c) then wyN P ch k i else 0) ∧ (if ¬ V i = -1 ∧ (ch = 0 ∨ V i = ahS P 0 e c) then wyN P ch k i else 0) ≤ _
    split <;> omega
  have key := loop_up (σ := Option Value × Option Value × Option Value) (head := fun i s => rn 52 2 [some (.ref l), some (.int (iI e)), some (.int (iI c)), some (.int (iI ch)), some (.int (iI (e * 10 + c))), some (.long (lI (sumI T i))), none, some (.int (iI i)), s.1, s.2.1, s.2.2] [] (mk (gL g L) I)) (Inv := fun i _ => 0 ≤ i) (n := cntS P (e - 1)) (by
    rintro c' ⟨o8, o9, o10⟩ c1 c0
    have hA := hS.ah (e := e - 1) (by omega) (by omega) c0 c1
    have hSt := hS.st (e := e - 1) (c := c') (n := c) (by omega) (by omega) c0 c1 hc.1 (by rw [show e - 1 + 1 = e by omega]; exact hc.2)
    have hO := hS.ow (by omega) he.2 hc.1 hc.2
    have hAe := hS.ah (by omega) he.2 hc.1 hc.2
    have bA := ahS_b hbd (b := 0) (c := c') (e := e - 1) (by omega) (by omega)
    have bAe := ahS_b hbd (b := 0) (c := c) (e := e) (by omega) (by omega)
    have bS := st_b hbd (c := c') (n := c) (e := e - 1) (by omega) (by omega)
    have bO := hbd.2.2.2.1 0 e c (by omega) he.2
    have bAS := sum_b bA bS (by decide) (by decide)
    have bV := sum_b bAS bO (by decide) (by decide)
    have hVv : V c' = sumS (sumS (ahS P 0 (e - 1) c') (stepS P (e - 1) c' c)) (ownS P 0 e c) := by rw [hV]
    rw [← hVv] at bV
    have hTv : T c' = if ¬ V c' = -1 ∧ (ch = 0 ∨ V c' = ahS P 0 e c) then wyN P ch k c' else 0 := by rw [hT]
    have hwa := s_waysAt (g := g) (I := I) (L := L) (i := (e - 1) * 10 + c') hl (by omega)
    rw [hL c' c0 c1, e1] at hwa
    refine ⟨(some (.int (iI ((e - 1) * 10 + c'))), some (.int (iI (stepS P (e - 1) c' c))), some (.int (iI (V c')))), ?_, by omega⟩
    show rn _ _ _ _ _ = rn _ _ _ _ _
    rw [sumI_s c0, hTv]
    refine (w_52_2 (by first | assumption | omega) (by first | assumption | omega)).trans ?_
    by_cases hm : V c' = -1
    · rw [if_neg (fun z => z.1 hm), Int.add_zero]
      simp (maxSteps := 2000000) (disch := first | assumption | omega) only [aft_v, aft_n, aft_t, Nat.add_assoc, Nat.reduceAdd, if_true, if_false, not_true_eq_false, not_false_eq_true, Classical.not_not, Int.reduceAdd, Int.reduceSub, Int.reduceMul, Int.reduceNeg, Int.reduceLT, Int.reduceLE, Int.reduceEq, Int.add_zero, Int.zero_add, Int.sub_zero, w_52_3, w_52_4, w_52_5, w_52_6, w_52_7, w_52_8, w_52_9, w_52_10, w_52_11, w_52_17, s_row_get, hcp, if_neg (show ¬ cntS P (e - 1) ≤ c' by omega), s_placeOfChoice, s_placeOfStep, hA, hSt, hO, s_sumOf, ← hVv, hm]
    · rcases hch with rfl | rfl
      · rw [if_pos ⟨hm, Or.inl rfl⟩]
        simp (maxSteps := 2000000) (disch := first | assumption | omega) only [aft_v, aft_n, aft_t, Nat.add_assoc, Nat.reduceAdd, if_true, if_false, not_true_eq_false, not_false_eq_true, Classical.not_not, Int.reduceAdd, Int.reduceSub, Int.reduceMul, Int.reduceNeg, Int.reduceLT, Int.reduceLE, Int.reduceEq, Int.add_zero, Int.zero_add, Int.sub_zero, w_52_3, w_52_4, w_52_5, w_52_6, w_52_7, w_52_8, w_52_9, w_52_10, w_52_11, w_52_12, w_52_15, w_52_16, w_52_17, s_row_get, hcp, if_neg (show ¬ cntS P (e - 1) ≤ c' by omega), s_placeOfChoice, s_placeOfStep, hA, hSt, hO, s_sumOf, ← hVv, hm, hwa]
      · by_cases hq : V c' = ahS P 0 e c
        · rw [if_pos ⟨hm, Or.inr hq⟩]
          have hm' : ¬ ahS P 0 e c = -1 := by rw [← hq]; exact hm
          simp (maxSteps := 2000000) (disch := first | assumption | omega) only [aft_v, aft_n, aft_t, Nat.add_assoc, Nat.reduceAdd, if_true, if_false, not_true_eq_false, not_false_eq_true, Classical.not_not, Int.reduceAdd, Int.reduceSub, Int.reduceMul, Int.reduceNeg, Int.reduceLT, Int.reduceLE, Int.reduceEq, Int.add_zero, Int.zero_add, Int.sub_zero, w_52_3, w_52_4, w_52_5, w_52_6, w_52_7, w_52_8, w_52_9, w_52_10, w_52_11, w_52_12, w_52_13, w_52_14, w_52_15, w_52_16, w_52_17, s_row_get, hcp, if_neg (show ¬ cntS P (e - 1) ≤ c' by omega), s_placeOfChoice, s_placeOfStep, hA, hSt, hO, s_sumOf, ← hVv, hq, hm', hwa, hAe, show ¬ (1 : Int) = 0 by decide]
        · rw [if_neg (fun z => by rcases z.2 with h | h; exact absurd h (by decide); exact hq h), Int.add_zero]
          simp (maxSteps := 2000000) (disch := first | assumption | omega) only [aft_v, aft_n, aft_t, Nat.add_assoc, Nat.reduceAdd, if_true, if_false, not_true_eq_false, not_false_eq_true, Classical.not_not, Int.reduceAdd, Int.reduceSub, Int.reduceMul, Int.reduceNeg, Int.reduceLT, Int.reduceLE, Int.reduceEq, Int.add_zero, Int.zero_add, Int.sub_zero, w_52_3, w_52_4, w_52_5, w_52_6, w_52_7, w_52_8, w_52_9, w_52_10, w_52_11, w_52_12, w_52_13, w_52_14, w_52_17, s_row_get, hcp, if_neg (show ¬ cntS P (e - 1) ≤ c' by omega), s_placeOfChoice, s_placeOfStep, hA, hSt, hO, s_sumOf, ← hVv, hm, hq, hAe, show ¬ (1 : Int) = 0 by decide]) 0 (none, none, none) np.2.1 (Int.le_refl _)
  obtain ⟨⟨o8, o9, o10⟩, key, _⟩ := key
  have key : rn 52 2 [some (.ref l), some (.int (iI e)), some (.int (iI c)), some (.int (iI ch)), some (.int (iI (e * 10 + c))), some (.long (lI 0)), none, some (.int (iI 0)), none, none, none] [] (mk (gL g L) I) = rn 52 2 [some (.ref l), some (.int (iI e)), some (.int (iI c)), some (.int (iI ch)), some (.int (iI (e * 10 + c))), some (.long (lI (sumI T (cntS P (e - 1))))), none, some (.int (iI (cntS P (e - 1)))), o8, o9, o10] [] (mk (gL g L) I) := key
  have hsb := sumI_b (f := T) (A := 0) (B := 1000000000000000) (n := cntS P (e - 1)) np.2.1 (fun i _ _ => hTb i)
  simp (maxSteps := 2000000) (disch := first | assumption | omega) only [aft_v, aft_n, aft_t, Nat.add_assoc, Nat.reduceAdd, if_true, if_false, not_true_eq_false, not_false_eq_true, Classical.not_not, Int.reduceAdd, Int.reduceSub, Int.reduceMul, Int.reduceNeg, Int.reduceLT, Int.reduceLE, Int.reduceEq, Int.add_zero, Int.zero_add, Int.sub_zero, c_52, w_52_0, w_52_1, s_placeOfChoice]
  rw [key]
  refine (w_52_2 (by first | assumption | omega) (by first | assumption | omega)).trans ?_
  simp (maxSteps := 2000000) (disch := first | assumption | omega) only [aft_v, aft_n, aft_t, Nat.add_assoc, Nat.reduceAdd, if_true, if_false, not_true_eq_false, not_false_eq_true, Classical.not_not, Int.reduceAdd, Int.reduceSub, Int.reduceMul, Int.reduceNeg, Int.reduceLT, Int.reduceLE, Int.reduceEq, Int.add_zero, Int.zero_add, Int.sub_zero, w_52_3, w_52_18, s_row_get, hcp, if_pos (Int.le_refl (cntS P (e - 1)))]
  rw [hW]
theorem s_countWays {ch : Int} (hl : isPl g l) (hbd : bdP P) (hS : Sol P l I) (hch : ch = 0 ∨ ch = 1) :
    ∃ L, cl 51 [.ref l, .int (iI ch)] (mk g I) = some (.inl (some (.long (lI (wyS P ch)))), mk (gL g L) I) ∧ ∀ p, ¬ p = l + 19 → L p = g.2.1 p := by
  have b1 := hbd.2.1
  have hl1 := hS.2.1
  have hl2 := hS.2.2.1
  have lsb := ls_b hbd (b := 0)
  by_cases hz : pE P = 0
  · refine ⟨g.2.1, ?_, fun _ _ => rfl⟩
    obtain ⟨l_0, ⟨l_1, m_1, l_2⟩, ⟨l_3, m_3, l_4⟩, ⟨l_5, m_5, l_6⟩, ⟨l_7, m_7, l_8⟩, ⟨l_9, m_9, l_10⟩, ⟨l_11, m_11, l_12⟩, ⟨l_13, m_13, l_14⟩, ⟨l_15, m_15, l_16⟩, ⟨l_17, m_17, l_18⟩, l_19, l_20⟩ := hl
    unfold wyS
    rw [if_pos hz]
    simp (maxSteps := 2000000) (disch := first | assumption | omega) only [aft_v, aft_n, aft_t, Nat.add_assoc, Nat.reduceAdd, if_true, if_false, not_true_eq_false, not_false_eq_true, Classical.not_not, Int.reduceAdd, Int.reduceSub, Int.reduceMul, Int.reduceNeg, Int.reduceLT, Int.reduceLE, Int.reduceEq, Int.add_zero, Int.zero_add, Int.sub_zero, c_51, w_51_0, w_51_1, hl1, hz]
    rfl
  have outer := loop_up (σ := (Nat → Int → Int) × Option Value × Option Value × Option Value) (head := fun e s => rn 51 3 [some (.ref l), some (.int (iI ch)), some (.int (iI e)), s.2.1, s.2.2.1, s.2.2.2] [] (mk (gL g s.1) I))
    (Inv := fun e s => 0 ≤ e ∧ (∀ p, ¬ p = l + 19 → s.1 p = g.2.1 p) ∧ ∀ e', 0 ≤ e' → e' < e → ∀ c, 0 ≤ c → c < cntS P e' → s.1 (l + 19) (e' * 10 + c) = wyN P ch e'.toNat c) (n := pE P) (by
    rintro e ⟨L, o3, o4, o5⟩ hlt ⟨e0, h1, h2⟩
    have h1 : ∀ p, ¬ p = l + 19 → L p = g.2.1 p := h1
    have h2 : ∀ e', 0 ≤ e' → e' < e → ∀ c, 0 ≤ c → c < cntS P e' → L (l + 19) (e' * 10 + c) = wyN P ch e'.toNat c := h2
    have n0 := hbd.2.2.1 e e0 hlt
    have inner := loop_up (σ := Nat → Int → Int) (head := fun c s => rn 51 5 [some (.ref l), some (.int (iI ch)), some (.int (iI e)), some (.int (iI c)), o4, o5] [] (mk (gL g s) I))
      (Inv := fun c s => 0 ≤ c ∧ (∀ p, ¬ p = l + 19 → s p = g.2.1 p) ∧ (∀ e', 0 ≤ e' → e' < e → ∀ c, 0 ≤ c → c < cntS P e' → s (l + 19) (e' * 10 + c) = wyN P ch e'.toNat c) ∧ ∀ c', 0 ≤ c' → c' < c → s (l + 19) (e * 10 + c') = wyN P ch e.toNat c') (n := cntS P e) (by
      rintro c L c1 ⟨c0, h1, h2, h3⟩
      have hl2 : isPl (gL g L) l := hl
      obtain ⟨l_0, ⟨l_1, m_1, l_2⟩, ⟨l_3, m_3, l_4⟩, ⟨l_5, m_5, l_6⟩, ⟨l_7, m_7, l_8⟩, ⟨l_9, m_9, l_10⟩, ⟨l_11, m_11, l_12⟩, ⟨l_13, m_13, l_14⟩, ⟨l_15, m_15, l_16⟩, ⟨l_17, m_17, l_18⟩, l_19, l_20⟩ := hl2
      have hcn := hS.cn e0 hlt
      have hpw := s_putWays (g := g) (I := I) (L := L) (i := e * 10 + c) (v := wyN P ch e.toNat c) hl (by omega)
      refine ⟨upd2 L (l + 19) (e * 10 + c) (wyN P ch e.toNat c), ?_, by omega, fun p hp => by rw [← h1 p hp]; exact funext fun j => upd2_p hp, fun e' a b c' c0' c1' => ?_, fun c' a b => ?_⟩
      · show rn _ _ _ _ _ = rn _ _ _ _ _
        refine (w_51_5 (by first | assumption | omega) (by first | assumption | omega)).trans ?_
        by_cases hz : e = 0
        · have hw : wyN P ch e.toNat c = 1 := by rw [hz]; rfl
          rw [hw] at hpw ⊢
          simp (maxSteps := 2000000) (disch := first | assumption | omega) only [aft_v, aft_n, aft_t, Nat.add_assoc, Nat.reduceAdd, if_true, if_false, not_true_eq_false, not_false_eq_true, Classical.not_not, Int.reduceAdd, Int.reduceSub, Int.reduceMul, Int.reduceNeg, Int.reduceLT, Int.reduceLE, Int.reduceEq, Int.add_zero, Int.zero_add, Int.sub_zero, w_51_6, w_51_7, w_51_8, w_51_9, w_51_11, w_51_12, s_row_get, hcn, if_neg (show ¬ cntS P e ≤ c by omega), s_placeOfChoice, if_neg (show ¬ ¬ e = 0 by omega), hpw]
        · have hwi := s_waysInto (g := g) (I := I) (L := L) (e := e) (c := c) (ch := ch) hl hbd hS (by omega) ⟨c0, c1⟩ hch (fun c' a b => h2 (e - 1) (by omega) (by omega) c' a b)
          simp (maxSteps := 2000000) (disch := first | assumption | omega) only [aft_v, aft_n, aft_t, Nat.add_assoc, Nat.reduceAdd, if_true, if_false, not_true_eq_false, not_false_eq_true, Classical.not_not, Int.reduceAdd, Int.reduceSub, Int.reduceMul, Int.reduceNeg, Int.reduceLT, Int.reduceLE, Int.reduceEq, Int.add_zero, Int.zero_add, Int.sub_zero, w_51_6, w_51_7, w_51_8, w_51_10, w_51_11, w_51_12, s_row_get, hcn, if_neg (show ¬ cntS P e ≤ c by omega), s_placeOfChoice, if_pos (show ¬ e = 0 by omega), hwi, hpw]
      · have := hbd.2.2.1 e' a (by omega)
        rw [upd2_i (by omega)]; exact h2 e' a b c' c0' c1'
      · by_cases hcc : c' = c
        · subst hcc; exact upd2_at
        · rw [upd2_i (by omega)]; exact h3 c' a (by omega)) 0 L n0.2.1 ⟨Int.le_refl _, h1, h2, fun c' a b => by omega⟩
    obtain ⟨L', e1, -, k1, k2, k3⟩ := inner
    have e1 : rn 51 5 [some (.ref l), some (.int (iI ch)), some (.int (iI e)), some (.int (iI 0)), o4, o5] [] (mk (gL g L) I) = rn 51 5 [some (.ref l), some (.int (iI ch)), some (.int (iI e)), some (.int (iI (cntS P e))), o4, o5] [] (mk (gL g L') I) := e1
    have hl2 : isPl (gL g L) l := hl
    obtain ⟨l_0, ⟨l_1, m_1, l_2⟩, ⟨l_3, m_3, l_4⟩, ⟨l_5, m_5, l_6⟩, ⟨l_7, m_7, l_8⟩, ⟨l_9, m_9, l_10⟩, ⟨l_11, m_11, l_12⟩, ⟨l_13, m_13, l_14⟩, ⟨l_15, m_15, l_16⟩, ⟨l_17, m_17, l_18⟩, l_19, l_20⟩ := hl2
    have hcn := hS.cn e0 hlt
    refine ⟨(L', some (.int (iI (cntS P e))), o4, o5), ?_, by omega, k1, fun e' a b => ?_⟩
    · show rn _ _ _ _ _ = rn _ _ _ _ _
      refine (w_51_3 (by first | assumption | omega) (by first | assumption | omega) (by first | assumption | omega) (by first | assumption | omega) (by first | assumption | omega)).trans ?_
      simp (maxSteps := 2000000) (disch := first | assumption | omega) only [aft_v, aft_n, aft_t, Nat.add_assoc, Nat.reduceAdd, if_true, if_false, not_true_eq_false, not_false_eq_true, Classical.not_not, Int.reduceAdd, Int.reduceSub, Int.reduceMul, Int.reduceNeg, Int.reduceLT, Int.reduceLE, Int.reduceEq, Int.add_zero, Int.zero_add, Int.sub_zero, w_51_4, hl1, if_neg (show ¬ pE P ≤ e by omega)]
      rw [e1]
      have hl2 : isPl (gL g L') l := hl
      obtain ⟨l_0', ⟨l_1', m_1', l_2'⟩, _⟩ := hl2
      refine (w_51_5 (by first | assumption | omega) (by first | assumption | omega)).trans ?_
      simp (maxSteps := 2000000) (disch := first | assumption | omega) only [aft_v, aft_n, aft_t, Nat.add_assoc, Nat.reduceAdd, if_true, if_false, not_true_eq_false, not_false_eq_true, Classical.not_not, Int.reduceAdd, Int.reduceSub, Int.reduceMul, Int.reduceNeg, Int.reduceLT, Int.reduceLE, Int.reduceEq, Int.add_zero, Int.zero_add, Int.sub_zero, w_51_6, w_51_13, s_row_get, hcn, if_pos (Int.le_refl (cntS P e))]
    · by_cases hee : e' = e
      · subst hee; exact k3
      · exact k2 e' a (by omega)) 0 (g.2.1, none, none, none) b1.1 ⟨Int.le_refl _, fun _ _ => rfl, fun e' a b => by omega⟩
  obtain ⟨⟨L, o3, o4, o5⟩, e1, -, k1, k2⟩ := outer
  have k2 : ∀ e', 0 ≤ e' → e' < pE P → ∀ c, 0 ≤ c → c < cntS P e' → L (l + 19) (e' * 10 + c) = wyN P ch e'.toNat c := k2
  have hgg : gL g g.2.1 = g := rfl
  have e1 : rn 51 3 [some (.ref l), some (.int (iI ch)), some (.int (iI 0)), none, none, none] [] (mk g I) = rn 51 3 [some (.ref l), some (.int (iI ch)), some (.int (iI (pE P))), o3, o4, o5] [] (mk (gL g L) I) := e1
  have nl := hbd.2.2.1 (pE P - 1) (by omega) (by omega)
  obtain ⟨T, hT⟩ : ∃ T : Int → Int, T = fun c => if ch = 0 ∨ ahS P 0 (pE P - 1) c = lsS P 0 then wyN P ch (pE P - 1).toNat c else 0 := ⟨_, rfl⟩
  have hTb : ∀ i, 0 ≤ T i ∧ T i ≤ 1000000000000000 := fun i => by
    rw [hT]
    have := wy_b hbd (ch := ch) (pE P - 1).toNat i (by omega)
    show 0 ≤ (if ch = 0 ∨ ahS P 0 (pE P - 1) i = lsS P 0 then wyN P ch (pE P - 1).toNat i else 0) ∧ (if ch = 0 ∨ ahS P 0 (pE P - 1) i = lsS P 0 then wyN P ch (pE P - 1).toNat i else 0) ≤ _
    split <;> omega
  have hcl := hS.cn (e := pE P - 1) (by omega) (by omega)
  have hl3 : isPl (gL g L) l := hl
  obtain ⟨l_0, ⟨l_1, m_1, l_2⟩, ⟨l_3, m_3, l_4⟩, ⟨l_5, m_5, l_6⟩, ⟨l_7, m_7, l_8⟩, ⟨l_9, m_9, l_10⟩, l_r⟩ := hl3
  have last := loop_up (σ := Option Value) (head := fun c s => rn 51 15 [some (.ref l), some (.int (iI ch)), some (.long (lI (sumI T c))), none, some (.int (iI c)), s] [] (mk (gL g L) I)) (Inv := fun c _ => 0 ≤ c) (n := cntS P (pE P - 1)) (by
    intro c s c1 c0
    have hA := hS.ah (e := pE P - 1) (by omega) (by omega) c0 c1
    have bA := ahS_b hbd (b := 0) (c := c) (e := pE P - 1) (by omega) (by omega)
    have hwa := s_waysAt (g := g) (I := I) (L := L) (i := (pE P - 1) * 10 + c) hl (by omega)
    rw [k2 (pE P - 1) (by omega) (by omega) c c0 c1] at hwa
    have hTv : T c = if ch = 0 ∨ ahS P 0 (pE P - 1) c = lsS P 0 then wyN P ch (pE P - 1).toNat c else 0 := by rw [hT]
    refine ⟨some (.int (iI ((pE P - 1) * 10 + c))), ?_, by omega⟩
    show rn _ _ _ _ _ = rn _ _ _ _ _
    rw [sumI_s c0, hTv]
    refine (w_51_15 (by first | assumption | omega) (by first | assumption | omega)).trans ?_
    rcases hch with rfl | rfl
    · rw [if_pos (Or.inl rfl)]
      simp (maxSteps := 2000000) (disch := first | assumption | omega) only [aft_v, aft_n, aft_t, Nat.add_assoc, Nat.reduceAdd, if_true, if_false, not_true_eq_false, not_false_eq_true, Classical.not_not, Int.reduceAdd, Int.reduceSub, Int.reduceMul, Int.reduceNeg, Int.reduceLT, Int.reduceLE, Int.reduceEq, Int.add_zero, Int.zero_add, Int.sub_zero, w_51_16, w_51_17, w_51_18, w_51_21, w_51_22, w_51_23, s_row_get, hl1, hcl, if_neg (show ¬ cntS P (pE P - 1) ≤ c by omega), s_placeOfChoice, hwa]
    · by_cases hq : ahS P 0 (pE P - 1) c = lsS P 0
      · rw [if_pos (Or.inr hq)]
        simp (maxSteps := 2000000) (disch := first | assumption | omega) only [aft_v, aft_n, aft_t, Nat.add_assoc, Nat.reduceAdd, if_true, if_false, not_true_eq_false, not_false_eq_true, Classical.not_not, Int.reduceAdd, Int.reduceSub, Int.reduceMul, Int.reduceNeg, Int.reduceLT, Int.reduceLE, Int.reduceEq, Int.add_zero, Int.zero_add, Int.sub_zero, w_51_16, w_51_17, w_51_18, w_51_19, w_51_20, w_51_21, w_51_22, w_51_23, s_row_get, hl1, hl2, hcl, if_neg (show ¬ cntS P (pE P - 1) ≤ c by omega), s_placeOfChoice, hwa, hA, hq, show ¬ (1 : Int) = 0 by decide]
      · rw [if_neg (fun z => by rcases z with h | h; exact absurd h (by decide); exact hq h), Int.add_zero]
        simp (maxSteps := 2000000) (disch := first | assumption | omega) only [aft_v, aft_n, aft_t, Nat.add_assoc, Nat.reduceAdd, if_true, if_false, not_true_eq_false, not_false_eq_true, Classical.not_not, Int.reduceAdd, Int.reduceSub, Int.reduceMul, Int.reduceNeg, Int.reduceLT, Int.reduceLE, Int.reduceEq, Int.add_zero, Int.zero_add, Int.sub_zero, w_51_16, w_51_17, w_51_18, w_51_19, w_51_20, w_51_23, s_row_get, hl1, hl2, hcl, if_neg (show ¬ cntS P (pE P - 1) ≤ c by omega), s_placeOfChoice, hA, hq, show ¬ (1 : Int) = 0 by decide]) 0 o5 nl.2.1 (Int.le_refl _)
  obtain ⟨p5, e2, -⟩ := last
  have e2 : rn 51 15 [some (.ref l), some (.int (iI ch)), some (.long (lI 0)), none, some (.int (iI 0)), o5] [] (mk (gL g L) I) = rn 51 15 [some (.ref l), some (.int (iI ch)), some (.long (lI (sumI T (cntS P (pE P - 1))))), none, some (.int (iI (cntS P (pE P - 1)))), p5] [] (mk (gL g L) I) := e2
  have hsb := sumI_b (f := T) (A := 0) (B := 1000000000000000) (n := cntS P (pE P - 1)) nl.2.1 (fun i _ _ => hTb i)
  have hl4 : g.1 l = sX1 l := hl.1
  refine ⟨L, ?_, k1⟩
  simp (maxSteps := 2000000) (disch := first | assumption | omega) only [aft_v, aft_n, aft_t, Nat.add_assoc, Nat.reduceAdd, if_true, if_false, not_true_eq_false, not_false_eq_true, Classical.not_not, Int.reduceAdd, Int.reduceSub, Int.reduceMul, Int.reduceNeg, Int.reduceLT, Int.reduceLE, Int.reduceEq, Int.add_zero, Int.zero_add, Int.sub_zero, c_51, w_51_0, w_51_2, hl1, if_pos hz]
  rw [e1]
  refine (w_51_3 (by first | assumption | omega) (by first | assumption | omega) (by first | assumption | omega) (by first | assumption | omega) (by first | assumption | omega)).trans ?_
  simp (maxSteps := 2000000) (disch := first | assumption | omega) only [aft_v, aft_n, aft_t, Nat.add_assoc, Nat.reduceAdd, if_true, if_false, not_true_eq_false, not_false_eq_true, Classical.not_not, Int.reduceAdd, Int.reduceSub, Int.reduceMul, Int.reduceNeg, Int.reduceLT, Int.reduceLE, Int.reduceEq, Int.add_zero, Int.zero_add, Int.sub_zero, w_51_14, hl1, if_pos (Int.le_refl (pE P))]
  rw [e2]
  refine (w_51_15 (by first | assumption | omega) (by first | assumption | omega)).trans ?_
  simp (maxSteps := 2000000) (disch := first | assumption | omega) only [aft_v, aft_n, aft_t, Nat.add_assoc, Nat.reduceAdd, if_true, if_false, not_true_eq_false, not_false_eq_true, Classical.not_not, Int.reduceAdd, Int.reduceSub, Int.reduceMul, Int.reduceNeg, Int.reduceLT, Int.reduceLE, Int.reduceEq, Int.add_zero, Int.zero_add, Int.sub_zero, w_51_16, w_51_24, s_row_get, hl1, hcl, if_pos (Int.le_refl (cntS P (pE P - 1)))]
  unfold wyS
  rw [if_neg hz, hT]
end WY
