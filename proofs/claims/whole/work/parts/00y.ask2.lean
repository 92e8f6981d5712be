/-! Plan: what it is asked, second part. -/
noncomputable def chS (P : PT) (e k : Int) : Int := itI (fun c a => if sumS (ahS P 0 e c) (bhS P e c) = lsS P 0 then orI a (bitF (fgP P e c k)) else a) 0 (cntS P e)
/-- the least cost with a rest of 9 behind an event -/
noncomputable def lrS (P : PT) (e : Int) : Int := itI (fun c a => if ahS P 0 e c = -1 then a else itI (fun n b => lesS b (sumS (ahS P 0 e c) (sumS (stepW P 9 e c n) (frS P (e + 1) n)))) a (cntS P (e + 1))) (-1) (cntS P e)
noncomputable def wyN (P : PT) (ch : Int) : Nat → Int → Int
  | 0, _ => 1
  | e + 1, c => min (sumI (fun c' => if ¬ sumS (sumS (ahS P 0 e c') (stepS P e c' c)) (ownS P 0 (e + 1 : Nat) c) = -1 ∧ (ch = 0 ∨ sumS (sumS (ahS P 0 e c') (stepS P e c' c)) (ownS P 0 (e + 1 : Nat) c) = ahS P 0 (e + 1 : Nat) c) then wyN P ch e c' else 0) (cntS P e)) 1000000000000000
noncomputable def wyS (P : PT) (ch : Int) : Int := if pE P = 0 then 1 else min (sumI (fun c => if ch = 0 ∨ ahS P 0 (pE P - 1) c = lsS P 0 then wyN P ch (pE P - 1).toNat c else 0) (cntS P (pE P - 1))) 1000000000000000
section AS2
variable {g : Gm} {I : Mm} {q l : Nat} {P : PT}
theorem s_cheapestFingers {e k : Int} (hl : isPl g l) (hbd : bdP P) (hS : Sol P l I) (he : 0 ≤ e ∧ e < pE P) (hk : 0 ≤ k ∧ k < pSz P e) :
    cl 58 [.ref l, .int (iI e), .int (iI k)] (mk g I) = some (.inl (some (.int (iI (chS P e k)))), mk g I) := by
  have hl' := hl
  obtain ⟨l_0, ⟨l_1, m_1, l_2⟩, ⟨l_3, m_3, l_4⟩, ⟨l_5, m_5, l_6⟩, ⟨l_7, m_7, l_8⟩, ⟨l_9, m_9, l_10⟩, ⟨l_11, m_11, l_12⟩, ⟨l_13, m_13, l_14⟩, ⟨l_15, m_15, l_16⟩, ⟨l_17, m_17, l_18⟩, l_19, l_20⟩ := hl
  have b1 := hbd.2.1
  have n0 := hbd.2.2.1 e he.1 he.2
  have hcn := hS.cn he.1 he.2
  have lsb := ls_b hbd (b := 0)
  have hl2 := hS.2.2.1
  obtain ⟨A, hA⟩ : ∃ A : Int → Int, A = fun i => itI (fun c a => if sumS (ahS P 0 e c) (bhS P e c) = lsS P 0 then orI a (bitF (fgP P e c k)) else a) 0 i := ⟨_, rfl⟩
  have hA0 : A 0 = 0 := by rw [hA]; rfl
  have hAs : ∀ i, 0 ≤ i → A (i + 1) = if sumS (ahS P 0 e i) (bhS P e i) = lsS P 0 then orI (A i) (bitF (fgP P e i k)) else A i := fun i h => by rw [hA]; exact itI_s h
  have key := loop_up (σ := Unit) (head := fun i s => rn 58 1 [some (.ref l), some (.int (iI e)), some (.int (iI k)), some (.int (iI (A i))), some (.int (iI i))] [] (mk g I)) (Inv := fun i _ => 0 ≤ i) (n := cntS P e) (by
    intro c s c1 c0
    refine ⟨(), ?_, by omega⟩
    have bA := ahS_b hbd (b := 0) (c := c) he.1 he.2
    have bB := bhS_b hbd (c := c) he.1 he.2
    have hF := hS.fg he.1 he.2 c0 c1 hk.1 hk.2
    have bF := fgP_b (P := P) (e := e) (c := c) (k := k) n0.1
    have hct := s_costThrough (g := g) (I := I) (e := e) (c := c) hl' (by omega) (by omega) (by rw [hS.ah he.1 he.2 c0 c1]; omega) (by rw [hS.bh he.1 he.2 c0 c1]; omega)
    rw [hS.ah he.1 he.2 c0 c1, hS.bh he.1 he.2 c0 c1] at hct
    have bS := sum_b bA bB (by decide) (by decide)
    show rn _ _ _ _ _ = rn _ _ _ _ _
    rw [hAs c c0]
    by_cases hff : sumS (ahS P 0 e c) (bhS P e c) = lsS P 0
    · rw [if_pos hff]
      rw [hff] at hct
      refine (w_58_1 (by first | assumption | omega) (by first | assumption | omega)).trans ?_
      simp (maxSteps := 2000000) (disch := first | assumption | omega) only [aft_v, aft_n, aft_t, Nat.add_assoc, Nat.reduceAdd, if_true, if_false, not_true_eq_false, not_false_eq_true, Classical.not_not, Int.reduceAdd, Int.reduceSub, Int.reduceMul, Int.reduceNeg, Int.reduceLT, Int.reduceLE, Int.reduceEq, Int.add_zero, Int.zero_add, Int.sub_zero, w_58_2, w_58_3, w_58_4, w_58_5, w_58_6, w_58_7, w_58_8, w_58_9, s_row_get, hcn, if_neg (show ¬ cntS P e ≤ c by omega), hl2, s_baseOf, hF, hct, s_bitOf]
    · rw [if_neg hff]
      refine (w_58_1 (by first | assumption | omega) (by first | assumption | omega)).trans ?_
      simp (maxSteps := 2000000) (disch := first | assumption | omega) only [aft_v, aft_n, aft_t, Nat.add_assoc, Nat.reduceAdd, if_true, if_false, not_true_eq_false, not_false_eq_true, Classical.not_not, Int.reduceAdd, Int.reduceSub, Int.reduceMul, Int.reduceNeg, Int.reduceLT, Int.reduceLE, Int.reduceEq, Int.add_zero, Int.zero_add, Int.sub_zero, w_58_2, w_58_3, w_58_4, w_58_9, s_row_get, hcn, if_neg (show ¬ cntS P e ≤ c by omega), hl2, hff, hct]) 0 () n0.2.1 (Int.le_refl _)
  obtain ⟨_, key, _⟩ := key
  have key : rn 58 1 [some (.ref l), some (.int (iI e)), some (.int (iI k)), some (.int (iI (A 0))), some (.int (iI 0))] [] (mk g I) = rn 58 1 [some (.ref l), some (.int (iI e)), some (.int (iI k)), some (.int (iI (A (cntS P e)))), some (.int (iI (cntS P e)))] [] (mk g I) := key
  rw [hA0] at key
  refine c_58.trans ?_
  refine (w_58_0).trans ?_
  refine key.trans ?_
  refine (w_58_1 (by first | assumption | omega) (by first | assumption | omega)).trans ?_
  simp (maxSteps := 2000000) (disch := first | assumption | omega) only [aft_v, aft_n, aft_t, Nat.add_assoc, Nat.reduceAdd, if_true, if_false, not_true_eq_false, not_false_eq_true, Classical.not_not, Int.reduceAdd, Int.reduceSub, Int.reduceMul, Int.reduceNeg, Int.reduceLT, Int.reduceLE, Int.reduceEq, Int.add_zero, Int.zero_add, Int.sub_zero, w_58_2, w_58_10, s_row_get, hcn, if_pos (Int.le_refl (cntS P e))]
  rw [hA]; rfl
theorem s_leastShifted {b : Int} (hp : isPc g q) (hl : isPl g l) (hG : gd I q) (hP : P = pv I q) (hq : q + 17 ≤ l ∨ l + 20 ≤ q) (hS : Sol P l I) (hb : -87 ≤ b ∧ b ≤ 87) :
    ∃ I', cl 59 [.ref l, .ref q, .int (iI b)] (mk g I) = some (.inl (some (.int (iI (if lsS P 0 = -1 then -1 else lsS P (b % 12))))), mk g I') ∧ frP l I I' ∧ Sol P l I' := by
  have hbd := gd_bd hG
  rw [← hP] at hbd
  have hl' := hl
  obtain ⟨l_0, ⟨l_1, m_1, l_2⟩, ⟨l_3, m_3, l_4⟩, ⟨l_5, m_5, l_6⟩, ⟨l_7, m_7, l_8⟩, ⟨l_9, m_9, l_10⟩, ⟨l_11, m_11, l_12⟩, ⟨l_13, m_13, l_14⟩, ⟨l_15, m_15, l_16⟩, ⟨l_17, m_17, l_18⟩, l_19, l_20⟩ := hl
  have b1 := hbd.2.1
  have lsb := ls_b hbd (b := 0)
  have lsb' := ls_b hbd (b := b % 12)
  have hl2 := hS.2.2.1
  have hl1 := hS.2.1
  have hEP : pE P = I q 1 := by rw [hP]; rfl
  have hsh := hS.2.2.2.2.2.2.2.2 (b % 12) (by omega) (by omega)
  have bsh : -1 ≤ I (l + 18) (b % 12) ∧ I (l + 18) (b % 12) ≤ 1200000 := by
    rcases hsh with h | h
    · omega
    · split at h <;> omega
  by_cases h1 : lsS P 0 = -1
  · rw [if_pos h1] at hsh ⊢
    have hv : I (l + 18) (b % 12) = -1 := by omega
    refine ⟨I, ?_, frP.refl, hS⟩
    simp (maxSteps := 2000000) (disch := first | assumption | omega) only [aft_v, aft_n, aft_t, Nat.add_assoc, Nat.reduceAdd, if_true, if_false, not_true_eq_false, not_false_eq_true, Classical.not_not, Int.reduceAdd, Int.reduceSub, Int.reduceMul, Int.reduceNeg, Int.reduceLT, Int.reduceLE, Int.reduceEq, Int.add_zero, Int.zero_add, Int.sub_zero, c_59, w_59_0, w_59_1, w_59_2, w_59_3, w_59_4, w_59_5, w_59_6, w_59_7, w_59_8, s_floorMod, s_row_get, hl2, h1, hv]
  · rw [if_neg h1] at hsh ⊢
    by_cases h2 : I (l + 18) (b % 12) = -1
    · obtain ⟨J, d1, d2, d3⟩ := s_fillAhead (g := g) (I := I) (P := P) (b := b % 12) (R := l + 15) hp hl' hG hP hq (by omega) (Or.inr rfl) (by rw [hl1, hEP]) hS.2.2.2.1 hS.2.2.2.2.1
      have d2 : onl (l + 16) I J := d2
      have j1 : J l 1 = pE P := by rw [d2 l (by omega), hl1]
      have hSJ : Sol P l J := hS.mono (fun p _ _ => d2 p (by omega)) (d2 _ (by omega))
      have hLE : cl 44 [.ref l, .ref (l + 15)] (mk g J) = some (.inl (some (.int (iI (lsS P (b % 12))))), mk g J) := by
        by_cases hz : pE P = 0
        · have := s_leastAtEnd0 (g := g) (I := J) (R := l + 15) hl' (by rw [j1, hz])
          unfold lsS
          rw [if_pos hz]
          exact this
        · have nb := hbd.2.2.1 (pE P - 1) (by omega) (by omega)
          have hc9 : J (l + 2) (pE P - 1) = cntS P (pE P - 1) := hSJ.cn (by omega) (by omega)
          have := s_leastAtEnd (g := g) (I := J) (A := 1200000) (R := l + 15) hl' l_15 l_16 (by omega) (by rw [j1, hc9]; exact nb.2) (by decide) (fun i i0 i1 => by
            rw [j1] at i1 ⊢
            rw [hc9] at i1
            rw [show J (l + 15 + 1) ((pE P - 1) * 10 + i) = ahS P (b % 12) (pE P - 1) i from d3 (pE P - 1) (by omega) (by omega) i i0 i1]
            exact ahS_b hbd (by omega) (by omega))
          rw [j1, hc9] at this
          rw [this]
          refine ans_i ?_
          unfold lsS
          rw [if_neg hz]
          exact mnI_congr (fun i i0 i1 => d3 (pE P - 1) (by omega) (by omega) i i0 i1) nb.2.1
      have j18 : J (l + 18) = I (l + 18) := d2 _ (by omega)
      have w : ∀ p, ¬ p = l + 18 → upd2 J (l + 18) (b % 12) (lsS P (b % 12)) p = J p := fun p hp => funext fun i => upd2_p hp
      refine ⟨upd2 J (l + 18) (b % 12) (lsS P (b % 12)), ?_, (d2.frP (by omega)).upd (by omega), ?_⟩
      · simp (maxSteps := 2000000) (disch := first | assumption | omega) only [aft_v, aft_n, aft_t, Nat.add_assoc, Nat.reduceAdd, if_true, if_false, not_true_eq_false, not_false_eq_true, Classical.not_not, Int.reduceAdd, Int.reduceSub, Int.reduceMul, Int.reduceNeg, Int.reduceLT, Int.reduceLE, Int.reduceEq, Int.add_zero, Int.zero_add, Int.sub_zero, c_59, w_59_0, w_59_1, w_59_2, w_59_3, w_59_4, w_59_5, w_59_6, w_59_7, w_59_8, s_floorMod, s_row_get, s_row_put, hl2, h1, h2, d1, hLE, upd2_at]
      · obtain ⟨a1, a2, a3, a4, a5, a6, a7, a8, a9⟩ := hSJ
        refine ⟨by rw [w l (by omega)]; exact a1, by rw [w l (by omega)]; exact a2, by rw [w l (by omega)]; exact a3, fun e x y => (a4 e x y).mono (w _ (by omega)) (w _ (by omega)) (w _ (by omega)), ?_, ?_, ?_, ?_, fun s x y => ?_⟩
        · unfold StF; rw [w (l + 8) (by omega)]; exact a5
        · unfold AhF; rw [w (l + 10) (by omega)]; exact a6
        · unfold BhF; rw [w (l + 12) (by omega)]; exact a7
        · rw [w (l + 14) (by omega)]; exact a8
        · by_cases hs : s = b % 12
          · subst hs; rw [upd2_at, if_neg h1]; exact Or.inr rfl
          · rw [upd2_i hs]; exact a9 s x y
    · have hv : I (l + 18) (b % 12) = lsS P (b % 12) := by omega
      refine ⟨I, ?_, frP.refl, hS⟩
      simp (maxSteps := 2000000) (disch := first | assumption | omega) only [aft_v, aft_n, aft_t, Nat.add_assoc, Nat.reduceAdd, if_true, if_false, not_true_eq_false, not_false_eq_true, Classical.not_not, Int.reduceAdd, Int.reduceSub, Int.reduceMul, Int.reduceNeg, Int.reduceLT, Int.reduceLE, Int.reduceEq, Int.add_zero, Int.zero_add, Int.sub_zero, c_59, w_59_0, w_59_1, w_59_2, w_59_3, w_59_4, w_59_5, w_59_6, w_59_7, w_59_8, s_floorMod, s_row_get, hl2, h1, h2]
      rw [hv]
theorem s_leastWithRest {e : Int} (hp : isPc g q) (hl : isPl g l) (hG : gd I q) (hP : P = pv I q) (hS : Sol P l I) (he : 0 ≤ e ∧ e + 1 < pE P) :
    cl 60 [.ref l, .ref q, .int (iI e)] (mk g I) = some (.inl (some (.int (iI (lrS P e)))), mk g I) := by
  have hbd := gd_bd hG
  rw [← hP] at hbd
  have hl' := hl
  have hp0 := hp.1
  obtain ⟨l_0, ⟨l_1, m_1, l_2⟩, ⟨l_3, m_3, l_4⟩, ⟨l_5, m_5, l_6⟩, ⟨l_7, m_7, l_8⟩, ⟨l_9, m_9, l_10⟩, ⟨l_11, m_11, l_12⟩, ⟨l_13, m_13, l_14⟩, ⟨l_15, m_15, l_16⟩, ⟨l_17, m_17, l_18⟩, l_19, l_20⟩ := hl
  have b1 := hbd.2.1
  have n0 := hbd.2.2.1 e he.1 (by omega)
  have n1 := hbd.2.2.1 (e + 1) (by omega) (by omega)
  have z0 : pSz P e = I (q + 2) e := by rw [hP]; rfl
  have z1 : pSz P (e + 1) = I (q + 2) (e + 1) := by rw [hP]; rfl
  have hcn := hS.cn he.1 (by omega)
  have hcn1 := hS.cn (e := e + 1) (by omega) (by omega)
  obtain ⟨T, hT⟩ : ∃ T : Int → Int → Int, T = fun c n => sumS (ahS P 0 e c) (sumS (stepW P 9 e c n) (frS P (e + 1) n)) := ⟨_, rfl⟩
  obtain ⟨B, hB⟩ : ∃ B : Int → Int → Int → Int, B = fun c a i => itI (fun n b => lesS b (T c n)) a i := ⟨_, rfl⟩
  obtain ⟨A, hA⟩ : ∃ A : Int → Int, A = fun i => itI (fun c a => if ahS P 0 e c = -1 then a else B c a (cntS P (e + 1))) (-1) i := ⟨_, rfl⟩
  have hTb : ∀ c n, -1 ≤ T c n ∧ T c n ≤ 3000000 := fun c n => by
    rw [hT]
    show -1 ≤ sumS (ahS P 0 e c) (sumS (stepW P 9 e c n) (frS P (e + 1) n)) ∧ sumS (ahS P 0 e c) (sumS (stepW P 9 e c n) (frS P (e + 1) n)) ≤ 3000000
    have := sum_b (ahS_b hbd (b := 0) (c := c) he.1 (by omega : e < pE P)) (sum_b (hbd.2.2.2.2.1 e 9 c n he.1 he.2 (by decide)) (fr_ge hbd (c := n) (e := e + 1) (by omega) (by omega)) (by decide) (by decide)) (by decide) (by decide)
    omega
  have hBs : ∀ c a i, 0 ≤ i → B c a (i + 1) = lesS (B c a i) (T c i) := fun c a i h => by rw [hB]; exact itI_s h
  have hBb : ∀ c a i, -1 ≤ a ∧ a ≤ 3000000 → 0 ≤ i → -1 ≤ B c a i ∧ B c a i ≤ 3000000 := fun c a i ha hi => by
    rw [hB]
    exact itI_ind (fun _ x => -1 ≤ x ∧ x ≤ 3000000) ha (fun n x n0 _ hx => les_b hx (hTb c n)) hi
  have hAs : ∀ i, 0 ≤ i → A (i + 1) = if ahS P 0 e i = -1 then A i else B i (A i) (cntS P (e + 1)) := fun i h => by rw [hA]; exact itI_s h
  have hAb : ∀ i, 0 ≤ i → -1 ≤ A i ∧ A i ≤ 3000000 := fun i hi => by
    rw [hA]
    refine itI_ind (fun _ x => -1 ≤ x ∧ x ≤ 3000000) (by decide) (fun c x c0 _ hx => ?_) hi
    split
    · exact hx
    · exact hBb _ _ _ hx n1.2.1
  have key := loop_up (σ := Option Value × Option Value × Option Value) (head := fun i s => rn 60 1 [some (.ref l), some (.ref q), some (.int (iI e)), some (.int (iI (A i))), some (.int (iI i)), s.1, s.2.1, s.2.2] [] (mk g I)) (Inv := fun i _ => 0 ≤ i) (n := cntS P e) (by
    rintro c ⟨o5, o6, o7⟩ c1 c0
    have hAh := hS.ah he.1 (by omega) c0 c1
    have bA := ahS_b hbd (b := 0) (c := c) he.1 (by omega : e < pE P)
    by_cases hm : ahS P 0 e c = -1
    · refine ⟨(some (.int (iI (-1))), some (.int (iI 0)), o7), ?_, by omega⟩
      show rn _ _ _ _ _ = rn _ _ _ _ _
      rw [hAs c c0, if_pos hm]
      refine (w_60_1 (by first | assumption | omega) (by first | assumption | omega)).trans ?_
      simp (maxSteps := 2000000) (disch := first | assumption | omega) only [aft_v, aft_n, aft_t, Nat.add_assoc, Nat.reduceAdd, if_true, if_false, not_true_eq_false, not_false_eq_true, Classical.not_not, Int.reduceAdd, Int.reduceSub, Int.reduceMul, Int.reduceNeg, Int.reduceLT, Int.reduceLE, Int.reduceEq, Int.add_zero, Int.zero_add, Int.sub_zero, w_60_2, w_60_3, w_60_4, w_60_5, w_60_6, w_60_17, s_row_get, hcn, if_neg (show ¬ cntS P e ≤ c by omega), s_placeOfChoice, hAh, hm]
    · have inner := loop_up (σ := Option Value) (head := fun n s => rn 60 6 [some (.ref l), some (.ref q), some (.int (iI e)), some (.int (iI (B c (A c) n))), some (.int (iI c)), some (.int (iI (ahS P 0 e c))), some (.int (iI n)), s] [] (mk g I)) (Inv := fun n _ => 0 ≤ n) (n := cntS P (e + 1)) (by
        intro n s nn1 nn0
        have hF := fun k (k0 : 0 ≤ k) (k1 : k < pSz P e) => hS.fg he.1 (by omega) c0 c1 k0 k1
        have hF' := fun k (k0 : 0 ≤ k) (k1 : k < pSz P (e + 1)) => hS.fg (e := e + 1) (by omega) (by omega) nn0 nn1 k0 k1
        have hx := s_costOfPassage (g := g) (I := I) (e := e) (w := 9) (r := (e * 10 + c) * 3) (r' := ((e + 1) * 10 + n) * 3) (R := l + 3) hp hG.1 (by omega) (by decide) l_3 (by omega) (by omega) (by omega) (by omega) (fun k k0 k1 => by rw [hF k k0 (by omega)]; exact fgP_b n0.1) (fun k k0 k1 => by rw [hF' k k0 (by omega)]; exact fgP_b n1.1)
        rw [← hP, pass_F (G := fgP P e c) (G' := fgP P (e + 1) n) hbd.1 n0.1.1 n1.1.1 hF hF'] at hx
        have hx : cl 22 [.ref q, .int (iI e), .int (iI 9), .ref (l + 3), .int (iI ((e * 10 + c) * 3)), .int (iI (((e + 1) * 10 + n) * 3))] (mk g I) = some (.inl (some (.int (iI (stepW P 9 e c n)))), mk g I) := hx
        have bW := hbd.2.2.2.2.1 e 9 c n he.1 he.2 (by decide)
        have bO := hbd.2.2.2.1 0 (e + 1) n (by omega) (by omega)
        have bB := bhS_b hbd (c := n) (e := e + 1) (by omega) (by omega)
        have bF := fr_ge hbd (c := n) (e := e + 1) (by omega) (by omega)
        have hcf := s_costFrom (g := g) (I := I) (e := e + 1) (c := n) hl' (by omega) (by omega) (by rw [hS.ow (by omega) (by omega) nn0 nn1]; omega) (by rw [hS.bh (by omega) (by omega) nn0 nn1]; omega)
        rw [hS.ow (by omega) (by omega) nn0 nn1, hS.bh (by omega) (by omega) nn0 nn1] at hcf
        have hcf : cl 42 [.ref l, .int (iI (e + 1)), .int (iI n)] (mk g I) = some (.inl (some (.int (iI (frS P (e + 1) n)))), mk g I) := hcf
        have bWF := sum_b bW bF (by decide) (by decide)
        have hTv : T c n = sumS (ahS P 0 e c) (sumS (stepW P 9 e c n) (frS P (e + 1) n)) := by rw [hT]
        have bT := hTb c n
        have bBc := hBb c (A c) n (hAb c c0) nn0
        refine ⟨some (.int (iI (stepW P 9 e c n))), ?_, by omega⟩
        show rn _ _ _ _ _ = rn _ _ _ _ _
        rw [hBs c _ n nn0]
        refine (w_60_6 (by first | assumption | omega) (by first | assumption | omega)).trans ?_
        refine (if_neg (by omega)).trans ?_
        simp (maxSteps := 2000000) (disch := first | assumption | omega) only [aft_v, aft_n, aft_t, Nat.add_assoc, Nat.reduceAdd, if_true, if_false, not_true_eq_false, not_false_eq_true, Classical.not_not, Int.reduceAdd, Int.reduceSub, Int.reduceMul, Int.reduceNeg, Int.reduceLT, Int.reduceLE, Int.reduceEq, Int.add_zero, Int.zero_add, Int.sub_zero, w_60_7, w_60_8, w_60_9, w_60_10, w_60_11, w_60_12, w_60_13, w_60_14, w_60_15, w_60_16, s_row_get, hcn1, if_neg (show ¬ cntS P (e + 1) ≤ n by omega), s_baseOf, hx, hcf, s_sumOf, ← hTv, s_lesserOf]) 0 o7 n1.2.1 (Int.le_refl _)
      obtain ⟨p7, e1, -⟩ := inner
      have hB0 : B c (A c) 0 = A c := by rw [hB]; rfl
      have e1 : rn 60 6 [some (.ref l), some (.ref q), some (.int (iI e)), some (.int (iI (B c (A c) 0))), some (.int (iI c)), some (.int (iI (ahS P 0 e c))), some (.int (iI 0)), o7] [] (mk g I) = rn 60 6 [some (.ref l), some (.ref q), some (.int (iI e)), some (.int (iI (B c (A c) (cntS P (e + 1))))), some (.int (iI c)), some (.int (iI (ahS P 0 e c))), some (.int (iI (cntS P (e + 1)))), p7] [] (mk g I) := e1
      rw [hB0] at e1
      refine ⟨(some (.int (iI (ahS P 0 e c))), some (.int (iI (cntS P (e + 1)))), p7), ?_, by omega⟩
      show rn _ _ _ _ _ = rn _ _ _ _ _
      rw [hAs c c0, if_neg hm]
      refine (w_60_1 (by first | assumption | omega) (by first | assumption | omega)).trans ?_
      simp (maxSteps := 2000000) (disch := first | assumption | omega) only [aft_v, aft_n, aft_t, Nat.add_assoc, Nat.reduceAdd, if_true, if_false, not_true_eq_false, not_false_eq_true, Classical.not_not, Int.reduceAdd, Int.reduceSub, Int.reduceMul, Int.reduceNeg, Int.reduceLT, Int.reduceLE, Int.reduceEq, Int.add_zero, Int.zero_add, Int.sub_zero, w_60_2, w_60_3, w_60_4, w_60_5, s_row_get, hcn, if_neg (show ¬ cntS P e ≤ c by omega), s_placeOfChoice, hAh]
      rw [e1]
      refine (w_60_6 (by first | assumption | omega) (by first | assumption | omega)).trans ?_
      refine (if_neg (by omega)).trans ?_
      simp (maxSteps := 2000000) (disch := first | assumption | omega) only [aft_v, aft_n, aft_t, Nat.add_assoc, Nat.reduceAdd, if_true, if_false, not_true_eq_false, not_false_eq_true, Classical.not_not, Int.reduceAdd, Int.reduceSub, Int.reduceMul, Int.reduceNeg, Int.reduceLT, Int.reduceLE, Int.reduceEq, Int.add_zero, Int.zero_add, Int.sub_zero, w_60_7, w_60_8, w_60_17, s_row_get, hcn1, if_pos (Int.le_refl (cntS P (e + 1)))]) 0 (none, none, none) n0.2.1 (Int.le_refl _)
  obtain ⟨⟨o5, o6, o7⟩, key, _⟩ := key
  have key : rn 60 1 [some (.ref l), some (.ref q), some (.int (iI e)), some (.int (iI (A 0))), some (.int (iI 0)), none, none, none] [] (mk g I) = rn 60 1 [some (.ref l), some (.ref q), some (.int (iI e)), some (.int (iI (A (cntS P e)))), some (.int (iI (cntS P e))), o5, o6, o7] [] (mk g I) := key
  have hA0 : A 0 = -1 := by rw [hA]; rfl
  rw [hA0] at key
  refine c_60.trans ?_
  refine (w_60_0).trans ?_
  refine key.trans ?_
  refine (w_60_1 (by first | assumption | omega) (by first | assumption | omega)).trans ?_
  simp (maxSteps := 2000000) (disch := first | assumption | omega) only [aft_v, aft_n, aft_t, Nat.add_assoc, Nat.reduceAdd, if_true, if_false, not_true_eq_false, not_false_eq_true, Classical.not_not, Int.reduceAdd, Int.reduceSub, Int.reduceMul, Int.reduceNeg, Int.reduceLT, Int.reduceLE, Int.reduceEq, Int.add_zero, Int.zero_add, Int.sub_zero, w_60_2, w_60_18, s_row_get, hcn, if_pos (Int.le_refl (cntS P e))]
  rw [hA, hB, hT]; rfl
end AS2
