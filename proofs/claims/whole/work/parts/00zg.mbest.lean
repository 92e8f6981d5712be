/-! The reference: the best cost, the first cheapest fingering. -/
theorem fs_ex {P : PT} (h : bdP P) (hl : ¬ lsS P 0 = -1) (e : Nat) (he : (e : Int) < pE P) : ∃ c, 0 ≤ c ∧ c < cntS P e ∧ (if (e : Int) = 0 then frS P 0 c else sumS (stepS P ((e : Int) - 1) (fsS P ((e : Int) - 1)) c) (frS P e c)) = (if (e : Int) = 0 then lsS P 0 else (fsN P ((e : Int) - 1).toNat).2) := by
  cases e with
  | zero =>
    have h1 := ls_fr h (by omega)
    have hn := (h.2.2.1 0 (by omega) (by omega)).2.1
    have hge := fun i (_ : 0 ≤ i) (_ : i < cntS P 0) => (fr_ge h (c := i) (e := 0) (by omega) (by omega)).1
    have h0 : 0 ≤ lsS P 0 := by have := mn_ge hn hge; omega
    obtain ⟨c, c0, c1, hc⟩ := mn_at hn hge h0 h1.symm
    exact ⟨c, c0, c1, by rw [if_pos (show ((0 : Nat) : Int) = 0 from rfl), if_pos (show ((0 : Nat) : Int) = 0 from rfl)]; exact hc⟩
  | succ e =>
    obtain ⟨ih1, ih2, ih3⟩ := fs_ok h hl e (by omega)
    have hn := (h.2.2.1 ((e + 1 : Nat) : Int) (by omega) (by omega)).2.1
    have hge := fun i (_ : 0 ≤ i) (_ : i < cntS P (e + 1 : Nat)) => sum_ge (h.2.2.2.2.1 e (pRe P e) (fsN P e).1 i (by omega) (by omega) (h.2.2.2.2.2 _ (by omega) (by omega)).1).1 (fr_ge h (c := i) (e := (e + 1 : Nat)) (by omega) (by omega)).1
    have hb : mnI (fun k => sumS (stepS P e (fsN P e).1 k) (frS P (e + 1 : Nat) k)) (cntS P (e + 1 : Nat)) = (fsN P e).2 := by
      rw [ih2, bhS_s (by omega)]
      rfl
    obtain ⟨c, c0, c1, hc⟩ := mn_at hn hge ih3 hb
    refine ⟨c, c0, c1, ?_⟩
    rw [if_neg (by omega), if_neg (by omega)]
    unfold fsS
    rw [show ((e + 1 : Nat) : Int) - 1 = e by omega, show ((e : Int)).toNat = e by omega]
    exact hc
section MB
variable {g : Gm} {I : Mm} {m : Nat} {P : PT}
/-- all that laysLeast lays -/
def LaM (P : PT) (m : Nat) (g : Gm) (I : Mm) : Prop := (∀ e, 0 ≤ e → e < pE P → ShM P m I e) ∧ ∀ e, 0 ≤ e → e < pE P → LfM P m g I e
def frM (m : Nat) (I I' : Mm) : Prop := ∀ p, ¬ p = m + 8 → ¬ p = m + 9 → ¬ p = m + 10 → ¬ p = m + 11 → ¬ p = m + 13 → I' p = I p
def frC (m : Nat) (I I' : Mm) : Prop := ∀ p, ¬ p = m + 8 → ¬ p = m + 9 → ¬ p = m + 10 → ¬ p = m + 11 → ¬ p = m + 13 → ¬ p = m + 12 → I' p = I p
def frML (m : Nat) (L L' : Nat → Int → Int) : Prop := ∀ p, ¬ p = m + 15 → ¬ p = m + 16 → L' p = L p
theorem ShM.mono {e : Int} {I' : Mm} (h : ShM P m I e) (h9 : I' (m + 9) = I (m + 9)) (h10 : I' (m + 10) = I (m + 10)) (h11 : I' (m + 11) = I (m + 11)) : ShM P m I' e := by
  unfold ShM; rw [h9, h10, h11]; exact h
theorem s_laysLeast {L : Nat → Int → Int} (hm : isM g m) (hW : Wf P) (hP : P = mv I m) :
    ∃ I' L', cl 208 [.ref m] (mk (gL g L) I) = some (.inl none, mk (gL g L') I') ∧ frM m I I' ∧ frML m L L' ∧ LaM P m (gL g L') I' := by
  have hm' : isM (gL g L) m := hm
  have hbd := Wf_bd hW
  have w1 := hW.2.1
  have hEP : pE P = I (m + 1) 0 := by rw [hP]; rfl
  obtain ⟨J, j1, j2, j3⟩ := s_laysShapes (g := gL g L) (I := I) hm' (by rw [← hP]; exact hW) hP
  have jm : J (m + 1) = I (m + 1) := j2 _ (by omega) (by omega) (by omega) (by omega)
  have hPJ : P = mv J m := by rw [hP]; unfold mv; rw [jm]
  have hm0 := hm
  obtain ⟨t_0, ⟨t_1, d_1, n_1⟩, ⟨t_2, d_2, n_2⟩, ⟨t_3, d_3, n_3⟩, ⟨t_4, d_4, n_4⟩, ⟨t_5, d_5, n_5⟩, ⟨t_6, n_6⟩, ⟨t_7, d_7, n_7⟩, ⟨t_8, d_8, n_8⟩, ⟨t_9, d_9, n_9⟩, ⟨t_10, d_10, n_10⟩, ⟨t_11, d_11, n_11⟩, ⟨t_12, d_12, n_12⟩, ⟨t_13, d_13, n_13⟩, ⟨t_14, d_14, n_14⟩, ⟨t_15, n_15⟩, ⟨t_16, n_16⟩, ⟨t_17, d_17, n_17⟩, ⟨t_18, d_18, n_18⟩⟩ := hm0
  have hev : ∀ L K, K (m + 1) = I (m + 1) → cl 182 [.ref m] (mk (gL g L) K) = some (.inl (some (.int (iI (pE P)))), mk (gL g L) K) := fun L K hK => by rw [hEP, ← hK]; exact s_events (g := gL g L) hm
  have outer := loop_up (σ := Mm × (Nat → Int → Int) × Option Value) (head := fun i s => rn 208 3 [some (.ref m), some (.int (iI (pE P - 1 - i))), s.2.2] [] (mk (gL g s.2.1) s.1))
    (Inv := fun i s => 0 ≤ i ∧ onl (m + 13) J s.1 ∧ frML m L s.2.1 ∧ ∀ e, pE P - 1 - i < e → e < pE P → LfM P m (gL g s.2.1) s.1 e) (n := pE P) (by
    rintro i ⟨K, L1, o2⟩ hi ⟨i0, h1, h2, h3⟩
    obtain ⟨e, he⟩ : ∃ e : Int, e = pE P - 1 - i := ⟨_, rfl⟩
    have h1 : onl (m + 13) J K := h1
    have h2 : frML m L L1 := h2
    have h3 : ∀ e', e < e' → e' < pE P → LfM P m (gL g L1) K e' := by rw [he]; exact h3
    have n0 := hbd.2.2.1 e (by omega) (by omega)
    have inner := loop_up (σ := Mm × (Nat → Int → Int)) (head := fun c s => rn 208 5 [some (.ref m), some (.int (iI e)), some (.int (iI (10 * e + c)))] [] (mk (gL g s.2) s.1))
      (Inv := fun c s => 0 ≤ c ∧ onl (m + 13) J s.1 ∧ frML m L s.2 ∧ (∀ e', e < e' → e' < pE P → LfM P m (gL g s.2) s.1 e') ∧ ∀ c', 0 ≤ c' → c' < c → s.1 (m + 13) (10 * e + c') = farS (frS P e c') ∧ s.2 (m + 15) (10 * e + c') = (bcS P e c').2.1 ∧ s.2 (m + 16) (10 * e + c') = (bcS P e c').2.2) (n := cntS P e) (by
      rintro c ⟨K, L1⟩ c1 ⟨c0, h1, h2, h3, h4⟩
      have h1 : onl (m + 13) J K := h1
      have h2 : frML m L L1 := h2
      have h3 : ∀ e', e < e' → e' < pE P → LfM P m (gL g L1) K e' := h3
      have h4 : ∀ c', 0 ≤ c' → c' < c → K (m + 13) (10 * e + c') = farS (frS P e c') ∧ L1 (m + 15) (10 * e + c') = (bcS P e c').2.1 ∧ L1 (m + 16) (10 * e + c') = (bcS P e c').2.2 := h4
      have km : K (m + 1) = I (m + 1) := by rw [h1 _ (by omega), jm]
      have hSK : ∀ e, 0 ≤ e → e < pE P → ShM P m K e := fun e a b => (j3 e a b).mono (h1 _ (by omega)) (h1 _ (by omega)) (h1 _ (by omega))
      obtain ⟨L2, q1, q2, q3, q4⟩ := s_laysFrom (g := g) (I := K) (L := L1) (e := e) (c := c) hm hW (by rw [hP]; unfold mv; rw [km]) (by omega) ⟨c0, c1⟩ hSK (fun h => h3 (e + 1) (by omega) h)
      have k11 : K (m + 11) e = cntS P e := (hSK e (by omega) (by omega)).1
      refine ⟨(upd2 K (m + 13) (10 * e + c) (farS (frS P e c)), L2), ?_, by omega, h1.upd, fun p a b => ?_, fun e' a b c' ca cb => ?_, fun c' a b => ?_⟩
      · show rn _ _ _ _ (mk (gL g L1) K) = rn _ _ [_, _, some (.int (iI (10 * e + (c + 1))))] _ _
        rw [← Int.add_assoc]
        refine (w_208_5 (by first | assumption | omega | (simp (disch := omega) only [gtL, gnL, gL_1, gL_gL, gL_21, upd2_p]; first | assumption | omega)) (by first | assumption | omega | (simp (disch := omega) only [gtL, gnL, gL_1, gL_gL, gL_21, upd2_p]; first | assumption | omega)) (by first | assumption | omega | (simp (disch := omega) only [gtL, gnL, gL_1, gL_gL, gL_21, upd2_p]; first | assumption | omega)) (by first | assumption | omega | (simp (disch := omega) only [gtL, gnL, gL_1, gL_gL, gL_21, upd2_p]; first | assumption | omega)) (by first | assumption | omega | (simp (disch := omega) only [gtL, gnL, gL_1, gL_gL, gL_21, upd2_p]; first | assumption | omega)) (by first | assumption | omega | (simp (disch := omega) only [gtL, gnL, gL_1, gL_gL, gL_21, upd2_p]; first | assumption | omega)) (by first | assumption | omega | (simp (disch := omega) only [gtL, gnL, gL_1, gL_gL, gL_21, upd2_p]; first | assumption | omega)) (by first | assumption | omega | (simp (disch := omega) only [gtL, gnL, gL_1, gL_gL, gL_21, upd2_p]; first | assumption | omega)) (by first | assumption | omega | (simp (disch := omega) only [gtL, gnL, gL_1, gL_gL, gL_21, upd2_p]; first | assumption | omega))).trans ?_
        refine (if_neg (by omega)).trans ?_
        simp (maxSteps := 2000000) (disch := first | assumption | omega | (simp (disch := omega) only [gL_gL, gL_21, gtL, gnL, gL_1, gL_gL, gL_21, upd2_p]; first | assumption | omega)) only [gL_gL, gL_21, aft_v, aft_n, aft_t, Nat.add_assoc, Nat.reduceAdd, if_true, if_false, not_true_eq_false, not_false_eq_true, Classical.not_not, Int.reduceAdd, Int.reduceSub, Int.reduceMul, Int.reduceNeg, Int.reduceLT, Int.reduceLE, Int.reduceEq, Int.add_zero, Int.zero_add, Int.sub_zero, w_208_6, w_208_7, q1]
      · show L2 p = _
        rw [← h2 p a b]; exact funext fun i => q2 p i (by omega) (by omega)
      · obtain ⟨x1, x2, x3⟩ := h3 e' a b c' ca cb
        have nb := hbd.2.2.1 e' (by omega) b
        refine ⟨by show upd2 _ _ _ _ _ _ = _; rw [upd2_i (by omega)]; exact x1, ?_, ?_⟩
        · show L2 _ _ = _; rw [q2 _ _ (by omega) (by omega)]; exact x2
        · show L2 _ _ = _; rw [q2 _ _ (by omega) (by omega)]; exact x3
      · by_cases hcc : c' = c
        · subst hcc; exact ⟨upd2_at, q3, q4⟩
        · obtain ⟨x1, x2, x3⟩ := h4 c' a (by omega)
          refine ⟨by show upd2 _ _ _ _ _ _ = _; rw [upd2_i (by omega)]; exact x1, ?_, ?_⟩
          · show L2 _ _ = _; rw [q2 _ _ (by omega) (by omega)]; exact x2
          · show L2 _ _ = _; rw [q2 _ _ (by omega) (by omega)]; exact x3) 0 (K, L1) n0.2.1 ⟨Int.le_refl _, h1, h2, h3, fun c' a b => by omega⟩
    obtain ⟨⟨K2, L2⟩, e1, -, k1, k2, k3, k4⟩ := inner
    have e1 : rn 208 5 [some (.ref m), some (.int (iI e)), some (.int (iI (10 * e + 0)))] [] (mk (gL g L1) K) = rn 208 5 [some (.ref m), some (.int (iI e)), some (.int (iI (10 * e + cntS P e)))] [] (mk (gL g L2) K2) := e1
    rw [Int.add_zero] at e1
    have k1 : onl (m + 13) J K2 := k1
    have k11 : K2 (m + 11) e = cntS P e := by rw [k1 _ (by omega)]; exact (j3 e (by omega) (by omega)).1
    refine ⟨(K2, L2, some (.int (iI (10 * e + cntS P e)))), ?_, by omega, k1, k2, fun e' a b => ?_⟩
    · show rn _ _ [_, some (.int (iI (pE P - 1 - i))), _] _ (mk (gL g L1) K) = rn _ _ [_, some (.int (iI (pE P - 1 - (i + 1)))), _] _ _
      rw [show pE P - 1 - (i + 1) = e + -1 by omega, ← he]
      refine (w_208_3 (by first | assumption | omega | (simp (disch := omega) only [gtL, gnL, gL_1, gL_gL, gL_21, upd2_p]; first | assumption | omega)) (by first | assumption | omega | (simp (disch := omega) only [gtL, gnL, gL_1, gL_gL, gL_21, upd2_p]; first | assumption | omega))).trans ?_
      refine (if_neg (by omega)).trans ?_
      simp (maxSteps := 2000000) (disch := first | assumption | omega | (simp (disch := omega) only [gL_gL, gL_21, gtL, gnL, gL_1, gL_gL, gL_21, upd2_p]; first | assumption | omega)) only [gL_gL, gL_21, aft_v, aft_n, aft_t, Nat.add_assoc, Nat.reduceAdd, if_true, if_false, not_true_eq_false, not_false_eq_true, Classical.not_not, Int.reduceAdd, Int.reduceSub, Int.reduceMul, Int.reduceNeg, Int.reduceLT, Int.reduceLE, Int.reduceEq, Int.add_zero, Int.zero_add, Int.sub_zero, w_208_4]
      rw [e1]
      refine (w_208_5 (by first | assumption | omega | (simp (disch := omega) only [gtL, gnL, gL_1, gL_gL, gL_21, upd2_p]; first | assumption | omega)) (by first | assumption | omega | (simp (disch := omega) only [gtL, gnL, gL_1, gL_gL, gL_21, upd2_p]; first | assumption | omega)) (by first | assumption | omega | (simp (disch := omega) only [gtL, gnL, gL_1, gL_gL, gL_21, upd2_p]; first | assumption | omega)) (by first | assumption | omega | (simp (disch := omega) only [gtL, gnL, gL_1, gL_gL, gL_21, upd2_p]; first | assumption | omega)) (by first | assumption | omega | (simp (disch := omega) only [gtL, gnL, gL_1, gL_gL, gL_21, upd2_p]; first | assumption | omega)) (by first | assumption | omega | (simp (disch := omega) only [gtL, gnL, gL_1, gL_gL, gL_21, upd2_p]; first | assumption | omega)) (by first | assumption | omega | (simp (disch := omega) only [gtL, gnL, gL_1, gL_gL, gL_21, upd2_p]; first | assumption | omega)) (by first | assumption | omega | (simp (disch := omega) only [gtL, gnL, gL_1, gL_gL, gL_21, upd2_p]; first | assumption | omega)) (by first | assumption | omega | (simp (disch := omega) only [gtL, gnL, gL_1, gL_gL, gL_21, upd2_p]; first | assumption | omega))).trans ?_
      rw [k11]
      refine (if_pos (by omega)).trans ?_
      simp (maxSteps := 2000000) (disch := first | assumption | omega | (simp (disch := omega) only [gL_gL, gL_21, gtL, gnL, gL_1, gL_gL, gL_21, upd2_p]; first | assumption | omega)) only [gL_gL, gL_21, aft_v, aft_n, aft_t, Nat.add_assoc, Nat.reduceAdd, if_true, if_false, not_true_eq_false, not_false_eq_true, Classical.not_not, Int.reduceAdd, Int.reduceSub, Int.reduceMul, Int.reduceNeg, Int.reduceLT, Int.reduceLE, Int.reduceEq, Int.add_zero, Int.zero_add, Int.sub_zero, w_208_8]
    · by_cases hee : e' = e
      · subst hee; exact k4
      · exact k3 e' (by omega) b) 0 (J, L, none) w1.1 ⟨Int.le_refl _, onl.refl, fun _ _ _ => rfl, fun e a b => by omega⟩
  obtain ⟨⟨K, L1, o2⟩, e1, -, k1, k2, k3⟩ := outer
  have e1 : rn 208 3 [some (.ref m), some (.int (iI (pE P - 1 - 0))), none] [] (mk (gL g L) J) = rn 208 3 [some (.ref m), some (.int (iI (pE P - 1 - pE P))), o2] [] (mk (gL g L1) K) := e1
  rw [Int.sub_zero] at e1
  have k1 : onl (m + 13) J K := k1
  refine ⟨K, L1, ?_, fun p a b c d f => (k1 p f).trans (j2 p a b c d), k2, ⟨fun e a b => (j3 e a b).mono (k1 _ (by omega)) (k1 _ (by omega)) (k1 _ (by omega)), fun e a b => k3 e (by omega) b⟩⟩
  simp (maxSteps := 2000000) (disch := first | assumption | omega | (simp (disch := omega) only [gL_gL, gL_21, gtL, gnL, gL_1, gL_gL, gL_21, upd2_p]; first | assumption | omega)) only [gL_gL, gL_21, aft_v, aft_n, aft_t, Nat.add_assoc, Nat.reduceAdd, if_true, if_false, not_true_eq_false, not_false_eq_true, Classical.not_not, Int.reduceAdd, Int.reduceSub, Int.reduceMul, Int.reduceNeg, Int.reduceLT, Int.reduceLE, Int.reduceEq, Int.add_zero, Int.zero_add, Int.sub_zero, c_208, w_208_0, w_208_1, w_208_2, j1, hev _ _ jm]
  rw [e1]
  refine (w_208_3 (by first | assumption | omega | (simp (disch := omega) only [gtL, gnL, gL_1, gL_gL, gL_21, upd2_p]; first | assumption | omega)) (by first | assumption | omega | (simp (disch := omega) only [gtL, gnL, gL_1, gL_gL, gL_21, upd2_p]; first | assumption | omega))).trans ?_
  refine (if_pos (by omega)).trans ?_
  simp (maxSteps := 2000000) (disch := first | assumption | omega | (simp (disch := omega) only [gL_gL, gL_21, gtL, gnL, gL_1, gL_gL, gL_21, upd2_p]; first | assumption | omega)) only [gL_gL, gL_21, aft_v, aft_n, aft_t, Nat.add_assoc, Nat.reduceAdd, if_true, if_false, not_true_eq_false, not_false_eq_true, Classical.not_not, Int.reduceAdd, Int.reduceSub, Int.reduceMul, Int.reduceNeg, Int.reduceLT, Int.reduceLE, Int.reduceEq, Int.add_zero, Int.zero_add, Int.sub_zero, w_208_9]
/-- the reference's best cost -/
theorem mnf_0 {f : Int → Int} : (itI (fun i a => min a (farS (f i))) (1000000000 : Int) 0) = 1000000000 := rfl
theorem mn_far2 {f : Int → Int} {n : Int} (hn : 0 ≤ n) (h : ∀ i, 0 ≤ i → i < n → -1 ≤ f i ∧ f i < 1000000000) : itI (fun i a => min a (farS (f i))) (1000000000 : Int) n = farS (mnI f n) := by
  rw [← mn_far hn h]
  have := itI_ind (F := fun i a => min a (farS (f i))) (a := (1000000000 : Int)) (n := n) (fun m v => v = itI (fun i a => if f i = -1 then a else min a (f i)) (1000000000 : Int) m ∧ v ≤ 1000000000) ⟨rfl, by decide⟩ (fun i v i0 i1 hv => by
    have hb := h i i0 i1
    rw [itI_s i0, ← hv.1]
    unfold farS
    have := hv.2
    refine ⟨?_, ?_⟩
    · (repeat' split) <;> omega
    · omega) hn
  exact this.1
theorem s_bestLaid (hm : isM g m) (hW : Wf P) (hP : P = mv I m) (hLa : LaM P m g I) : cl 211 [.ref m] (mk g I) = some (.inl (some (.int (iI (farS (lsS P 0))))), mk g I) := by
  have hm' := hm
  have hbd := Wf_bd hW
  have w1 := hW.2.1
  have hEP : pE P = I (m + 1) 0 := by rw [hP]; rfl
  have hev : cl 182 [.ref m] (mk g I) = some (.inl (some (.int (iI (pE P)))), mk g I) := by rw [hEP]; exact s_events hm
  obtain ⟨t_0, ⟨t_1, d_1, n_1⟩, ⟨t_2, d_2, n_2⟩, ⟨t_3, d_3, n_3⟩, ⟨t_4, d_4, n_4⟩, ⟨t_5, d_5, n_5⟩, ⟨t_6, n_6⟩, ⟨t_7, d_7, n_7⟩, ⟨t_8, d_8, n_8⟩, ⟨t_9, d_9, n_9⟩, ⟨t_10, d_10, n_10⟩, ⟨t_11, d_11, n_11⟩, ⟨t_12, d_12, n_12⟩, ⟨t_13, d_13, n_13⟩, ⟨t_14, d_14, n_14⟩, ⟨t_15, n_15⟩, ⟨t_16, n_16⟩, ⟨t_17, d_17, n_17⟩, ⟨t_18, d_18, n_18⟩⟩ := hm
  by_cases hz : pE P = 0
  · have : farS (lsS P 0) = 0 := by unfold lsS; rw [if_pos hz]; rfl
    rw [this]
    simp (maxSteps := 2000000) (disch := first | assumption | omega) only [aft_v, aft_n, aft_t, Nat.add_assoc, Nat.reduceAdd, if_true, if_false, not_true_eq_false, not_false_eq_true, Classical.not_not, Int.reduceAdd, Int.reduceSub, Int.reduceMul, Int.reduceNeg, Int.reduceLT, Int.reduceLE, Int.reduceEq, Int.add_zero, Int.zero_add, Int.sub_zero, c_211, w_211_0, w_211_1, w_211_2, hev, hz]
  · have n0 := hbd.2.2.1 0 (by decide) (by omega)
    have hb := fun c => fr_ge hbd (e := 0) (c := c) (by decide) (by omega)
    have h11 : I (m + 11) 0 = cntS P 0 := (hLa.1 0 (by decide) (by omega)).1
    obtain ⟨A, hA⟩ : ∃ A : Int → Int, A = fun i => itI (fun i a => min a (farS (frS P 0 i))) (1000000000 : Int) i := ⟨_, rfl⟩
    have hAs : ∀ i, 0 ≤ i → A (i + 1) = min (A i) (farS (frS P 0 i)) := fun i h => by rw [hA]; exact itI_s h
    have hAb : ∀ i, 0 ≤ i → 0 ≤ A i ∧ A i ≤ 1000000000 := fun i h => by
      rw [hA]
      refine itI_ind (fun _ x => 0 ≤ x ∧ x ≤ 1000000000) (by decide) (fun k x _ _ hx => ?_) h
      have := far_b (hb k) (by decide)
      show 0 ≤ min x _ ∧ min x _ ≤ _
      omega
    have loop := loop_up (σ := Unit) (head := fun c _ => rn 211 4 [some (.ref m), some (.int (iI (A c))), some (.int (iI c))] [] (mk g I)) (Inv := fun c _ => 0 ≤ c) (n := cntS P 0) (by
      intro c _ c1 c0
      have hLf := (hLa.2 0 (by decide) (by omega) c c0 c1).1
      rw [show (10 : Int) * 0 + c = c by omega] at hLf
      have fb := far_b (hb c) (by decide)
      have ab := hAb c c0
      refine ⟨(), ?_, by omega⟩
      show rn _ _ _ _ _ = rn _ _ _ _ _
      rw [hAs c c0]
      refine (w_211_4 (by first | omega | assumption) (by first | omega | assumption) (by first | omega | assumption) (by first | omega | assumption) (by first | omega | assumption) (by first | omega | assumption) (by first | omega | assumption)).trans ?_
      rw [h11]
      refine (if_neg (by omega)).trans ?_
      simp (maxSteps := 2000000) (disch := first | assumption | omega) only [aft_v, aft_n, aft_t, Nat.add_assoc, Nat.reduceAdd, if_true, if_false, not_true_eq_false, not_false_eq_true, Classical.not_not, Int.reduceAdd, Int.reduceSub, Int.reduceMul, Int.reduceNeg, Int.reduceLT, Int.reduceLE, Int.reduceEq, Int.add_zero, Int.zero_add, Int.sub_zero, w_211_5, hLf]) 0 () n0.2.1 (Int.le_refl _)
    obtain ⟨_, e1, _⟩ := loop
    have hA0 : A 0 = 1000000000 := by rw [hA]; rfl
    have e1 : rn 211 4 [some (.ref m), some (.int (iI (A 0))), some (.int (iI 0))] [] (mk g I) = rn 211 4 [some (.ref m), some (.int (iI (A (cntS P 0)))), some (.int (iI (cntS P 0)))] [] (mk g I) := e1
    rw [hA0] at e1
    have hAl : A (cntS P 0) = farS (lsS P 0) := by
      have e9 := mn_far2 (f := frS P 0) n0.2.1 (fun i _ _ => by have := hb i; omega)
      rw [ls_fr hbd (by omega), ← e9, hA]
    rw [hAl] at e1
    simp (maxSteps := 2000000) (disch := first | assumption | omega) only [aft_v, aft_n, aft_t, Nat.add_assoc, Nat.reduceAdd, if_true, if_false, not_true_eq_false, not_false_eq_true, Classical.not_not, Int.reduceAdd, Int.reduceSub, Int.reduceMul, Int.reduceNeg, Int.reduceLT, Int.reduceLE, Int.reduceEq, Int.add_zero, Int.zero_add, Int.sub_zero, c_211, w_211_0, w_211_1, w_211_3, hev, if_pos hz]
    rw [e1]
    refine (w_211_4 (by first | omega | assumption) (by first | omega | assumption) (by first | omega | assumption) (by first | omega | assumption) (by first | omega | assumption) (by first | omega | assumption) (by first | omega | assumption)).trans ?_
    rw [h11]
    refine (if_pos (by omega)).trans ?_
    simp (maxSteps := 2000000) (disch := first | assumption | omega) only [aft_v, aft_n, aft_t, Nat.add_assoc, Nat.reduceAdd, if_true, if_false, not_true_eq_false, not_false_eq_true, Classical.not_not, Int.reduceAdd, Int.reduceSub, Int.reduceMul, Int.reduceNeg, Int.reduceLT, Int.reduceLE, Int.reduceEq, Int.add_zero, Int.zero_add, Int.sub_zero, w_211_6]
theorem s_bestNow {L : Nat → Int → Int} (hm : isM g m) (hW : Wf P) (hP : P = mv I m) :
    ∃ I' L', cl 212 [.ref m] (mk (gL g L) I) = some (.inl (some (.int (iI (farS (lsS P 0))))), mk (gL g L') I') ∧ frM m I I' ∧ frML m L L' ∧ LaM P m (gL g L') I' := by
  obtain ⟨J, L1, j1, j2, j3, j4⟩ := s_laysLeast (g := g) (I := I) (L := L) hm hW hP
  have jm : J (m + 1) = I (m + 1) := j2 _ (by omega) (by omega) (by omega) (by omega) (by omega)
  have hb := s_bestLaid (g := gL g L1) (I := J) (m := m) hm hW (by rw [hP]; unfold mv; rw [jm]) j4
  obtain ⟨t_0, ⟨t_1, d_1, n_1⟩, ⟨t_2, d_2, n_2⟩, ⟨t_3, d_3, n_3⟩, ⟨t_4, d_4, n_4⟩, ⟨t_5, d_5, n_5⟩, ⟨t_6, n_6⟩, ⟨t_7, d_7, n_7⟩, ⟨t_8, d_8, n_8⟩, ⟨t_9, d_9, n_9⟩, ⟨t_10, d_10, n_10⟩, ⟨t_11, d_11, n_11⟩, ⟨t_12, d_12, n_12⟩, ⟨t_13, d_13, n_13⟩, ⟨t_14, d_14, n_14⟩, ⟨t_15, n_15⟩, ⟨t_16, n_16⟩, ⟨t_17, d_17, n_17⟩, ⟨t_18, d_18, n_18⟩⟩ := hm
  refine ⟨J, L1, ?_, j2, j3, j4⟩
  simp (maxSteps := 2000000) (disch := first | assumption | omega | (simp (disch := omega) only [gL_gL, gL_21, gtL, gnL, gL_1, gL_gL, gL_21, upd2_p]; first | assumption | omega)) only [gL_gL, gL_21, aft_v, aft_n, aft_t, Nat.add_assoc, Nat.reduceAdd, if_true, if_false, not_true_eq_false, not_false_eq_true, Classical.not_not, Int.reduceAdd, Int.reduceSub, Int.reduceMul, Int.reduceNeg, Int.reduceLT, Int.reduceLE, Int.reduceEq, Int.add_zero, Int.zero_add, Int.sub_zero, c_212, w_212_0, w_212_1, w_212_2, j1, hb]
/-- what chooses finds: the first cheapest one -/
theorem s_wayInto0 {s : Int} (hm : isM g m) : cl 215 [.ref m, .int (iI 0), .int (iI s)] (mk g I) = some (.inl (some (.int (iI 0))), mk g I) := by
  obtain ⟨t_0, ⟨t_1, d_1, n_1⟩, ⟨t_2, d_2, n_2⟩, ⟨t_3, d_3, n_3⟩, ⟨t_4, d_4, n_4⟩, ⟨t_5, d_5, n_5⟩, ⟨t_6, n_6⟩, ⟨t_7, d_7, n_7⟩, ⟨t_8, d_8, n_8⟩, ⟨t_9, d_9, n_9⟩, ⟨t_10, d_10, n_10⟩, ⟨t_11, d_11, n_11⟩, ⟨t_12, d_12, n_12⟩, ⟨t_13, d_13, n_13⟩, ⟨t_14, d_14, n_14⟩, ⟨t_15, n_15⟩, ⟨t_16, n_16⟩, ⟨t_17, d_17, n_17⟩, ⟨t_18, d_18, n_18⟩⟩ := hm
  simp (maxSteps := 2000000) (disch := first | assumption | omega) only [aft_v, aft_n, aft_t, Nat.add_assoc, Nat.reduceAdd, if_true, if_false, not_true_eq_false, not_false_eq_true, Classical.not_not, Int.reduceAdd, Int.reduceSub, Int.reduceMul, Int.reduceNeg, Int.reduceLT, Int.reduceLE, Int.reduceEq, Int.add_zero, Int.zero_add, Int.sub_zero, c_215, w_215_0, w_215_1]
theorem s_wayInto {e c p : Int} (hm : isM g m) (hW : Wf P) (hP : P = mv I m) (hS : ∀ e, 0 ≤ e → e < pE P → ShM P m I e) (he : 1 ≤ e ∧ e < pE P) (hc : 0 ≤ c ∧ c < cntS P e) (hp : I (m + 12) (e - 1) = 10 * (e - 1) + p) (hp2 : 0 ≤ p ∧ p < cntS P (e - 1)) :
    cl 215 [.ref m, .int (iI e), .int (iI (10 * e + c))] (mk g I) = some (.inl (some (.int (iI (farS (stepS P (e - 1) p c))))), mk g I) := by
  have hm' := hm
  have hbd := Wf_bd hW
  have w1 := hW.2.1
  obtain ⟨t_0, ⟨t_1, d_1, n_1⟩, ⟨t_2, d_2, n_2⟩, ⟨t_3, d_3, n_3⟩, ⟨t_4, d_4, n_4⟩, ⟨t_5, d_5, n_5⟩, ⟨t_6, n_6⟩, ⟨t_7, d_7, n_7⟩, ⟨t_8, d_8, n_8⟩, ⟨t_9, d_9, n_9⟩, ⟨t_10, d_10, n_10⟩, ⟨t_11, d_11, n_11⟩, ⟨t_12, d_12, n_12⟩, ⟨t_13, d_13, n_13⟩, ⟨t_14, d_14, n_14⟩, ⟨t_15, n_15⟩, ⟨t_16, n_16⟩, ⟨t_17, d_17, n_17⟩, ⟨t_18, d_18, n_18⟩⟩ := hm
  have n0 := hbd.2.2.1 e (by omega) he.2
  have n1 := hbd.2.2.1 (e - 1) (by omega) (by omega)
  have y1 := ((hS e (by omega) he.2).2 c hc.1 hc.2).1
  have y0 := ((hS (e - 1) (by omega) (by omega)).2 p hp2.1 hp2.2).1
  have b1 := itS_b (P := P) (e := e) (c := c) n0.1
  have b0 := itS_b (P := P) (e := e - 1) (c := p) n1.1
  have hpa := s_passage (g := g) (I := I) (e := e - 1) (its := itS P (e - 1) p) (thn := itS P e c) hm' (by rw [← hP]; exact hW) (by rw [← hP]; omega) b0 b1
  have he1 : e - 1 + 1 = e := by omega
  have hst : passS (mv I m) (e - 1) (pRe (mv I m) (e - 1)) (fgS (itS P (e - 1) p)) (fgS (itS P e c)) = stepS P (e - 1) p c := by
    rw [← hP]; unfold stepS stepW fgP; rw [he1]
  rw [hst] at hpa
  have bs := st_b hbd (e := e - 1) (c := p) (n := c) (by omega) (by omega)
  unfold farS
  by_cases h1 : stepS P (e - 1) p c = -1
  · rw [h1] at hpa ⊢
    rw [if_pos rfl]
    simp (maxSteps := 2000000) (disch := first | assumption | omega) only [aft_v, aft_n, aft_t, Nat.add_assoc, Nat.reduceAdd, if_true, if_false, not_true_eq_false, not_false_eq_true, Classical.not_not, Int.reduceAdd, Int.reduceSub, Int.reduceMul, Int.reduceNeg, Int.reduceLT, Int.reduceLE, Int.reduceEq, Int.add_zero, Int.zero_add, Int.sub_zero, c_215, w_215_0, w_215_1, w_215_2, w_215_3, w_215_4, w_215_5, w_215_6, if_pos (show ¬ e = 0 by omega), hp, y0, y1, hpa]
  · rw [if_neg h1]
    simp (maxSteps := 2000000) (disch := first | assumption | omega) only [aft_v, aft_n, aft_t, Nat.add_assoc, Nat.reduceAdd, if_true, if_false, not_true_eq_false, not_false_eq_true, Classical.not_not, Int.reduceAdd, Int.reduceSub, Int.reduceMul, Int.reduceNeg, Int.reduceLT, Int.reduceLE, Int.reduceEq, Int.add_zero, Int.zero_add, Int.sub_zero, c_215, w_215_0, w_215_1, w_215_2, w_215_3, w_215_4, w_215_5, w_215_6, if_pos (show ¬ e = 0 by omega), hp, y0, y1, hpa, h1]
theorem s_chooses {L : Nat → Int → Int} (hm : isM g m) (hW : Wf P) (hP : P = mv I m) :
    ∃ I' L', cl 214 [.ref m] (mk (gL g L) I) = some (.inl (some (.int (iI (if lsS P 0 = -1 then 0 else 1)))), mk (gL g L') I') ∧ frC m I I' ∧ frML m L L' ∧ LaM P m (gL g L') I' ∧ (¬ lsS P 0 = -1 → ∀ e, 0 ≤ e → e < pE P → I' (m + 12) e = 10 * e + fsS P e) := by
  have hbd := Wf_bd hW
  have w1 := hW.2.1
  have hEP : pE P = I (m + 1) 0 := by rw [hP]; rfl
  obtain ⟨J, L1, j1, j2, j3, j4⟩ := s_bestNow (g := g) (I := I) (L := L) hm hW hP
  have jm : J (m + 1) = I (m + 1) := j2 _ (by omega) (by omega) (by omega) (by omega) (by omega)
  have lsb := ls_b hbd (b := 0)
  have hm0 := hm
  obtain ⟨t_0, ⟨t_1, d_1, n_1⟩, ⟨t_2, d_2, n_2⟩, ⟨t_3, d_3, n_3⟩, ⟨t_4, d_4, n_4⟩, ⟨t_5, d_5, n_5⟩, ⟨t_6, n_6⟩, ⟨t_7, d_7, n_7⟩, ⟨t_8, d_8, n_8⟩, ⟨t_9, d_9, n_9⟩, ⟨t_10, d_10, n_10⟩, ⟨t_11, d_11, n_11⟩, ⟨t_12, d_12, n_12⟩, ⟨t_13, d_13, n_13⟩, ⟨t_14, d_14, n_14⟩, ⟨t_15, n_15⟩, ⟨t_16, n_16⟩, ⟨t_17, d_17, n_17⟩, ⟨t_18, d_18, n_18⟩⟩ := hm0
  have hev : ∀ K, K (m + 1) = I (m + 1) → cl 182 [.ref m] (mk (gL g L1) K) = some (.inl (some (.int (iI (pE P)))), mk (gL g L1) K) := fun K hK => by rw [hEP, ← hK]; exact s_events (g := gL g L1) hm
  by_cases hz : lsS P 0 = -1
  · have f1 : farS (lsS P 0) = 1000000000 := by rw [hz]; rfl
    refine ⟨J, L1, ?_, fun p a b c d f _ => j2 p a b c d f, j3, j4, fun h => absurd hz h⟩
    rw [if_pos hz]
    rw [f1] at j1
    by_cases hE0 : pE P = 0
    · exact absurd hz (by unfold lsS; rw [if_pos hE0]; decide)
    · simp (maxSteps := 2000000) (disch := first | assumption | omega | (simp (disch := omega) only [gL_gL, gL_21, gtL, gnL, gL_1, gL_gL, gL_21, upd2_p]; first | assumption | omega)) only [gL_gL, gL_21, aft_v, aft_n, aft_t, Nat.add_assoc, Nat.reduceAdd, if_true, if_false, not_true_eq_false, not_false_eq_true, Classical.not_not, Int.reduceAdd, Int.reduceSub, Int.reduceMul, Int.reduceNeg, Int.reduceLT, Int.reduceLE, Int.reduceEq, Int.add_zero, Int.zero_add, Int.sub_zero, c_214, w_214_0, w_214_1, w_214_2, w_214_3, w_214_4, w_214_10, w_214_12, w_214_13, j1, hev J jm, if_neg (show ¬ pE P ≤ 0 by omega)]
  · rw [if_neg hz]
    have f1 : farS (lsS P 0) = lsS P 0 := by unfold farS; rw [if_neg hz]
    rw [f1] at j1
    have outer := loop_up (σ := Mm × Int × Option Value) (head := fun e s => rn 214 2 [some (.ref m), some (.int (iI s.2.1)), some (.int (iI e)), s.2.2] [] (mk (gL g L1) s.1))
      (Inv := fun e s => 0 ≤ e ∧ onl (m + 12) J s.1 ∧ (∀ e', 0 ≤ e' → e' < e → s.1 (m + 12) e' = 10 * e' + fsS P e') ∧ s.2.1 = (if e = 0 then lsS P 0 else (fsN P (e - 1).toNat).2)) (n := pE P) (by
      rintro e ⟨K, left, o3⟩ hlt ⟨e0, h1, h2, h3⟩
      have h1 : onl (m + 12) J K := h1
      have h2 : ∀ e', 0 ≤ e' → e' < e → K (m + 12) e' = 10 * e' + fsS P e' := h2
      have h3 : left = (if e = 0 then lsS P 0 else (fsN P (e - 1).toNat).2) := h3
      have km : K (m + 1) = I (m + 1) := by rw [h1 _ (by omega), jm]
      have hSK : ∀ e, 0 ≤ e → e < pE P → ShM P m K e := fun e a b => (j4.1 e a b).mono (h1 _ (by omega)) (h1 _ (by omega)) (h1 _ (by omega))
      have hLK : ∀ c, 0 ≤ c → c < cntS P e → K (m + 13) (10 * e + c) = farS (frS P e c) := fun c a b => by rw [h1 _ (by omega)]; exact (j4.2 e e0 hlt c a b).1
      have n0 := hbd.2.2.1 e e0 hlt
      have hfo := fs_ok hbd hz e.toNat (by omega)
      rw [show ((e.toNat : Nat) : Int) = e by omega] at hfo
      have hfs : 0 ≤ fsS P e ∧ fsS P e < cntS P e := hfo.1
      -- the condition of choice c
      obtain ⟨V, hV⟩ : ∃ V : Int → Int, V = fun c => if e = 0 then frS P 0 c else sumS (stepS P (e - 1) (fsS P (e - 1)) c) (frS P e c) := ⟨_, rfl⟩
      have hleft : 0 ≤ left ∧ left ≤ 1200000 := by
        rw [h3]
        by_cases h0 : e = 0
        · rw [if_pos h0]; omega
        · rw [if_neg h0]
          have hfp := fs_ok hbd hz (e - 1).toNat (by omega)
          have hb := bhS_b hbd (e := ((e - 1).toNat : Int)) (c := (fsN P (e - 1).toNat).1) (by omega) (by omega)
          rw [hfp.2.1] at *
          have := hfp.2.2
          rw [hfp.2.1] at this
          omega
      have hfnd : fnd (fun c => V c = left) (cntS P e) = fsS P e := by
        have e1 : fsS P e = max 0 (fnd (fun c => V c = left) (cntS P e)) := by
          by_cases h0 : e = 0
          · subst h0
            rw [if_pos rfl] at h3
            rw [hV, h3]
            show max 0 (fnd (fun c => (if (0 : Int) = 0 then frS P 0 c else _) = lsS P 0) (cntS P 0)) = max 0 (fnd (fun c => (if (0 : Int) = 0 then frS P 0 c else _) = lsS P 0) (cntS P 0))
            simp only [if_pos]
          · rw [if_neg h0] at h3
            obtain ⟨k, hk⟩ : ∃ k : Nat, e = (k + 1 : Nat) := ⟨(e - 1).toNat, by omega⟩
            rw [hV, h3, hk]
            unfold fsS
            rw [show (((k + 1 : Nat) : Int) - 1).toNat = k by omega, show (((k + 1 : Nat) : Int)).toNat = k + 1 by omega]
            rfl
        obtain ⟨c, c0, c1, hc⟩ := fs_ex hbd hz e.toNat (by omega)
        rw [show ((e.toNat : Nat) : Int) = e by omega] at c1 hc
        have hVc : V c = left := by rw [hV, h3]; exact hc
        have hex := fnd_ex (p := fun c => V c = left) c0 c1 hVc
        omega
      have hsp := fnd_spec (p := fun c => V c = left) n0.2.1
      rw [hfnd] at hsp
      have hat : V (fsS P e) = left := by rcases hsp with ⟨h, _⟩ | ⟨_, _, h, _⟩; omega; exact h
      have hbf : ∀ c, 0 ≤ c → c < fsS P e → ¬ V c = left := by rcases hsp with ⟨h, _⟩ | ⟨_, _, _, h⟩; omega; exact h
      have hwI : ∀ c, 0 ≤ c → c < cntS P e → ∃ w, cl 215 [.ref m, .int (iI e), .int (iI (10 * e + c))] (mk (gL g L1) K) = some (.inl (some (.int (iI w))), mk (gL g L1) K) ∧ 0 ≤ w ∧ w ≤ 1000000000 ∧ (farS (frS P e c) + w = left ↔ V c = left) := by
        intro c c0 c1
        have bf := fr_ge hbd (e := e) (c := c) e0 hlt
        by_cases h0 : e = 0
        · refine ⟨0, ?_, by decide, by decide, ?_⟩
          · have := s_wayInto0 (g := gL g L1) (I := K) (s := 10 * e + c) (m := m) hm
            rw [h0] at this ⊢; exact this
          · have : V c = frS P e c := by rw [hV, h0]; rfl
            rw [this]; unfold farS; split <;> omega
        · have hfp := fsS_b hbd hz (e := e - 1) (by omega) (by omega)
          have hw := s_wayInto (g := gL g L1) (I := K) (m := m) (P := P) (e := e) (c := c) (p := fsS P (e - 1)) hm hW (by rw [hP]; unfold mv; rw [km]) hSK (by omega) ⟨c0, c1⟩ (h2 (e - 1) (by omega) (by omega)) hfp
          have bs := st_b hbd (e := e - 1) (c := fsS P (e - 1)) (n := c) (by omega) (by omega)
          have fb := far_b (A := 21384) bs (by decide)
          refine ⟨_, hw, fb.1, fb.2, ?_⟩
          have hv : V c = sumS (stepS P (e - 1) (fsS P (e - 1)) c) (frS P e c) := by
            rw [hV]; show (if e = 0 then _ else _) = _; rw [if_neg h0]
          rw [hv]
          unfold farS sumS
          (repeat' split) <;> omega
      have inner := loop_up (σ := Unit) (head := fun c _ => rn 214 6 [some (.ref m), some (.int (iI left)), some (.int (iI e)), some (.int (iI (10 * e + c)))] [] (mk (gL g L1) K)) (Inv := fun c _ => 0 ≤ c) (n := fsS P e) (by
        intro c _ c1 c0
        obtain ⟨w, w1, w2, w3, w4⟩ := hwI c c0 (by omega)
        have hl := hLK c c0 (by omega)
        have bf := fr_ge hbd (e := e) (c := c) e0 hlt
        have fb := far_b bf (by decide)
        have hne : ¬ farS (frS P e c) + w = left := fun z => hbf c c0 c1 (w4.mp z)
        refine ⟨(), ?_, by omega⟩
        show rn _ _ _ _ _ = rn _ _ [_, _, _, some (.int (iI (10 * e + (c + 1))))] _ _
        rw [← Int.add_assoc]
        generalize farS (frS P e c) = Fr at *
        refine (w_214_6 (by first | assumption | omega | (simp (disch := omega) only [gtL, gnL, gL_1, gL_gL, gL_21, upd2_p]; first | assumption | omega)) (by first | assumption | omega | (simp (disch := omega) only [gtL, gnL, gL_1, gL_gL, gL_21, upd2_p]; first | assumption | omega)) (by first | assumption | omega | (simp (disch := omega) only [gtL, gnL, gL_1, gL_gL, gL_21, upd2_p]; first | assumption | omega)) (by first | assumption | omega | (simp (disch := omega) only [gtL, gnL, gL_1, gL_gL, gL_21, upd2_p]; first | assumption | omega)) (by first | assumption | omega | (simp (disch := omega) only [gtL, gnL, gL_1, gL_gL, gL_21, upd2_p]; first | assumption | omega))).trans ?_
        simp (maxSteps := 2000000) (disch := first | assumption | omega | (simp (disch := omega) only [gL_gL, gL_21, gtL, gnL, gL_1, gL_gL, gL_21, upd2_p]; first | assumption | omega)) only [gL_gL, gL_21, aft_v, aft_n, aft_t, Nat.add_assoc, Nat.reduceAdd, if_true, if_false, not_true_eq_false, not_false_eq_true, Classical.not_not, Int.reduceAdd, Int.reduceSub, Int.reduceMul, Int.reduceNeg, Int.reduceLT, Int.reduceLE, Int.reduceEq, Int.add_zero, Int.zero_add, Int.sub_zero, w_214_7, w_214_8, w1, hl, hne]) 0 () hfs.1 (Int.le_refl _)
      obtain ⟨_, e1, _⟩ := inner
      have e1 : rn 214 6 [some (.ref m), some (.int (iI left)), some (.int (iI e)), some (.int (iI (10 * e + 0)))] [] (mk (gL g L1) K) = rn 214 6 [some (.ref m), some (.int (iI left)), some (.int (iI e)), some (.int (iI (10 * e + fsS P e)))] [] (mk (gL g L1) K) := e1
      rw [Int.add_zero] at e1
      obtain ⟨w, w1, w2, w3, w4⟩ := hwI (fsS P e) hfs.1 hfs.2
      have heq := w4.mpr hat
      have hl := hLK (fsS P e) hfs.1 hfs.2
      have bO := hbd.2.2.2.1 0 e (fsS P e) e0 hlt
      have bB := bhS_b hbd (e := e) (c := fsS P e) e0 hlt
      have hO : K (m + 10) (10 * e + fsS P e) = ownS P 0 e (fsS P e) := ((hSK e e0 hlt).2 _ hfs.1 hfs.2).2
      have nO := it_ok hfs.1 hfs.2
      have hb2 : (fsN P e.toNat).2 = bhS P e (fsS P e) := hfo.2.1
      have hb3 := hfo.2.2
      rw [hb2] at hb3
      have hfr : farS (frS P e (fsS P e)) = ownS P 0 e (fsS P e) + bhS P e (fsS P e) := by
        unfold frS sumS farS; rw [if_neg (fun z => by omega), if_neg (by omega)]
      rw [hfr] at hl heq
      refine ⟨(upd2 K (m + 12) e (10 * e + fsS P e), bhS P e (fsS P e), some (.int (iI (10 * e + fsS P e)))), ?_, by omega, h1.upd, fun e' a b => ?_, ?_⟩
      · show rn _ _ [_, some (.int (iI left)), _, _] _ (mk (gL g L1) K) = rn _ _ _ _ _
        refine (w_214_2 (by first | assumption | omega | (simp (disch := omega) only [gtL, gnL, gL_1, gL_gL, gL_21, upd2_p]; first | assumption | omega))).trans ?_
        rw [hev K km, aft_v]
        refine (w_214_3 (by first | assumption | omega | (simp (disch := omega) only [gtL, gnL, gL_1, gL_gL, gL_21, upd2_p]; first | assumption | omega)) (by first | assumption | omega | (simp (disch := omega) only [gtL, gnL, gL_1, gL_gL, gL_21, upd2_p]; first | assumption | omega)) (by first | assumption | omega | (simp (disch := omega) only [gtL, gnL, gL_1, gL_gL, gL_21, upd2_p]; first | assumption | omega)) (by first | assumption | omega | (simp (disch := omega) only [gtL, gnL, gL_1, gL_gL, gL_21, upd2_p]; first | assumption | omega))).trans ?_
        refine (if_neg (by omega)).trans ?_
        refine (w_214_4 (by first | assumption | omega | (simp (disch := omega) only [gtL, gnL, gL_1, gL_gL, gL_21, upd2_p]; first | assumption | omega)) (by first | assumption | omega | (simp (disch := omega) only [gtL, gnL, gL_1, gL_gL, gL_21, upd2_p]; first | assumption | omega))).trans ?_
        refine (if_neg (by omega)).trans ?_
        refine (w_214_5).trans ?_
        rw [e1]
        refine (w_214_6 (by first | assumption | omega | (simp (disch := omega) only [gtL, gnL, gL_1, gL_gL, gL_21, upd2_p]; first | assumption | omega)) (by first | assumption | omega | (simp (disch := omega) only [gtL, gnL, gL_1, gL_gL, gL_21, upd2_p]; first | assumption | omega)) (by first | assumption | omega | (simp (disch := omega) only [gtL, gnL, gL_1, gL_gL, gL_21, upd2_p]; first | assumption | omega)) (by first | assumption | omega | (simp (disch := omega) only [gtL, gnL, gL_1, gL_gL, gL_21, upd2_p]; first | assumption | omega)) (by first | assumption | omega | (simp (disch := omega) only [gtL, gnL, gL_1, gL_gL, gL_21, upd2_p]; first | assumption | omega))).trans ?_
        simp (maxSteps := 2000000) (disch := first | assumption | omega | (simp (disch := omega) only [gL_gL, gL_21, gtL, gnL, gL_1, gL_gL, gL_21, upd2_p]; first | assumption | omega)) only [gL_gL, gL_21, aft_v, aft_n, aft_t, Nat.add_assoc, Nat.reduceAdd, if_true, if_false, not_true_eq_false, not_false_eq_true, Classical.not_not, Int.reduceAdd, Int.reduceSub, Int.reduceMul, Int.reduceNeg, Int.reduceLT, Int.reduceLE, Int.reduceEq, Int.add_zero, Int.zero_add, Int.sub_zero, w_214_7, w_214_9, w1, hl, heq, hO, show ownS P 0 e (fsS P e) + bhS P e (fsS P e) - ownS P 0 e (fsS P e) = bhS P e (fsS P e) by omega]
      · by_cases hee : e' = e
        · subst hee; exact upd2_at
        · show upd2 _ _ _ _ _ _ = _; rw [upd2_i hee]; exact h2 e' a (by omega)
      · show bhS P e (fsS P e) = _
        rw [if_neg (by omega), show (e + 1 - 1).toNat = e.toNat by omega]
        exact hb2.symm) 0 (J, lsS P 0, none) w1.1 ⟨Int.le_refl _, onl.refl, fun e' a b => by omega, (if_pos rfl).symm⟩
    obtain ⟨⟨K, left, o3⟩, e1, -, k1, k2, k3⟩ := outer
    have e1 : rn 214 2 [some (.ref m), some (.int (iI (lsS P 0))), some (.int (iI 0)), none] [] (mk (gL g L1) J) = rn 214 2 [some (.ref m), some (.int (iI left)), some (.int (iI (pE P))), o3] [] (mk (gL g L1) K) := e1
    have k1 : onl (m + 12) J K := k1
    have k3 : left = (if pE P = 0 then lsS P 0 else (fsN P (pE P - 1).toNat).2) := k3
    have km : K (m + 1) = I (m + 1) := by rw [k1 _ (by omega), jm]
    have hleft : 0 ≤ left ∧ left ≤ 1200000 := by
      rw [k3]
      by_cases h0 : pE P = 0
      · rw [if_pos h0]; omega
      · rw [if_neg h0]
        have hfp := fs_ok hbd hz (pE P - 1).toNat (by omega)
        have hb := bhS_b hbd (e := ((pE P - 1).toNat : Int)) (c := (fsN P (pE P - 1).toNat).1) (by omega) (by omega)
        have := hfp.2.2
        rw [hfp.2.1] at this ⊢
        omega
    refine ⟨K, L1, ?_, fun p a b c d f h1 => (k1 p h1).trans (j2 p a b c d f), j3, ⟨fun e a b => (j4.1 e a b).mono (k1 _ (by omega)) (k1 _ (by omega)) (k1 _ (by omega)), fun e a b c c0 c1 => ?_⟩, fun _ => k2⟩
    · simp (maxSteps := 2000000) (disch := first | assumption | omega | (simp (disch := omega) only [gL_gL, gL_21, gtL, gnL, gL_1, gL_gL, gL_21, upd2_p]; first | assumption | omega)) only [gL_gL, gL_21, aft_v, aft_n, aft_t, Nat.add_assoc, Nat.reduceAdd, if_true, if_false, not_true_eq_false, not_false_eq_true, Classical.not_not, Int.reduceAdd, Int.reduceSub, Int.reduceMul, Int.reduceNeg, Int.reduceLT, Int.reduceLE, Int.reduceEq, Int.add_zero, Int.zero_add, Int.sub_zero, c_214, w_214_0, w_214_1, j1]
      rw [e1]
      refine (w_214_2 (by first | assumption | omega | (simp (disch := omega) only [gtL, gnL, gL_1, gL_gL, gL_21, upd2_p]; first | assumption | omega))).trans ?_
      rw [hev K km, aft_v]
      refine (w_214_3 (by first | assumption | omega | (simp (disch := omega) only [gtL, gnL, gL_1, gL_gL, gL_21, upd2_p]; first | assumption | omega)) (by first | assumption | omega | (simp (disch := omega) only [gtL, gnL, gL_1, gL_gL, gL_21, upd2_p]; first | assumption | omega)) (by first | assumption | omega | (simp (disch := omega) only [gtL, gnL, gL_1, gL_gL, gL_21, upd2_p]; first | assumption | omega)) (by first | assumption | omega | (simp (disch := omega) only [gtL, gnL, gL_1, gL_gL, gL_21, upd2_p]; first | assumption | omega))).trans ?_
      refine (if_pos (by omega)).trans ?_
      simp (maxSteps := 2000000) (disch := first | assumption | omega | (simp (disch := omega) only [gL_gL, gL_21, gtL, gnL, gL_1, gL_gL, gL_21, upd2_p]; first | assumption | omega)) only [gL_gL, gL_21, aft_v, aft_n, aft_t, Nat.add_assoc, Nat.reduceAdd, if_true, if_false, not_true_eq_false, not_false_eq_true, Classical.not_not, Int.reduceAdd, Int.reduceSub, Int.reduceMul, Int.reduceNeg, Int.reduceLT, Int.reduceLE, Int.reduceEq, Int.add_zero, Int.zero_add, Int.sub_zero, w_214_10, w_214_11, w_214_13, if_neg (show ¬ 1000000000 ≤ left by omega)]
    · rw [k1 _ (by omega)]; exact j4.2 e a b c c0 c1
end MB
