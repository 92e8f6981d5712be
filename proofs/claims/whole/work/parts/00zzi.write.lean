/-! The written text, of both. -/
noncomputable def dgN (P : PT) (e : Int) : Nat → List Int
  | 0 => []
  | k + 1 => dgN P e k ++ [48 + fgP P e (fsS P e) k]
noncomputable def wtN (P : PT) : Nat → List Int
  | 0 => []
  | e + 1 => ((wtN P e ++ (if 0 < (e : Int) then [32] else [])) ++ dgN P e (pSz P e).toNat) ++ (if (e : Int) + 1 < pE P ∧ pW P 8 ≤ pRe P e then [39] else [])
noncomputable def dgS (P : PT) (e k : Int) : List Int := dgN P e k.toNat
/-- the fingers of the first e events, written -/
noncomputable def wtS (P : PT) (e : Int) : List Int := wtN P e.toNat
theorem dgS_s {P : PT} {e k : Int} (h : 0 ≤ k) : dgS P e (k + 1) = dgS P e k ++ [48 + fgP P e (fsS P e) k] := by
  unfold dgS
  rw [show (k + 1).toNat = k.toNat + 1 by omega]
  simp only [dgN]
  rw [show ((k.toNat : Nat) : Int) = k by omega]
theorem wtS_s {P : PT} {e : Int} (h : 0 ≤ e) : wtS P (e + 1) = ((wtS P e ++ (if 0 < e then [32] else [])) ++ dgS P e (pSz P e)) ++ (if e + 1 < pE P ∧ pW P 8 ≤ pRe P e then [39] else []) := by
  unfold wtS dgS
  rw [show (e + 1).toNat = e.toNat + 1 by omega]
  simp only [wtN]
  rw [show ((e.toNat : Nat) : Int) = e by omega]
theorem dgS_l {P : PT} {e k : Int} (h : 0 ≤ k) : ((dgS P e k).length : Int) = k := by
  have key : ∀ n : Nat, (dgN P e n).length = n := by
    intro n
    induction n with
    | zero => rfl
    | succ n ih => simp only [dgN, List.length_append, List.length_cons, List.length_nil, ih]
  unfold dgS
  rw [key]; omega
theorem wtS_l {P : PT} (hbd : bdP P) {e : Int} (h : 0 ≤ e) (h1 : e ≤ pE P) : ((wtS P e).length : Int) ≤ 5 * e := by
  have key : ∀ n : Nat, (n : Int) ≤ pE P → ((wtS P n).length : Int) ≤ 5 * n := by
    intro n
    induction n with
    | zero => intro _; show (([] : List Int).length : Int) ≤ _; simp
    | succ n ih =>
      intro hn
      have ih := ih (by omega)
      have n0 := hbd.2.2.1 n (by omega) (by omega)
      have hd := dgS_l (P := P) (e := n) (k := pSz P n) (by omega)
      rw [show ((n + 1 : Nat) : Int) = n + 1 from rfl, wtS_s (by omega)]
      simp only [List.length_append]
      have h1 : (if 0 < (n : Int) then [(32 : Int)] else []).length ≤ 1 := by split <;> simp
      have h2 : (if (n : Int) + 1 < pE P ∧ pW P 8 ≤ pRe P n then [(39 : Int)] else []).length ≤ 1 := by split <;> simp
      omega
  have := key e.toNat (by omega)
  rw [show ((e.toNat : Nat) : Int) = e by omega] at this
  exact this
/-- the row at p holds the list -/
def hL (I : Mm) (p : Nat) (L : List Int) : Prop := ∀ i : Nat, i < L.length → I p i = L.getD i 0
theorem hL_push {I : Mm} {p : Nat} {L : List Int} {v : Int} (h : hL I p L) : hL (upd2 I p L.length v) p (L ++ [v]) := by
  intro i hi
  simp only [List.length_append, List.length_cons, List.length_nil] at hi
  by_cases hl : i = L.length
  · subst hl
    rw [upd2_at]
    simp [List.getD_eq_getElem?_getD]
  · rw [upd2_i (by omega), h i (by omega)]
    simp only [List.getD_eq_getElem?_getD]
    rw [List.getElem?_append_left (by omega)]
theorem hL_nil {I : Mm} {p : Nat} : hL I p [] := fun i hi => absurd hi (Nat.not_lt_zero i)
theorem hL_c {I J : Mm} {p : Nat} {L : List Int} (h : hL I p L) (e : J p = I p) : hL J p L := fun i hi => by rw [e]; exact h i hi
/-- written so far: the class, the reference -/
def wrH (x : Nat) (I s : Mm) (L : List Int) : Prop := hL s (x + 81) L ∧ s x 7 = L.length ∧ (∀ p, ¬ p = x → ¬ p = x + 81 → s p = I p) ∧ ∀ i, ¬ i = 7 → s x i = I x i
def wrM (m : Nat) (I s : Mm) (L : List Int) : Prop := hL s (m + 18) L ∧ s m 29 = L.length ∧ (∀ p, ¬ p = m → ¬ p = m + 18 → s p = I p) ∧ ∀ i, ¬ i = 29 → s m i = I m i
section WR
variable {g : Gm} {I s : Mm} {m x : Nat} {P : PT} {L : List Int}
theorem s_write {v : Int} (h5 : g.1 x = sX5 x) (hw : isR g (x + 80) ∧ gn g (x + 80 + 1) = 200) (h : wrH x I s L) (hn : L.length < 200) :
    ∃ s', cl 141 [.ref x, .int (iI v)] (mk g s) = some (.inl none, mk g s') ∧ wrH x I s' (L ++ [v]) := by
  obtain ⟨h1, h2, h3, h4⟩ := h
  have q : cl 63 [.ref (x + 80), .int (iI (L.length : Int)), .int (iI v)] (mk g s) = some (.inl none, mk g (upd2 s (x + 81) L.length v)) := s_row_put (p := x + 80) hw.1 (by omega) (by omega)
  have u : upd2 s (x + 81) L.length v x 7 = L.length := by rw [upd2_p (by omega)]; exact h2
  have hr := hw.1.1
  refine ⟨upd2 (upd2 s (x + 81) L.length v) x 7 (L.length + 1), ?_, ?_, ?_, ?_, ?_⟩
  · simp (maxSteps := 2000000) (disch := first | assumption | omega) only [aft_v, aft_n, aft_t, Nat.add_assoc, Nat.reduceAdd, if_true, if_false, not_true_eq_false, not_false_eq_true, Classical.not_not, Int.reduceAdd, Int.reduceSub, Int.reduceMul, Int.reduceNeg, Int.reduceLT, Int.reduceLE, Int.reduceEq, Int.add_zero, Int.zero_add, Int.sub_zero, c_141, w_141_0, w_141_1, h2, q, u]
  · exact hL_c (hL_push h1) (funext fun j => upd2_p (by omega))
  · rw [upd2_at]; simp
  · intro p hp hq
    rw [show upd2 (upd2 s (x + 81) L.length v) x 7 (L.length + 1) p = s p from funext fun j => by rw [upd2_p hp, upd2_p hq]]
    exact h3 p hp hq
  · intro i hi
    rw [upd2_i hi, upd2_p (by omega)]; exact h4 i hi
theorem s_says {v : Int} (hm : isM g m) (h : wrM m I s L) (hn : L.length < 250) :
    ∃ s', cl 260 [.ref m, .int (iI v)] (mk g s) = some (.inl none, mk g s') ∧ wrM m I s' (L ++ [v]) := by
  obtain ⟨h1, h2, h3, h4⟩ := h
  have u : upd2 s (m + 18) L.length v m 29 = L.length := by rw [upd2_p (by omega)]; exact h2
  obtain ⟨t_0, ⟨t_1, d_1, n_1⟩, ⟨t_2, d_2, n_2⟩, ⟨t_3, d_3, n_3⟩, ⟨t_4, d_4, n_4⟩, ⟨t_5, d_5, n_5⟩, ⟨t_6, n_6⟩, ⟨t_7, d_7, n_7⟩, ⟨t_8, d_8, n_8⟩, ⟨t_9, d_9, n_9⟩, ⟨t_10, d_10, n_10⟩, ⟨t_11, d_11, n_11⟩, ⟨t_12, d_12, n_12⟩, ⟨t_13, d_13, n_13⟩, ⟨t_14, d_14, n_14⟩, ⟨t_15, n_15⟩, ⟨t_16, n_16⟩, ⟨t_17, d_17, n_17⟩, ⟨t_18, d_18, n_18⟩⟩ := hm
  refine ⟨upd2 (upd2 s (m + 18) L.length v) m 29 (L.length + 1), ?_, ?_, ?_, ?_, ?_⟩
  · simp (maxSteps := 2000000) (disch := first | assumption | omega) only [aft_v, aft_n, aft_t, Nat.add_assoc, Nat.reduceAdd, if_true, if_false, not_true_eq_false, not_false_eq_true, Classical.not_not, Int.reduceAdd, Int.reduceSub, Int.reduceMul, Int.reduceNeg, Int.reduceLT, Int.reduceLE, Int.reduceEq, Int.add_zero, Int.zero_add, Int.sub_zero, c_260, w_260_0, h2, u]
  · exact hL_c (hL_push h1) (funext fun j => upd2_p (by omega))
  · rw [upd2_at]; simp
  · intro p hp hq
    rw [show upd2 (upd2 s (m + 18) L.length v) m 29 (L.length + 1) p = s p from funext fun j => by rw [upd2_p hp, upd2_p hq]]
    exact h3 p hp hq
  · intro i hi
    rw [upd2_i hi, upd2_p (by omega)]; exact h4 i hi
theorem s_hwriteFingers (hx : isHn g x) (hl : isPl g (x + 35)) (hw : isR g (x + 80) ∧ gn g (x + 80 + 1) = 200) (hB : gd I (x + 1)) (ho : plOk x I) (hz : ¬ lsS (pv I (x + 1)) 0 = -1) :
    ∃ I' J, cl 129 [.ref x] (mk g I) = some (.inl (some (.int (iI ((wtS (pv I (x + 1)) (I (x + 1) 1)).length : Int)))), mk g J) ∧ frP (x + 35) I I' ∧ Sol (pv I (x + 1)) (x + 35) I' ∧ wrH x I' J (wtS (pv I (x + 1)) (I (x + 1) 1)) := by
  obtain ⟨I', e1, fr, s⟩ := s_needFingering hx hl hB ho
  rw [if_neg hz] at e1
  have hbd := gd_bd hB
  have gJ := gd_fr fr (q := x + 1) (by omega) hB
  obtain ⟨h5, hp⟩ := hx
  have hp' := hp
  obtain ⟨p_0, ⟨p_1, q_1, p_2⟩, ⟨p_3, q_3, p_4⟩, ⟨p_5, q_5, p_6⟩, ⟨p_7, q_7, p_8⟩, ⟨p_9, q_9, p_10⟩, ⟨p_11, q_11, p_12⟩, ⟨p_13, q_13, p_14⟩, ⟨p_15, q_15, p_16⟩⟩ := hp
  have h1 : g.1 (x + 35) = sX1 (x + 35) := hl.1
  have i1 : I' (x + 1) = I (x + 1) := fr _ (by omega)
  have i3 : I' (x + 3) = I (x + 3) := fr _ (by omega)
  have i5 : I' (x + 5) = I (x + 5) := fr _ (by omega)
  have i11 : I' (x + 11) = I (x + 11) := fr _ (by omega)
  obtain ⟨P, hP⟩ : ∃ P, P = pv I (x + 1) := ⟨_, rfl⟩
  have eP : I (x + 1) 1 = pE P := by rw [hP]; rfl
  rw [← hP] at s hbd hz
  have eZ : ∀ e, pSz P e = I (x + 3) e := fun e => by rw [hP]; rfl
  have eR : ∀ e, pRe P e = I (x + 5) e := fun e => by rw [hP]; rfl
  have eW : pW P 8 = I (x + 11) 8 := by rw [hP]; rfl
  have w1 := hbd.2.1
  have wJ : ∀ J L, wrH x I' J L → J (x + 1) 1 = pE P ∧ (∀ e, J (x + 3) e = pSz P e) ∧ (∀ e, J (x + 5) e = pRe P e) ∧ J (x + 11) 8 = pW P 8 ∧ Sol P (x + 35) J := fun J L h => by
    obtain ⟨-, -, h3, -⟩ := h
    refine ⟨by rw [h3 _ (by omega) (by omega), i1, eP], fun e => by rw [h3 _ (by omega) (by omega), i3, eZ], fun e => by rw [h3 _ (by omega) (by omega), i5, eR], by rw [h3 _ (by omega) (by omega), i11, eW], s.mono (fun p _ _ => h3 p (by omega) (by omega)) (h3 _ (by omega) (by omega))⟩
  have outer := loop_up (σ := Mm × Option Value) (head := fun e s => rn 129 2 [some (.ref x), some (.int (iI e)), s.2] [] (mk g s.1)) (Inv := fun e s => 0 ≤ e ∧ wrH x I' s.1 (wtS P e)) (n := pE P) (by
    rintro e ⟨J, o⟩ elt ⟨e0, hJ⟩
    have hJ : wrH x I' J (wtS P e) := hJ
    have n0 := hbd.2.2.1 e e0 elt
    have c0 := fsS_b hbd hz e0 elt
    have hlen := wtS_l hbd e0 (by omega)
    obtain ⟨jE, jZ, jR, jW, jS⟩ := wJ J _ hJ
    -- a space ahead
    have sp : ∃ J1, rn 129 2 [some (.ref x), some (.int (iI e)), o] [] (mk g J) = rn 129 6 [some (.ref x), some (.int (iI e)), some (.int (iI 0))] [] (mk g J1) ∧ wrH x I' J1 (wtS P e ++ (if 0 < e then [32] else [])) := by
      by_cases h0 : 0 < e
      · obtain ⟨J1, a1, a2⟩ := s_write (g := g) (v := 32) h5 hw hJ (by omega)
        refine ⟨J1, ?_, by rw [if_pos h0]; exact a2⟩
        refine (w_129_2 (by first | assumption | omega) (by first | assumption | omega) (by first | assumption | omega) (by first | assumption | omega) (by first | assumption | omega) (by first | assumption | omega)).trans ?_
        refine (if_neg (by omega)).trans ?_
        simp (maxSteps := 2000000) (disch := first | assumption | omega) only [aft_v, aft_n, aft_t, Nat.add_assoc, Nat.reduceAdd, if_true, if_false, not_true_eq_false, not_false_eq_true, Classical.not_not, Int.reduceAdd, Int.reduceSub, Int.reduceMul, Int.reduceNeg, Int.reduceLT, Int.reduceLE, Int.reduceEq, Int.add_zero, Int.zero_add, Int.sub_zero, w_129_3, w_129_4, w_129_5, a1, if_neg (show ¬ e ≤ 0 by omega)]
      · refine ⟨J, ?_, by rw [if_neg h0, List.append_nil]; exact hJ⟩
        refine (w_129_2 (by first | assumption | omega) (by first | assumption | omega) (by first | assumption | omega) (by first | assumption | omega) (by first | assumption | omega) (by first | assumption | omega)).trans ?_
        refine (if_neg (by omega)).trans ?_
        simp (maxSteps := 2000000) (disch := first | assumption | omega) only [aft_v, aft_n, aft_t, Nat.add_assoc, Nat.reduceAdd, if_true, if_false, not_true_eq_false, not_false_eq_true, Classical.not_not, Int.reduceAdd, Int.reduceSub, Int.reduceMul, Int.reduceNeg, Int.reduceLT, Int.reduceLE, Int.reduceEq, Int.add_zero, Int.zero_add, Int.sub_zero, w_129_3, w_129_5, if_pos (show e ≤ 0 by omega)]
    obtain ⟨J1, b1, b2⟩ := sp
    obtain ⟨L1, hL1⟩ : ∃ L1, L1 = wtS P e ++ (if 0 < e then [32] else []) := ⟨_, rfl⟩
    have l1 : (L1.length : Int) ≤ 5 * e + 1 := by
      rw [hL1, List.length_append]
      have h1 : (if 0 < e then [(32 : Int)] else []).length ≤ 1 := by split <;> simp
      omega
    rw [← hL1] at b2
    have inner := loop_up (σ := Mm) (head := fun k s => rn 129 6 [some (.ref x), some (.int (iI e)), some (.int (iI k))] [] (mk g s)) (Inv := fun k s => 0 ≤ k ∧ wrH x I' s (L1 ++ dgS P e k)) (n := pSz P e) (by
      rintro k K klt ⟨k0, hK⟩
      obtain ⟨jE, jZ, jR, jW, jS⟩ := wJ K _ hK
      have hd := dgS_l (P := P) (e := e) k0
      have q0 : cl 62 [.ref (x + 2), .int (iI e)] (mk g K) = some (.inl (some (.int (iI (pSz P e)))), mk g K) := by
        rw [← jZ e]; exact s_row_get (p := x + 1 + 1) p_1 e0 (by omega)
      have q1 := s_firstFinger (g := g) (I := K) (l := x + 35) (e := e) (k := k) hl hbd jS hz ⟨e0, elt⟩ ⟨k0, klt⟩
      obtain ⟨K1, a1, a2⟩ := s_write (g := g) (v := 48 + fgP P e (fsS P e) k) h5 hw hK (by rw [List.length_append]; omega)
      refine ⟨K1, ?_, by omega, by rw [dgS_s k0, ← List.append_assoc]; exact a2⟩
      show rn _ _ _ _ _ = rn _ _ _ _ _
      refine (w_129_6 (by first | assumption | omega) (by first | assumption | omega) (by first | assumption | omega)).trans ?_
      simp (maxSteps := 2000000) (disch := first | assumption | omega) only [aft_v, aft_n, aft_t, Nat.add_assoc, Nat.reduceAdd, if_true, if_false, not_true_eq_false, not_false_eq_true, Classical.not_not, Int.reduceAdd, Int.reduceSub, Int.reduceMul, Int.reduceNeg, Int.reduceLT, Int.reduceLE, Int.reduceEq, Int.add_zero, Int.zero_add, Int.sub_zero, w_129_7, w_129_8, w_129_9, w_129_10, q0, q1, a1, if_neg (show ¬ pSz P e ≤ k by omega)]) 0 J1 (by omega) ⟨Int.le_refl _, by rw [show dgS P e 0 = [] from rfl, List.append_nil]; exact b2⟩
    obtain ⟨J2, c1, -, c2⟩ := inner
    have c1 : rn 129 6 [some (.ref x), some (.int (iI e)), some (.int (iI 0))] [] (mk g J1) = rn 129 6 [some (.ref x), some (.int (iI e)), some (.int (iI (pSz P e)))] [] (mk g J2) := c1
    obtain ⟨jE, jZ, jR, jW, jS⟩ := wJ J2 _ c2
    have hd := dgS_l (P := P) (e := e) (k := pSz P e) (by omega)
    have q0 : cl 62 [.ref (x + 2), .int (iI e)] (mk g J2) = some (.inl (some (.int (iI (pSz P e)))), mk g J2) := by
      rw [← jZ e]; exact s_row_get (p := x + 1 + 1) p_1 e0 (by omega)
    have qr : cl 62 [.ref (x + 4), .int (iI e)] (mk g J2) = some (.inl (some (.int (iI (pRe P e)))), mk g J2) := by
      rw [← jR e]; exact s_row_get (p := x + 1 + 3) p_3 e0 (by omega)
    have rb := hbd.2.2.2.2.2 e e0 elt
    have wb : 0 ≤ pW P 8 ∧ pW P 8 ≤ 99 := by rw [eW]; exact hB.1.2.2.2.2.2.2.1 8
    have qf := s_isFree (g := g) (I := J2) (q := x + 1) (r := pRe P e) hp' (by omega) (by show (-2147483648 ≤ J2 (x + 11) 8 ∧ J2 (x + 11) 8 < 2147483648); rw [jW]; omega)
    rw [show J2 (x + 1 + 10) 8 = pW P 8 from jW] at qf
    rw [wtS_s e0, ← hL1]
    by_cases hlast : e + 1 < pE P
    · by_cases hfr : pW P 8 ≤ pRe P e
      · rw [if_pos ⟨hlast, hfr⟩]
        rw [if_pos hfr] at qf
        obtain ⟨J3, d1, d2⟩ := s_write (g := g) (v := 39) h5 hw c2 (by rw [List.length_append]; omega)
        refine ⟨(J3, some (.int (iI (pSz P e)))), ?_, by omega, d2⟩
        show rn _ _ _ _ _ = rn _ _ _ _ _
        rw [b1, c1]
        refine (w_129_6 (by first | assumption | omega) (by first | assumption | omega) (by first | assumption | omega)).trans ?_
        simp (maxSteps := 2000000) (disch := first | assumption | omega) only [aft_v, aft_n, aft_t, Nat.add_assoc, Nat.reduceAdd, if_true, if_false, not_true_eq_false, not_false_eq_true, Classical.not_not, Int.reduceAdd, Int.reduceSub, Int.reduceMul, Int.reduceNeg, Int.reduceLT, Int.reduceLE, Int.reduceEq, Int.add_zero, Int.zero_add, Int.sub_zero, w_129_7, w_129_11, w_129_12, w_129_13, w_129_14, w_129_15, w_129_16, q0, qr, qf, d1, jE, if_pos (Int.le_refl (pSz P e)), if_neg (show ¬ pE P - 1 ≤ e by omega), show ¬ (1 : Int) = 0 by decide]
      · rw [if_neg (fun z => hfr z.2), List.append_nil]
        rw [if_neg hfr] at qf
        refine ⟨(J2, some (.int (iI (pSz P e)))), ?_, by omega, c2⟩
        show rn _ _ _ _ _ = rn _ _ _ _ _
        rw [b1, c1]
        refine (w_129_6 (by first | assumption | omega) (by first | assumption | omega) (by first | assumption | omega)).trans ?_
        simp (maxSteps := 2000000) (disch := first | assumption | omega) only [aft_v, aft_n, aft_t, Nat.add_assoc, Nat.reduceAdd, if_true, if_false, not_true_eq_false, not_false_eq_true, Classical.not_not, Int.reduceAdd, Int.reduceSub, Int.reduceMul, Int.reduceNeg, Int.reduceLT, Int.reduceLE, Int.reduceEq, Int.add_zero, Int.zero_add, Int.sub_zero, w_129_7, w_129_11, w_129_12, w_129_13, w_129_14, w_129_16, q0, qr, qf, jE, if_pos (Int.le_refl (pSz P e)), if_neg (show ¬ pE P - 1 ≤ e by omega)]
    · rw [if_neg (fun z => hlast z.1), List.append_nil]
      refine ⟨(J2, some (.int (iI (pSz P e)))), ?_, by omega, c2⟩
      show rn _ _ _ _ _ = rn _ _ _ _ _
      rw [b1, c1]
      refine (w_129_6 (by first | assumption | omega) (by first | assumption | omega) (by first | assumption | omega)).trans ?_
      simp (maxSteps := 2000000) (disch := first | assumption | omega) only [aft_v, aft_n, aft_t, Nat.add_assoc, Nat.reduceAdd, if_true, if_false, not_true_eq_false, not_false_eq_true, Classical.not_not, Int.reduceAdd, Int.reduceSub, Int.reduceMul, Int.reduceNeg, Int.reduceLT, Int.reduceLE, Int.reduceEq, Int.add_zero, Int.zero_add, Int.sub_zero, w_129_7, w_129_11, w_129_16, q0, jE, if_pos (Int.le_refl (pSz P e)), if_pos (show pE P - 1 ≤ e by omega)]) 0 (upd2 I' x 7 0, none) w1.1 ⟨Int.le_refl _, hL_nil, upd2_at, fun p hp _ => funext fun j => upd2_p hp, fun i hi => upd2_i hi⟩
  obtain ⟨⟨J, o⟩, k1, -, k2⟩ := outer
  have k1 : rn 129 2 [some (.ref x), some (.int (iI 0)), none] [] (mk g (upd2 I' x 7 0)) = rn 129 2 [some (.ref x), some (.int (iI (pE P))), o] [] (mk g J) := k1
  have k2 : wrH x I' J (wtS P (pE P)) := k2
  have j7 : J x 7 = ((wtS P (pE P)).length : Int) := k2.2.1
  have jE := (wJ J _ k2).1
  rw [← hP, eP]
  refine ⟨I', J, ?_, fr, s, k2⟩
  simp (maxSteps := 2000000) (disch := first | assumption | omega) only [aft_v, aft_n, aft_t, Nat.add_assoc, Nat.reduceAdd, if_true, if_false, not_true_eq_false, not_false_eq_true, Classical.not_not, Int.reduceAdd, Int.reduceSub, Int.reduceMul, Int.reduceNeg, Int.reduceLT, Int.reduceLE, Int.reduceEq, Int.add_zero, Int.zero_add, Int.sub_zero, c_129, w_129_0, w_129_1, e1]
  rw [k1]
  refine (w_129_2 (by first | assumption | omega) (by first | assumption | omega) (by first | assumption | omega) (by first | assumption | omega) (by first | assumption | omega) (by first | assumption | omega)).trans ?_
  rw [jE]
  refine (if_pos (by omega)).trans ?_
  simp (maxSteps := 2000000) (disch := first | assumption | omega) only [aft_v, aft_n, aft_t, Nat.add_assoc, Nat.reduceAdd, if_true, if_false, not_true_eq_false, not_false_eq_true, Classical.not_not, Int.reduceAdd, Int.reduceSub, Int.reduceMul, Int.reduceNeg, Int.reduceLT, Int.reduceLE, Int.reduceEq, Int.add_zero, Int.zero_add, Int.sub_zero, w_129_17, j7]
theorem s_hwriteFingersNo (hx : isHn g x) (hl : isPl g (x + 35)) (hB : gd I (x + 1)) (ho : plOk x I) (hz : lsS (pv I (x + 1)) 0 = -1) :
    ∃ I', cl 129 [.ref x] (mk g I) = some (.inr "java/util/NoSuchElementException", mk (gexc g) I') ∧ frP (x + 35) I I' ∧ Sol (pv I (x + 1)) (x + 35) I' := by
  obtain ⟨I', e1, fr, s⟩ := s_needFingering hx hl hB ho
  rw [if_pos hz] at e1
  refine ⟨I', ?_, fr, s⟩
  obtain ⟨h5, hp⟩ := hx
  simp (maxSteps := 2000000) (disch := first | assumption | omega) only [aft_v, aft_n, aft_t, Nat.add_assoc, Nat.reduceAdd, if_true, if_false, not_true_eq_false, not_false_eq_true, Classical.not_not, Int.reduceAdd, Int.reduceSub, Int.reduceMul, Int.reduceNeg, Int.reduceLT, Int.reduceLE, Int.reduceEq, Int.add_zero, Int.zero_add, Int.sub_zero, c_129, w_129_0, e1]
theorem s_hwrittenByte {i : Int} (h5 : g.1 x = sX5 x) (hw : isR g (x + 80) ∧ gn g (x + 80 + 1) = 200) (h1 : I x 7 = L.length) (h2 : hL I (x + 81) L) (hn : L.length ≤ 200) (hi : 0 ≤ i ∧ i < L.length) :
    cl 130 [.ref x, .int (iI i)] (mk g I) = some (.inl (some (.int (iI (L.getD i.toNat 0)))), mk g I) := by
  have q := s_isWithin (g := g) (I := I) (a := i) (b := 0) (c := (L.length : Int) - 1) (by omega) (by omega) (by omega)
  rw [if_pos (show 0 ≤ i ∧ i ≤ (L.length : Int) - 1 by omega)] at q
  have qr : cl 62 [.ref (x + 80), .int (iI i)] (mk g I) = some (.inl (some (.int (iI (I (x + 81) i)))), mk g I) := s_row_get (p := x + 80) hw.1 hi.1 (by omega)
  have hv := h2 i.toNat (by omega)
  rw [show ((i.toNat : Nat) : Int) = i by omega] at hv
  have hr := hw.1.1
  rw [← hv]
  simp (maxSteps := 2000000) (disch := first | assumption | omega) only [aft_v, aft_n, aft_t, Nat.add_assoc, Nat.reduceAdd, if_true, if_false, not_true_eq_false, not_false_eq_true, Classical.not_not, Int.reduceAdd, Int.reduceSub, Int.reduceMul, Int.reduceNeg, Int.reduceLT, Int.reduceLE, Int.reduceEq, Int.add_zero, Int.zero_add, Int.sub_zero, c_130, w_130_0, w_130_1, w_130_3, w_130_4, h1, q, qr, show ¬ (1 : Int) = 0 by decide]
theorem s_hwrittenByteBad {i : Int} (h5 : g.1 x = sX5 x) (h1 : I x 7 = L.length) (hn : L.length ≤ 200) (hr : (-2147483648 ≤ i ∧ i < 2147483648)) (hi : ¬ (0 ≤ i ∧ i < L.length)) :
    cl 130 [.ref x, .int (iI i)] (mk g I) = some (.inr "java/lang/IndexOutOfBoundsException", mk (gexc g) I) := by
  have q := s_isWithin (g := g) (I := I) (a := i) (b := 0) (c := (L.length : Int) - 1) (by omega) (by omega) (by omega)
  rw [if_neg (show ¬ (0 ≤ i ∧ i ≤ (L.length : Int) - 1) by omega)] at q
  simp (maxSteps := 2000000) (disch := first | assumption | omega) only [aft_v, aft_n, aft_t, Nat.add_assoc, Nat.reduceAdd, if_true, if_false, not_true_eq_false, not_false_eq_true, Classical.not_not, Int.reduceAdd, Int.reduceSub, Int.reduceMul, Int.reduceNeg, Int.reduceLT, Int.reduceLE, Int.reduceEq, Int.add_zero, Int.zero_add, Int.sub_zero, c_130, w_130_0, w_130_1, w_130_2, h1, q]
theorem s_writtenByteM {i : Int} (hm : isM g m) (h1 : I m 29 = L.length) (h2 : hL I (m + 18) L) (hn : L.length ≤ 250) (hi : 0 ≤ i ∧ i < L.length) :
    cl 262 [.ref m, .int (iI i)] (mk g I) = some (.inl (some (.int (iI (L.getD i.toNat 0)))), mk g (upd2 I m 7 0)) := by
  have q := s_isIn (g := g) (I := I) (a := i) (b := 0) (c := (L.length : Int) - 1) (by omega) (by omega) (by omega)
  rw [if_pos (show 0 ≤ i ∧ i ≤ (L.length : Int) - 1 by omega)] at q
  have hv := h2 i.toNat (by omega)
  rw [show ((i.toNat : Nat) : Int) = i by omega] at hv
  have hv2 : upd2 I m 7 0 (m + 18) i = L.getD i.toNat 0 := by rw [upd2_p (by omega)]; exact hv
  have u7 : upd2 I m 7 0 m 7 = 0 := upd2_at
  obtain ⟨t_0, ⟨t_1, d_1, n_1⟩, ⟨t_2, d_2, n_2⟩, ⟨t_3, d_3, n_3⟩, ⟨t_4, d_4, n_4⟩, ⟨t_5, d_5, n_5⟩, ⟨t_6, n_6⟩, ⟨t_7, d_7, n_7⟩, ⟨t_8, d_8, n_8⟩, ⟨t_9, d_9, n_9⟩, ⟨t_10, d_10, n_10⟩, ⟨t_11, d_11, n_11⟩, ⟨t_12, d_12, n_12⟩, ⟨t_13, d_13, n_13⟩, ⟨t_14, d_14, n_14⟩, ⟨t_15, n_15⟩, ⟨t_16, n_16⟩, ⟨t_17, d_17, n_17⟩, ⟨t_18, d_18, n_18⟩⟩ := hm
  simp (maxSteps := 2000000) (disch := first | assumption | omega) only [aft_v, aft_n, aft_t, Nat.add_assoc, Nat.reduceAdd, if_true, if_false, not_true_eq_false, not_false_eq_true, Classical.not_not, Int.reduceAdd, Int.reduceSub, Int.reduceMul, Int.reduceNeg, Int.reduceLT, Int.reduceLE, Int.reduceEq, Int.add_zero, Int.zero_add, Int.sub_zero, c_262, w_262_0, w_262_1, w_262_2, w_262_4, w_262_6, w_262_7, h1, q, u7, hv2, show ¬ (1 : Int) = 0 by decide, if_pos (Int.le_refl 0)]
theorem s_writtenByteBad {i : Int} (hm : isM g m) (h1 : I m 29 = L.length) (hn : L.length ≤ 250) (hr : (-2147483648 ≤ i ∧ i < 2147483648)) (hi : ¬ (0 ≤ i ∧ i < L.length)) :
    cl 262 [.ref m, .int (iI i)] (mk g I) = some (.inl (some (.int (iI 0))), mk g (upd2 I m 7 1)) := by
  have q := s_isIn (g := g) (I := I) (a := i) (b := 0) (c := (L.length : Int) - 1) (by omega) (by omega) (by omega)
  rw [if_neg (show ¬ (0 ≤ i ∧ i ≤ (L.length : Int) - 1) by omega)] at q
  have u7 : upd2 I m 7 1 m 7 = 1 := upd2_at
  obtain ⟨t_0, ⟨t_1, d_1, n_1⟩, ⟨t_2, d_2, n_2⟩, ⟨t_3, d_3, n_3⟩, ⟨t_4, d_4, n_4⟩, ⟨t_5, d_5, n_5⟩, ⟨t_6, n_6⟩, ⟨t_7, d_7, n_7⟩, ⟨t_8, d_8, n_8⟩, ⟨t_9, d_9, n_9⟩, ⟨t_10, d_10, n_10⟩, ⟨t_11, d_11, n_11⟩, ⟨t_12, d_12, n_12⟩, ⟨t_13, d_13, n_13⟩, ⟨t_14, d_14, n_14⟩, ⟨t_15, n_15⟩, ⟨t_16, n_16⟩, ⟨t_17, d_17, n_17⟩, ⟨t_18, d_18, n_18⟩⟩ := hm
  simp (maxSteps := 2000000) (disch := first | assumption | omega) only [aft_v, aft_n, aft_t, Nat.add_assoc, Nat.reduceAdd, if_true, if_false, not_true_eq_false, not_false_eq_true, Classical.not_not, Int.reduceAdd, Int.reduceSub, Int.reduceMul, Int.reduceNeg, Int.reduceLT, Int.reduceLE, Int.reduceEq, Int.add_zero, Int.zero_add, Int.sub_zero, c_262, w_262_0, w_262_1, w_262_3, w_262_4, w_262_5, w_262_7, h1, q, u7, if_neg (show ¬ (1 : Int) ≤ 0 by decide)]
theorem s_writeFingersM {Lg : Nat → Int → Int} (hm : isM g m) (hW : Wf P) (hP : P = mv I m) (hz : ¬ lsS P 0 = -1) :
    ∃ I' L', cl 261 [.ref m] (mk (gL g Lg) I) = some (.inl (some (.int (iI ((wtS P (pE P)).length : Int)))), mk (gL g L') I') ∧ (∃ K, frQ m 0 I K ∧ wrM m K I' (wtS P (pE P))) ∧ frML m Lg L' := by
  have hbd := Wf_bd hW
  have w1 := hW.2.1
  obtain ⟨J, L1, j1, j2, j3, j4, j5⟩ := s_chooses (g := g) (I := I) (L := Lg) hm hW hP
  rw [if_neg hz] at j1
  have fQ := frQ_C (t := 0) j2
  obtain ⟨K, hK⟩ : ∃ K, K = upd2 J m 7 0 := ⟨_, rfl⟩
  rw [← hK] at fQ
  have u7 : K m 7 = 0 := fQ.2.2
  have pK : mv K m = P := by rw [hP]; exact frQ_mv fQ
  have r12 : ∀ e, 0 ≤ e → e < pE P → K (m + 12) e = 10 * e + fsS P e := fun e e0 e1 => by rw [hK, upd2_p (by omega)]; exact j5 hz e e0 e1
  have r9 : ∀ e, 0 ≤ e → e < pE P → K (m + 9) (10 * e + fsS P e) = itS P e (fsS P e) := fun e e0 e1 => by
    have c0 := fsS_b hbd hz e0 e1
    rw [hK, upd2_p (by omega)]; exact ((j4.1 e e0 e1).2 _ c0.1 c0.2).1
  obtain ⟨g2, hg2⟩ : ∃ g2, g2 = gL g L1 := ⟨_, rfl⟩
  have hm2 : isM g2 m := by rw [hg2]; exact hm
  have hm3 := hm2
  have hm0 := hm
  obtain ⟨t_0, ⟨t_1, d_1, n_1⟩, ⟨t_2, d_2, n_2⟩, ⟨t_3, d_3, n_3⟩, ⟨t_4, d_4, n_4⟩, ⟨t_5, d_5, n_5⟩, ⟨t_6, n_6⟩, ⟨t_7, d_7, n_7⟩, ⟨t_8, d_8, n_8⟩, ⟨t_9, d_9, n_9⟩, ⟨t_10, d_10, n_10⟩, ⟨t_11, d_11, n_11⟩, ⟨t_12, d_12, n_12⟩, ⟨t_13, d_13, n_13⟩, ⟨t_14, d_14, n_14⟩, ⟨t_15, n_15⟩, ⟨t_16, n_16⟩, ⟨t_17, d_17, n_17⟩, ⟨t_18, d_18, n_18⟩⟩ := hm2
  have wJ : ∀ s L, wrM m K s L → mv s m = P ∧ (∀ e, 0 ≤ e → e < pE P → s (m + 12) e = 10 * e + fsS P e) ∧ (∀ e, 0 ≤ e → e < pE P → s (m + 9) (10 * e + fsS P e) = itS P e (fsS P e)) := fun s L h => by
    obtain ⟨-, -, h3, -⟩ := h
    refine ⟨by rw [← pK]; unfold mv; rw [h3 _ (by omega) (by omega)], fun e a b => by rw [h3 _ (by omega) (by omega)]; exact r12 e a b, fun e a b => by rw [h3 _ (by omega) (by omega)]; exact r9 e a b⟩
  have outer := loop_up (σ := Mm × Option Value) (head := fun e s => rn 261 7 [some (.ref m), some (.int (iI e)), s.2] [] (mk g2 s.1)) (Inv := fun e s => 0 ≤ e ∧ wrM m K s.1 (wtS P e)) (n := pE P) (by
    rintro e ⟨s, o⟩ elt ⟨e0, hs⟩
    have hs : wrM m K s (wtS P e) := hs
    have n0 := hbd.2.2.1 e e0 elt
    have c0 := fsS_b hbd hz e0 elt
    have hlen := wtS_l hbd e0 (by omega)
    obtain ⟨jM, j12, j9⟩ := wJ s _ hs
    have hev : cl 182 [.ref m] (mk g2 s) = some (.inl (some (.int (iI (pE P)))), mk g2 s) := by rw [← jM]; exact s_events hm3
    have sp : ∃ J1, rn 261 7 [some (.ref m), some (.int (iI e)), o] [] (mk g2 s) = rn 261 12 [some (.ref m), some (.int (iI e)), some (.int (iI 0))] [] (mk g2 J1) ∧ wrM m K J1 (wtS P e ++ (if 0 < e then [32] else [])) := by
      by_cases h0 : 0 < e
      · obtain ⟨J1, a1, a2⟩ := s_says (g := g2) (v := 32) hm3 hs (by omega)
        refine ⟨J1, ?_, by rw [if_pos h0]; exact a2⟩
        refine (w_261_7 (by first | assumption | omega)).trans ?_
        simp (maxSteps := 2000000) (disch := first | assumption | omega) only [aft_v, aft_n, aft_t, Nat.add_assoc, Nat.reduceAdd, if_true, if_false, not_true_eq_false, not_false_eq_true, Classical.not_not, Int.reduceAdd, Int.reduceSub, Int.reduceMul, Int.reduceNeg, Int.reduceLT, Int.reduceLE, Int.reduceEq, Int.add_zero, Int.zero_add, Int.sub_zero, w_261_8, w_261_9, w_261_10, w_261_11, hev, a1, if_neg (show ¬ pE P ≤ e by omega), if_neg (show ¬ e ≤ 0 by omega)]
      · refine ⟨s, ?_, by rw [if_neg h0, List.append_nil]; exact hs⟩
        refine (w_261_7 (by first | assumption | omega)).trans ?_
        simp (maxSteps := 2000000) (disch := first | assumption | omega) only [aft_v, aft_n, aft_t, Nat.add_assoc, Nat.reduceAdd, if_true, if_false, not_true_eq_false, not_false_eq_true, Classical.not_not, Int.reduceAdd, Int.reduceSub, Int.reduceMul, Int.reduceNeg, Int.reduceLT, Int.reduceLE, Int.reduceEq, Int.add_zero, Int.zero_add, Int.sub_zero, w_261_8, w_261_9, w_261_11, hev, if_neg (show ¬ pE P ≤ e by omega), if_pos (show e ≤ 0 by omega)]
    obtain ⟨J1, b1, b2⟩ := sp
    obtain ⟨L1, hL1⟩ : ∃ L1, L1 = wtS P e ++ (if 0 < e then [32] else []) := ⟨_, rfl⟩
    have l1 : (L1.length : Int) ≤ 5 * e + 1 := by
      rw [hL1, List.length_append]
      have h1 : (if 0 < e then [(32 : Int)] else []).length ≤ 1 := by split <;> simp
      omega
    rw [← hL1] at b2
    have inner := loop_up (σ := Mm) (head := fun k s => rn 261 12 [some (.ref m), some (.int (iI e)), some (.int (iI k))] [] (mk g2 s)) (Inv := fun k s => 0 ≤ k ∧ wrM m K s (L1 ++ dgS P e k)) (n := pSz P e) (by
      rintro k s klt ⟨k0, hs⟩
      obtain ⟨jM, j12, j9⟩ := wJ s _ hs
      have hd := dgS_l (P := P) (e := e) k0
      have q0 : cl 183 [.ref m, .int (iI e)] (mk g2 s) = some (.inl (some (.int (iI (pSz P e)))), mk g2 s) := by rw [← jM]; exact s_notesOf hm3 (by omega)
      have y1 := j12 e e0 elt
      have y2 := j9 e e0 elt
      have ib := itS_b (P := P) (e := e) (c := fsS P e) n0.1
      have q3 := s_fingerIn (g := g2) (I := s) (a := itS P e (fsS P e)) (k := k) (by omega) (by omega)
      have eF : fgS (itS P e (fsS P e)) k = fgP P e (fsS P e) k := rfl
      rw [eF] at q3
      obtain ⟨K1, a1, a2⟩ := s_says (g := g2) (v := 48 + fgP P e (fsS P e) k) hm3 hs (by rw [List.length_append]; omega)
      refine ⟨K1, ?_, by omega, by rw [dgS_s k0, ← List.append_assoc]; exact a2⟩
      show rn _ _ _ _ _ = rn _ _ _ _ _
      refine (w_261_12 (by first | assumption | omega)).trans ?_
      simp (maxSteps := 2000000) (disch := first | assumption | omega) only [aft_v, aft_n, aft_t, Nat.add_assoc, Nat.reduceAdd, if_true, if_false, not_true_eq_false, not_false_eq_true, Classical.not_not, Int.reduceAdd, Int.reduceSub, Int.reduceMul, Int.reduceNeg, Int.reduceLT, Int.reduceLE, Int.reduceEq, Int.add_zero, Int.zero_add, Int.sub_zero, w_261_13, w_261_14, w_261_15, w_261_16, q0, y1, y2, q3, a1, if_neg (show ¬ pSz P e ≤ k by omega)]) 0 J1 (by omega) ⟨Int.le_refl _, by rw [show dgS P e 0 = [] from rfl, List.append_nil]; exact b2⟩
    obtain ⟨J2, c1, -, c2⟩ := inner
    have c1 : rn 261 12 [some (.ref m), some (.int (iI e)), some (.int (iI 0))] [] (mk g2 J1) = rn 261 12 [some (.ref m), some (.int (iI e)), some (.int (iI (pSz P e)))] [] (mk g2 J2) := c1
    obtain ⟨jM, j12, j9⟩ := wJ J2 _ c2
    have hd := dgS_l (P := P) (e := e) (k := pSz P e) (by omega)
    have q0 : cl 183 [.ref m, .int (iI e)] (mk g2 J2) = some (.inl (some (.int (iI (pSz P e)))), mk g2 J2) := by rw [← jM]; exact s_notesOf hm3 (by omega)
    have hev2 : cl 182 [.ref m] (mk g2 J2) = some (.inl (some (.int (iI (pE P)))), mk g2 J2) := by rw [← jM]; exact s_events hm3
    have rb := hbd.2.2.2.2.2 e e0 elt
    have wb : 0 ≤ pW P 8 ∧ pW P 8 ≤ 99 := hW.2.2.2.1 8 (by decide) (by decide)
    have qf : cl 193 [.ref m, .int (iI e)] (mk g2 J2) = some (.inl (some (.int (iI (if pW P 8 ≤ pRe P e then 1 else 0)))), mk g2 J2) := by
      rw [← jM] at rb wb ⊢
      exact s_isFreeM hm3 (by omega) (by show (-2147483648 ≤ pRe (mv J2 m) e ∧ pRe (mv J2 m) e < 2147483648); omega) (by show (-2147483648 ≤ pW (mv J2 m) 8 ∧ pW (mv J2 m) 8 < 2147483648); omega)
    rw [wtS_s e0, ← hL1]
    by_cases hlast : e + 1 < pE P
    · by_cases hfr : pW P 8 ≤ pRe P e
      · rw [if_pos ⟨hlast, hfr⟩]
        rw [if_pos hfr] at qf
        obtain ⟨J3, d1, d2⟩ := s_says (g := g2) (v := 39) hm3 c2 (by rw [List.length_append]; omega)
        refine ⟨(J3, some (.int (iI (pSz P e)))), ?_, by omega, d2⟩
        show rn _ _ _ _ _ = rn _ _ _ _ _
        rw [b1, c1]
        refine (w_261_12 (by first | assumption | omega)).trans ?_
        simp (maxSteps := 2000000) (disch := first | assumption | omega) only [aft_v, aft_n, aft_t, Nat.add_assoc, Nat.reduceAdd, if_true, if_false, not_true_eq_false, not_false_eq_true, Classical.not_not, Int.reduceAdd, Int.reduceSub, Int.reduceMul, Int.reduceNeg, Int.reduceLT, Int.reduceLE, Int.reduceEq, Int.add_zero, Int.zero_add, Int.sub_zero, w_261_13, w_261_17, w_261_18, w_261_19, w_261_20, w_261_21, w_261_22, q0, qf, d1, hev2, if_pos (Int.le_refl (pSz P e)), if_neg (show ¬ pE P ≤ e + 1 by omega), show ¬ (1 : Int) = 0 by decide]
      · rw [if_neg (fun z => hfr z.2), List.append_nil]
        rw [if_neg hfr] at qf
        refine ⟨(J2, some (.int (iI (pSz P e)))), ?_, by omega, c2⟩
        show rn _ _ _ _ _ = rn _ _ _ _ _
        rw [b1, c1]
        refine (w_261_12 (by first | assumption | omega)).trans ?_
        simp (maxSteps := 2000000) (disch := first | assumption | omega) only [aft_v, aft_n, aft_t, Nat.add_assoc, Nat.reduceAdd, if_true, if_false, not_true_eq_false, not_false_eq_true, Classical.not_not, Int.reduceAdd, Int.reduceSub, Int.reduceMul, Int.reduceNeg, Int.reduceLT, Int.reduceLE, Int.reduceEq, Int.add_zero, Int.zero_add, Int.sub_zero, w_261_13, w_261_17, w_261_18, w_261_19, w_261_20, w_261_22, q0, qf, hev2, if_pos (Int.le_refl (pSz P e)), if_neg (show ¬ pE P ≤ e + 1 by omega)]
    · rw [if_neg (fun z => hlast z.1), List.append_nil]
      refine ⟨(J2, some (.int (iI (pSz P e)))), ?_, by omega, c2⟩
      show rn _ _ _ _ _ = rn _ _ _ _ _
      rw [b1, c1]
      refine (w_261_12 (by first | assumption | omega)).trans ?_
      simp (maxSteps := 2000000) (disch := first | assumption | omega) only [aft_v, aft_n, aft_t, Nat.add_assoc, Nat.reduceAdd, if_true, if_false, not_true_eq_false, not_false_eq_true, Classical.not_not, Int.reduceAdd, Int.reduceSub, Int.reduceMul, Int.reduceNeg, Int.reduceLT, Int.reduceLE, Int.reduceEq, Int.add_zero, Int.zero_add, Int.sub_zero, w_261_13, w_261_17, w_261_18, w_261_22, q0, hev2, if_pos (Int.le_refl (pSz P e)), if_pos (show pE P ≤ e + 1 by omega)]) 0 (upd2 K m 29 0, none) w1.1 ⟨Int.le_refl _, hL_nil, upd2_at, fun p hp _ => funext fun j => upd2_p hp, fun i hi => upd2_i hi⟩
  obtain ⟨⟨J9, o⟩, k1, -, k2⟩ := outer
  have k1 : rn 261 7 [some (.ref m), some (.int (iI 0)), none] [] (mk g2 (upd2 K m 29 0)) = rn 261 7 [some (.ref m), some (.int (iI (pE P))), o] [] (mk g2 J9) := k1
  have k2 : wrM m K J9 (wtS P (pE P)) := k2
  have j29 : J9 m 29 = ((wtS P (pE P)).length : Int) := k2.2.1
  have hev9 : cl 182 [.ref m] (mk g2 J9) = some (.inl (some (.int (iI (pE P)))), mk g2 J9) := by rw [← (wJ J9 _ k2).1]; exact s_events hm3
  refine ⟨J9, L1, ?_, ⟨K, fQ, k2⟩, j3⟩
  rw [← hg2] at j1 ⊢
  have h6 : (gL g Lg).1 m = sX6 m := hm0.1
  have u8 : upd2 J m 7 0 m 7 = 0 := upd2_at
  simp (maxSteps := 2000000) (disch := first | assumption | omega) only [aft_v, aft_n, aft_t, Nat.add_assoc, Nat.reduceAdd, if_true, if_false, not_true_eq_false, not_false_eq_true, Classical.not_not, Int.reduceAdd, Int.reduceSub, Int.reduceMul, Int.reduceNeg, Int.reduceLT, Int.reduceLE, Int.reduceEq, Int.add_zero, Int.zero_add, Int.sub_zero, c_261, w_261_0, w_261_1, w_261_2, j1, show ¬ (1 : Int) = 0 by decide]
  refine (w_261_4 (by first | assumption | omega) (by first | assumption | omega) (by first | assumption | omega) (by first | assumption | omega)).trans ?_
  rw [← hK]
  simp (maxSteps := 2000000) (disch := first | assumption | omega) only [aft_v, aft_n, aft_t, Nat.add_assoc, Nat.reduceAdd, if_true, if_false, not_true_eq_false, not_false_eq_true, Classical.not_not, Int.reduceAdd, Int.reduceSub, Int.reduceMul, Int.reduceNeg, Int.reduceLT, Int.reduceLE, Int.reduceEq, Int.add_zero, Int.zero_add, Int.sub_zero, w_261_6, u7, if_pos (Int.le_refl 0)]
  rw [k1]
  refine (w_261_7 (by first | assumption | omega)).trans ?_
  simp (maxSteps := 2000000) (disch := first | assumption | omega) only [aft_v, aft_n, aft_t, Nat.add_assoc, Nat.reduceAdd, if_true, if_false, not_true_eq_false, not_false_eq_true, Classical.not_not, Int.reduceAdd, Int.reduceSub, Int.reduceMul, Int.reduceNeg, Int.reduceLT, Int.reduceLE, Int.reduceEq, Int.add_zero, Int.zero_add, Int.sub_zero, w_261_8, w_261_23, hev9, j29, if_pos (Int.le_refl (pE P))]
theorem s_writeFingersNo {Lg : Nat → Int → Int} (hm : isM g m) (hW : Wf P) (hP : P = mv I m) (hz : lsS P 0 = -1) :
    ∃ I' L', cl 261 [.ref m] (mk (gL g Lg) I) = some (.inl (some (.int (iI 0))), mk (gL g L') I') ∧ frQ m 1 I I' ∧ frML m Lg L' := by
  obtain ⟨J, L1, j1, j2, j3, j4, j5⟩ := s_chooses (g := g) (I := I) (L := Lg) hm hW hP
  rw [if_pos hz] at j1
  refine ⟨upd2 J m 7 1, L1, ?_, frQ_C j2, j3⟩
  have u7 : upd2 J m 7 1 m 7 = 1 := upd2_at
  obtain ⟨t_0, ⟨t_1, d_1, n_1⟩, ⟨t_2, d_2, n_2⟩, ⟨t_3, d_3, n_3⟩, ⟨t_4, d_4, n_4⟩, ⟨t_5, d_5, n_5⟩, ⟨t_6, n_6⟩, ⟨t_7, d_7, n_7⟩, ⟨t_8, d_8, n_8⟩, ⟨t_9, d_9, n_9⟩, ⟨t_10, d_10, n_10⟩, ⟨t_11, d_11, n_11⟩, ⟨t_12, d_12, n_12⟩, ⟨t_13, d_13, n_13⟩, ⟨t_14, d_14, n_14⟩, ⟨t_15, n_15⟩, ⟨t_16, n_16⟩, ⟨t_17, d_17, n_17⟩, ⟨t_18, d_18, n_18⟩⟩ := hm
  simp (maxSteps := 2000000) (disch := first | assumption | omega | (simp (disch := omega) only [gL_gL, gL_21, gtL, gnL, gL_1, gL_gL, gL_21, upd2_p]; first | assumption | omega)) only [gL_gL, gL_21, aft_v, aft_n, aft_t, Nat.add_assoc, Nat.reduceAdd, if_true, if_false, not_true_eq_false, not_false_eq_true, Classical.not_not, Int.reduceAdd, Int.reduceSub, Int.reduceMul, Int.reduceNeg, Int.reduceLT, Int.reduceLE, Int.reduceEq, Int.add_zero, Int.zero_add, Int.sub_zero, c_261, w_261_0, w_261_1, w_261_3, w_261_4, w_261_5, j1, u7, if_neg (show ¬ (1 : Int) ≤ 0 by decide)]
end WR
