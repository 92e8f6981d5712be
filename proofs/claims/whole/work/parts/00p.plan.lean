/-! Plan: the choices of an event. -/
def isPl (g : Gm) (l : Nat) : Prop := g.1 l = sX1 l ∧ (isR g (l + 1) ∧ g.1 (l + 1) = sX2 (l + 1) ∧ gn g (l + 1 + 1) = 40) ∧ (isR g (l + 3) ∧ g.1 (l + 3) = sX2 (l + 3) ∧ gn g (l + 3 + 1) = 1200) ∧ (isR g (l + 5) ∧ g.1 (l + 5) = sX2 (l + 5) ∧ gn g (l + 5 + 1) = 400) ∧ (isR g (l + 7) ∧ g.1 (l + 7) = sX2 (l + 7) ∧ gn g (l + 7 + 1) = 4000) ∧ (isR g (l + 9) ∧ g.1 (l + 9) = sX2 (l + 9) ∧ gn g (l + 9 + 1) = 400) ∧ (isR g (l + 11) ∧ g.1 (l + 11) = sX2 (l + 11) ∧ gn g (l + 11 + 1) = 400) ∧ (isR g (l + 13) ∧ g.1 (l + 13) = sX2 (l + 13) ∧ gn g (l + 13 + 1) = 40) ∧ (isR g (l + 15) ∧ g.1 (l + 15) = sX2 (l + 15) ∧ gn g (l + 15 + 1) = 400) ∧ (isR g (l + 17) ∧ g.1 (l + 17) = sX2 (l + 17) ∧ gn g (l + 17 + 1) = 12) ∧ gt g (l + 19) = 1 ∧ gn g (l + 19) = 400
/-- nothing outside the plan at l is another -/
def frP (l : Nat) (I I' : Mm) : Prop := ∀ p, p < l ∨ l + 18 < p → I' p = I p
theorem frP.refl {l : Nat} {I : Mm} : frP l I I := fun _ _ => rfl
theorem frP.trans {l : Nat} {I J K : Mm} (h : frP l I J) (h' : frP l J K) : frP l I K := fun p hp => (h' p hp).trans (h p hp)
theorem frP.upd {l : Nat} {I J : Mm} {p : Nat} {i v : Int} (h : frP l I J) (hp : l ≤ p ∧ p ≤ l + 18) : frP l I (upd2 J p i v) := fun r hr => by
  rw [← h r hr]; exact funext fun j => upd2_p (by omega)
theorem frPv {l q : Nat} {I I' : Mm} (h : frP l I I') (hq : q + 17 ≤ l ∨ l + 20 ≤ q) : pv I' q = pv I q := by
  unfold pv
  rw [h q (by omega), h (q + 2) (by omega), h (q + 4) (by omega), h (q + 6) (by omega), h (q + 8) (by omega), h (q + 10) (by omega), h (q + 12) (by omega), h (q + 14) (by omega), h (q + 16) (by omega)]
theorem frPB {l q : Nat} {I I' : Mm} (h : frP l I I') (hq : q + 17 ≤ l ∨ l + 20 ≤ q) (hB : pB I q) : pB I' q := by
  unfold pB
  rw [h q (by omega), h (q + 2) (by omega), h (q + 4) (by omega), h (q + 6) (by omega), h (q + 8) (by omega), h (q + 10) (by omega), h (q + 12) (by omega), h (q + 14) (by omega), h (q + 16) (by omega)]
  exact hB
def f3 (a b c : Int) : Int → Int := fun k => if k = 0 then a else if k = 1 then b else c
def tryU (I : Mm) (l : Nat) (e n a b c : Int) : Mm := upd2 (upd2 (upd2 I (l + 4) ((e * 10 + n) * 3) a) (l + 4) ((e * 10 + n) * 3 + 1) b) (l + 4) ((e * 10 + n) * 3 + 2) c
section PLN
variable {g : Gm} {I : Mm} {q l : Nat}
theorem ecost_rng {e b : Int} {F : Int → Int} (hB : pB I q) (hs : 1 ≤ I (q + 2) e) (hd : ∀ k, 0 ≤ k → k + 1 < I (q + 2) e → I (q + 6) (e * 3 + k) < I (q + 6) (e * 3 + (k + 1))) : -1 ≤ ecostS (pv I q) e b F ∧ ecostS (pv I q) e b F ≤ 6000 := by
  have n0 := nc_b (k := pKy (pv I q) e 0 + b) (f := F 0) hB
  have n1 := nc_b (k := pKy (pv I q) e 1 + b) (f := F 1) hB
  have n2 := nc_b (k := pKy (pv I q) e 2 + b) (f := F 2) hB
  have hz : pSz (pv I q) e = I (q + 2) e := rfl
  unfold ecostS
  by_cases c1 : pSz (pv I q) e ≤ 1
  · rw [if_pos c1]; split <;> omega
  have t1 := stretch_b (a := F 0) (b := F 1) hB (d := pKy (pv I q) e 1 - pKy (pv I q) e 0) (by have := hd 0 (by omega) (by omega); show 0 ≤ I (q + 6) (e * 3 + 1) - I (q + 6) (e * 3 + 0); simp only [Int.zero_add] at this; omega)
  by_cases c2 : pSz (pv I q) e ≤ 2
  · rw [if_pos c2]; (repeat' split) <;> omega
  have t2 := stretch_b (a := F 1) (b := F 2) hB (d := pKy (pv I q) e 2 - pKy (pv I q) e 1) (by have := hd 1 (by omega) (by omega); show 0 ≤ I (q + 6) (e * 3 + 2) - I (q + 6) (e * 3 + 1); simp only [Int.reduceAdd] at this; omega)
  (repeat' split) <;> omega
theorem s_try {e a b c : Int} (hp : isPc g q) (hl : isPl g l) (hB : pB I q) (hq : q + 17 ≤ l ∨ l + 20 ≤ q) (he : 0 ≤ e ∧ e < 40) (hn : 0 ≤ I (l + 2) e ∧ I (l + 2) e < 10) (hs : 1 ≤ I (q + 2) e)
    (hf : ∀ k, 0 ≤ k → k < I (q + 2) e → 1 ≤ f3 a b c k ∧ f3 a b c k ≤ 5) (hd : ∀ k, 0 ≤ k → k + 1 < I (q + 2) e → I (q + 6) (e * 3 + k) < I (q + 6) (e * 3 + (k + 1))) :
    cl 35 [.ref l, .ref q, .int (iI e), .int (iI a), .int (iI b), .int (iI c)] (mk g I) = some (.inl none, mk g (if ecostS (pv I q) e 0 (f3 a b c) = -1 then tryU I l e (I (l + 2) e) a b c else upd2 (upd2 (tryU I l e (I (l + 2) e) a b c) (l + 6) (e * 10 + I (l + 2) e) (ecostS (pv I q) e 0 (f3 a b c))) (l + 2) e (I (l + 2) e + 1))) := by
  obtain ⟨l_0, ⟨l_1, m_1, l_2⟩, ⟨l_3, m_3, l_4⟩, ⟨l_5, m_5, l_6⟩, ⟨l_7, m_7, l_8⟩, ⟨l_9, m_9, l_10⟩, ⟨l_11, m_11, l_12⟩, ⟨l_13, m_13, l_14⟩, ⟨l_15, m_15, l_16⟩, ⟨l_17, m_17, l_18⟩, l_19, l_20⟩ := hl
  have fr : frP l I (tryU I l e (I (l + 2) e) a b c) := ((frP.refl.upd (by omega)).upd (by omega)).upd (by omega)
  have hB' := frPB fr hq hB
  have e2 : tryU I l e (I (l + 2) e) a b c (q + 2) = I (q + 2) := fr _ (by omega)
  have e6 : tryU I l e (I (l + 2) e) a b c (q + 6) = I (q + 6) := fr _ (by omega)
  have s3 : I (q + 2) e ≤ 3 := (hB.2.2.1 e).2
  have hF : ∀ k, 0 ≤ k → k < 3 → tryU I l e (I (l + 2) e) a b c (l + 4) ((e * 10 + I (l + 2) e) * 3 + k) = f3 a b c k := by
    intro k h0 h1
    unfold tryU f3
    have : k = 0 ∨ k = 1 ∨ k = 2 := by omega
    rcases this with rfl | rfl | rfl
    · rw [if_pos rfl, upd2_i (by omega), upd2_i (by omega), Int.add_zero, upd2_at]
    · rw [if_neg (by decide), if_pos rfl, upd2_i (by omega), upd2_at]
    · rw [if_neg (by decide), if_neg (by decide), upd2_at]
  have hc := s_costOfEvent (g := g) (I := tryU I l e (I (l + 2) e) a b c) (e := e) (b := 0) (r := (e * 10 + I (l + 2) e) * 3) (R := l + 3) hp hB' he (by omega) l_3 (by omega) (by rw [e2]; exact hs)
    (fun k h0 h1 => by rw [e2] at h1; rw [hF k h0 (by omega)]; exact hf k h0 h1) (fun k h0 h1 => by rw [e2] at h1; rw [e6]; exact hd k h0 h1)
  have hE : ecostS (pv (tryU I l e (I (l + 2) e) a b c) q) e 0 (fun k => tryU I l e (I (l + 2) e) a b c (l + 4) ((e * 10 + I (l + 2) e) * 3 + k)) = ecostS (pv I q) e 0 (f3 a b c) := by
    rw [frPv fr hq]
    exact ecost_F hs (fun k h0 h1 h2 => hF k h0 h2)
  have hc' : cl 19 [.ref q, .int (iI e), .ref (l + 3), .int (iI ((e * 10 + I (l + 2) e) * 3)), .int (iI 0)] (mk g (tryU I l e (I (l + 2) e) a b c)) = some (.inl (some (.int (iI (ecostS (pv I q) e 0 (f3 a b c))))), mk g (tryU I l e (I (l + 2) e) a b c)) := by rw [← hE]; exact hc
  unfold tryU at hc'
  have rg := ecost_rng (F := f3 a b c) (b := 0) hB hs hd
  have hp0 := hp.1
  have u2 : ∀ (i v j w k x : Int), upd2 (upd2 (upd2 I (l + 4) i v) (l + 4) j w) (l + 4) k x (l + 2) e = I (l + 2) e := fun i v j w k x => by rw [upd2_p (by omega), upd2_p (by omega), upd2_p (by omega)]
  by_cases hm : ecostS (pv I q) e 0 (f3 a b c) = -1
  · rw [if_pos hm]
    simp (maxSteps := 2000000) (disch := first | assumption | omega) only [aft_v, aft_n, aft_t, Nat.add_assoc, Nat.reduceAdd, if_true, if_false, not_true_eq_false, not_false_eq_true, Classical.not_not, Int.reduceAdd, Int.reduceSub, Int.reduceMul, Int.reduceNeg, Int.reduceLT, Int.reduceLE, Int.reduceEq, Int.add_zero, Int.zero_add, Int.sub_zero, c_35, w_35_0, w_35_1, w_35_2, w_35_3, w_35_4, w_35_5, w_35_6, w_35_7, w_35_8, w_35_9, w_35_10, w_35_11, w_35_12, s_row_get, s_row_put, s_placeOfChoice, s_baseOf, hc', hm, tryU, hn.2]
  · rw [if_neg hm]
    simp (maxSteps := 2000000) (disch := first | assumption | omega) only [aft_v, aft_n, aft_t, Nat.add_assoc, Nat.reduceAdd, if_true, if_false, not_true_eq_false, not_false_eq_true, Classical.not_not, Int.reduceAdd, Int.reduceSub, Int.reduceMul, Int.reduceNeg, Int.reduceLT, Int.reduceLE, Int.reduceEq, Int.add_zero, Int.zero_add, Int.sub_zero, c_35, w_35_0, w_35_1, w_35_2, w_35_3, w_35_4, w_35_5, w_35_6, w_35_7, w_35_8, w_35_9, w_35_10, w_35_11, w_35_12, s_row_get, s_row_put, s_placeOfChoice, s_baseOf, hc', hm, tryU, hn.2]
theorem s_try10 {e a b c : Int} (hl : isPl g l) (he : 0 ≤ e ∧ e < 40) (hn : I (l + 2) e = 10) :
    cl 35 [.ref l, .ref q, .int (iI e), .int (iI a), .int (iI b), .int (iI c)] (mk g I) = some (.inl none, mk g I) := by
  obtain ⟨l_0, ⟨l_1, m_1, l_2⟩, ⟨l_3, m_3, l_4⟩, ⟨l_5, m_5, l_6⟩, ⟨l_7, m_7, l_8⟩, ⟨l_9, m_9, l_10⟩, ⟨l_11, m_11, l_12⟩, ⟨l_13, m_13, l_14⟩, ⟨l_15, m_15, l_16⟩, ⟨l_17, m_17, l_18⟩, l_19, l_20⟩ := hl
  simp (maxSteps := 2000000) (disch := first | assumption | omega) only [aft_v, aft_n, aft_t, Nat.add_assoc, Nat.reduceAdd, if_true, if_false, not_true_eq_false, not_false_eq_true, Classical.not_not, Int.reduceAdd, Int.reduceSub, Int.reduceMul, Int.reduceNeg, Int.reduceLT, Int.reduceLE, Int.reduceEq, Int.add_zero, Int.zero_add, Int.sub_zero, c_35, w_35_0, w_35_1, w_35_2, w_35_3, w_35_4, w_35_5, w_35_6, w_35_7, w_35_8, w_35_9, w_35_10, w_35_11, w_35_12, s_row_get, hn]
/-- nothing but the choices of event e is another -/
def frL (l : Nat) (e : Int) (I0 I : Mm) : Prop := ∀ p i, ¬ (p = l + 2 ∧ i = e) → ¬ (p = l + 4 ∧ e * 30 ≤ i ∧ i < e * 30 + 30) → ¬ (p = l + 6 ∧ e * 10 ≤ i ∧ i < e * 10 + 10) → I p i = I0 p i
theorem frL.fr {e : Int} {I0 I : Mm} (h : frL l e I0 I) : frP l I0 I := fun p hp => funext fun i => h p i (by omega) (by omega) (by omega)
/-- the choices of event e among the first m shapes -/
def LI (P : PT) (l : Nat) (e : Int) (m : Nat) (I0 I : Mm) : Prop :=
  I (l + 2) e = ((flt (okm P e) m).length : Int) ∧
  (∀ c : Nat, c < (flt (okm P e) m).length → (∀ k, 0 ≤ k → k < pSz P e → I (l + 4) ((e * 10 + c) * 3 + k) = fgS (((flt (okm P e) m).getD c 0 : Nat) * stpN (pSz P e)) k) ∧ I (l + 6) (e * 10 + c) = ecostS P e 0 (fgS (((flt (okm P e) m).getD c 0 : Nat) * stpN (pSz P e)))) ∧ frL l e I0 I
theorem getD_app {L : List Nat} {x c : Nat} (h : c < L.length) : (L ++ [x]).getD c 0 = L.getD c 0 := by
  rw [List.getD_eq_getElem?_getD, List.getD_eq_getElem?_getD, List.getElem?_append_left h]
theorem getD_last {L : List Nat} {x : Nat} : (L ++ [x]).getD L.length 0 = x := by
  rw [List.getD_eq_getElem?_getD, List.getElem?_append_right (Nat.le_refl _)]; simp
theorem LI_step {I0 : Mm} {e a b c : Int} {m : Nat} (hp : isPc g q) (hl : isPl g l) (hB : pB I0 q) (hq : q + 17 ≤ l ∨ l + 20 ≤ q) (he : 0 ≤ e ∧ e < 40) (hs : 1 ≤ I0 (q + 2) e)
    (hd : ∀ k, 0 ≤ k → k + 1 < I0 (q + 2) e → I0 (q + 6) (e * 3 + k) < I0 (q + 6) (e * 3 + (k + 1))) (hm : m < mN (I0 (q + 2) e)) (hF : ∀ k, 0 ≤ k → k < I0 (q + 2) e → f3 a b c k = fgS (m * stpN (I0 (q + 2) e)) k) (h : LI (pv I0 q) l e m I0 I) :
    ∃ I', cl 35 [.ref l, .ref q, .int (iI e), .int (iI a), .int (iI b), .int (iI c)] (mk g I) = some (.inl none, mk g I') ∧ LI (pv I0 q) l e (m + 1) I0 I' := by
  obtain ⟨h1, h2, h3⟩ := h
  have fr := h3.fr
  have eP := frPv fr hq
  have hB' := frPB fr hq hB
  have s3 : I0 (q + 2) e ≤ 3 := (hB.2.2.1 e).2
  have e2 : I (q + 2) = I0 (q + 2) := fr _ (by omega)
  have e6 : I (q + 6) = I0 (q + 6) := fr _ (by omega)
  have hz : pSz (pv I0 q) e = I0 (q + 2) e := rfl
  have hr : pR (pv I0 q) = 0 ∨ pR (pv I0 q) = 1 := hB.1
  have hF' : ecostS (pv I0 q) e 0 (f3 a b c) = ecostS (pv I0 q) e 0 (fgS (m * stpN (pSz (pv I0 q) e))) := ecost_F hs (fun k h0 h1 _ => hF k h0 h1)
  have hm125 : (m : Int) * stpN (I0 (q + 2) e) < 125 := by
    have : I0 (q + 2) e = 1 ∨ I0 (q + 2) e = 2 ∨ I0 (q + 2) e = 3 := by omega
    rcases this with e9 | e9 | e9 <;> rw [e9] at hm ⊢
    · rw [show mN 1 = 5 from rfl] at hm; rw [show stpN 1 = 25 from rfl]; omega
    · rw [show mN 2 = 25 from rfl] at hm; rw [show stpN 2 = 5 from rfl]; omega
    · rw [show mN 3 = 125 from rfl] at hm; rw [show stpN 3 = 1 from rfl]; omega
  have hm0 : 0 ≤ (m : Int) * stpN (I0 (q + 2) e) := by
    refine Int.mul_nonneg (by omega) ?_
    unfold stpN; (repeat' split) <;> decide
  have hlen := shp_le (P := pv I0 q) (e := e) hr ⟨hs, s3⟩ (m := m + 1) hm
  by_cases hok : okm (pv I0 q) e m
  · rw [flt_y hok] at hlen
    simp only [List.length_append, List.length_cons, List.length_nil] at hlen
    have ht := s_try (g := g) (I := I) (a := a) (b := b) (c := c) hp hl hB' hq he (by omega) (by rw [e2]; exact hs) (fun k h0 h1 => by rw [e2] at h1; rw [hF k h0 h1]; exact fgS_b hm0 hm125) (by rw [e2, e6]; exact hd)
    rw [eP, if_neg (by rw [hF']; exact hok), h1] at ht
    refine ⟨_, ht, ?_, ?_, ?_⟩
    · rw [upd2_at, flt_y hok]; simp only [List.length_append, List.length_cons, List.length_nil]; omega
    · intro d hdl
      rw [flt_y hok] at hdl ⊢
      simp only [List.length_append, List.length_cons, List.length_nil] at hdl
      by_cases hd2 : d < (flt (okm (pv I0 q) e) m).length
      · rw [getD_app hd2]
        obtain ⟨x1, x2⟩ := h2 d hd2
        refine ⟨fun k k0 k1 => ?_, ?_⟩
        · rw [upd2_p (by omega), upd2_p (by omega)]
          unfold tryU
          rw [upd2_i (by omega), upd2_i (by omega), upd2_i (by omega)]
          exact x1 k k0 k1
        · rw [upd2_p (by omega), upd2_i (by omega)]
          unfold tryU
          rw [upd2_p (by omega), upd2_p (by omega), upd2_p (by omega)]
          exact x2
      · have : d = (flt (okm (pv I0 q) e) m).length := by omega
        subst this
        rw [getD_last]
        refine ⟨fun k k0 k1 => ?_, ?_⟩
        · rw [upd2_p (by omega), upd2_p (by omega)]
          refine Eq.trans ?_ (hF k k0 k1)
          unfold tryU f3
          have : k = 0 ∨ k = 1 ∨ k = 2 := by omega
          rcases this with rfl | rfl | rfl
          · rw [if_pos rfl, upd2_i (by omega), upd2_i (by omega), Int.add_zero, upd2_at]
          · rw [if_neg (by decide), if_pos rfl, upd2_i (by omega), upd2_at]
          · rw [if_neg (by decide), if_neg (by decide), upd2_at]
        · rw [upd2_p (by omega), upd2_at, hF']
    · intro p i n1 n2 n3
      rw [← h3 p i n1 n2 n3]
      unfold tryU upd2
      rw [if_neg (by omega), if_neg (by omega), if_neg (by omega), if_neg (by omega), if_neg (by omega)]
  · by_cases h10 : (flt (okm (pv I0 q) e) m).length = 10
    · refine ⟨I, s_try10 hl he (by rw [h1, h10]; rfl), ?_⟩
      unfold LI
      rw [flt_n hok]
      exact ⟨h1, h2, h3⟩
    · have hlen' := shp_le (P := pv I0 q) (e := e) hr ⟨hs, s3⟩ (m := m) (Nat.le_of_lt hm)
      have ht := s_try (g := g) (I := I) (a := a) (b := b) (c := c) hp hl hB' hq he (by omega) (by rw [e2]; exact hs) (fun k h0 h1 => by rw [e2] at h1; rw [hF k h0 h1]; exact fgS_b hm0 hm125) (by rw [e2, e6]; exact hd)
      rw [eP, if_pos (by rw [hF']; exact Classical.not_not.mp hok), h1] at ht
      refine ⟨_, ht, ?_⟩
      unfold LI
      rw [flt_n hok]
      refine ⟨?_, ?_, ?_⟩
      · unfold tryU
        rw [upd2_p (by omega), upd2_p (by omega), upd2_p (by omega)]
        exact h1
      · intro d hd2
        obtain ⟨x1, x2⟩ := h2 d hd2
        refine ⟨fun k k0 k1 => ?_, ?_⟩
        · unfold tryU
          rw [upd2_i (by omega), upd2_i (by omega), upd2_i (by omega)]
          exact x1 k k0 k1
        · unfold tryU
          rw [upd2_p (by omega), upd2_p (by omega), upd2_p (by omega)]
          exact x2
      · intro p i n1 n2 n3
        rw [← h3 p i n1 n2 n3]
        unfold tryU upd2
        rw [if_neg (by omega), if_neg (by omega), if_neg (by omega)]
theorem LI_skip {P : PT} {I0 : Mm} {e : Int} {m : Nat} (h : LI P l e m I0 I) (hr : pR P = 0 ∨ pR P = 1) (hs : 1 ≤ pSz P e ∧ pSz P e ≤ 3) (ho : ordB (pR P) (pSz P e) m = false) : LI P l e (m + 1) I0 I := by
  have hn : ¬ okm P e m := fun hk => by rw [ord_ok hr hs hk] at ho; cases ho
  unfold LI
  rw [flt_n hn]
  exact h
end PLN
