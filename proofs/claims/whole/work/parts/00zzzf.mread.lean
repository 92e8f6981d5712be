/-! The reference reads weights and spans. -/
def pstM (B : Int → Int) (n : Int) (m : Nat) (P : PT) (b : Int) (I J : Mm) : Prop := (∀ p, ¬ p = m → ¬ p = m + 1 → J p = I p) ∧ (∀ i, ¬ i = 10 → ¬ i = 11 → ¬ i = 12 → ¬ i = 13 → J m i = I m i) ∧ J m 14 = 0 ∧ lxM B n m b J ∧ Agr (mv J m) P
def perM (m : Nat) (e : Int × Int) (I J : Mm) : Prop := (∀ p, ¬ p = m → ¬ p = m + 1 → J p = I p) ∧ (∀ i, ¬ i = 10 → ¬ i = 11 → ¬ i = 12 → ¬ i = 13 → ¬ i = 14 → ¬ i = 15 → J m i = I m i) ∧ J m 14 = e.1 ∧ J m 15 = e.2 ∧ (-5 ≤ e.1 ∧ e.1 < 0) ∧ (0 ≤ J m 10 ∧ J m 10 ≤ 600) ∧ (0 ≤ J m 12 ∧ J m 12 ≤ 3)
def panM (B : Int → Int) (n : Int) (m : Nat) (g : Gm) (I : Mm) (r : Rz (PT × Int)) (o : Option Rs) : Prop := (∃ e J, r = .inl e ∧ o = some (.inl none, mk g J) ∧ perM m e I J) ∨ ∃ P b J, r = .inr (P, b) ∧ o = some (.inl none, mk g J) ∧ pstM B n m P b I J
theorem pstM.ok {B : Int → Int} {n : Int} {m : Nat} {P : PT} {b c : Int} {I J K : Mm} (h : pstM B n m P b I J) (h' : okM B n m c J K) : pstM B n m P c I K := by
  refine ⟨fun p h1 h2 => (h'.1.1 p h1).trans (h.1 p h1 h2), fun i a b c d => (h'.1.2 i a b c d).trans (h.2.1 i a b c d), h'.w.trans h.2.2.1, h'.2, ?_⟩
  have e : mv K m = mv J m := by unfold mv; rw [h'.1.1 (m + 1) (by omega)]
  rw [e]; exact h.2.2.2.2
theorem pstM.er {B : Int → Int} {n : Int} {m : Nat} {P : PT} {b : Int} {e : Int × Int} {I J K : Mm} (h : pstM B n m P b I J) (h' : erM m e J K) : perM m e I K :=
  ⟨fun p h1 h2 => (h'.1 p h1).trans (h.1 p h1 h2), fun i a b c d f k => (h'.2.1 i a b c d f k).trans (h.2.1 i a b c d), h'.2.2⟩
theorem perM.w {m : Nat} {e : Int × Int} {I J K : Mm} (h : perM m e I J) (hf : ∀ p, ¬ p = m + 1 → K p = J p) : perM m e I K := by
  have hm := hf m (by omega)
  obtain ⟨h1, h2, h3⟩ := h
  refine ⟨fun p a b => (hf p b).trans (h1 p a b), ?_⟩
  rw [hm]; exact ⟨h2, h3⟩
theorem perM.ne {m : Nat} {e : Int × Int} {I J : Mm} (h : perM m e I J) : ¬ e.1 = 0 ∧ -5 ≤ e.1 ∧ e.1 ≤ 0 := by
  have := h.2.2.2.2.1
  omega
theorem pstM.w {B : Int → Int} {n : Int} {m : Nat} {P P' : PT} {b : Int} {I J K : Mm} (h : pstM B n m P b I J) (hf : ∀ p, ¬ p = m + 1 → K p = J p) (hA : Agr (mv K m) P') : pstM B n m P' b I K := by
  have hm := hf m (by omega)
  have h7 := hf (m + 7) (by omega)
  obtain ⟨h1, h2, h3, h4, _⟩ := h
  refine ⟨fun p a b => (hf p b).trans (h1 p a b), ?_, ?_, ?_, hA⟩
  · rw [hm]; exact h2
  · rw [hm]; exact h3
  · unfold lxM at h4 ⊢
    rw [hm, h7]; exact h4
section MR
variable {g : Gm} {I J : Mm} {m : Nat} {B : Int → Int} {n b : Int} {P : PT}
theorem mWt_A {w v : Int} (hw : 0 ≤ w ∧ w < 10) (h : Agr (mv J m) P) : Agr (mv (upd2 J (m + 1) (2 + w) v) m) (paW P w v) := by
  obtain ⟨h1, h2, h3, h4, h5⟩ := h
  have e : ∀ i, ¬ i = 2 + w → upd2 J (m + 1) (2 + w) v (m + 1) i = J (m + 1) i := fun i hi => upd2_i hi
  have h3' : ∀ e, 0 ≤ e → e < J (m + 1) 0 → J (m + 1) (42 + 8 * e) = pSz P e ∧ J (m + 1) (42 + 8 * e + 1) = pRe P e ∧ ∀ k, 0 ≤ k → k < J (m + 1) (42 + 8 * e) → J (m + 1) (42 + 8 * e + 2 + k) = pKy P e k ∧ J (m + 1) (42 + 8 * e + 5 + k) = pSe P e k := h3
  refine ⟨?_, ?_, fun e0 a b => ?_, fun i i0 i1 => ?_, fun a b a1 a2 b1 b2 hn => ?_⟩
  · show upd2 J (m + 1) (2 + w) v (m + 1) 1 = pR P
    rw [e 1 (by omega)]; exact h1
  · show upd2 J (m + 1) (2 + w) v (m + 1) 0 = pE P
    rw [e 0 (by omega)]; exact h2
  · have b : e0 < upd2 J (m + 1) (2 + w) v (m + 1) 0 := b
    rw [e 0 (by omega)] at b
    show upd2 J (m + 1) (2 + w) v (m + 1) (42 + 8 * e0) = pSz P e0 ∧ upd2 J (m + 1) (2 + w) v (m + 1) (42 + 8 * e0 + 1) = pRe P e0 ∧ ∀ k, 0 ≤ k → k < upd2 J (m + 1) (2 + w) v (m + 1) (42 + 8 * e0) → upd2 J (m + 1) (2 + w) v (m + 1) (42 + 8 * e0 + 2 + k) = pKy P e0 k ∧ upd2 J (m + 1) (2 + w) v (m + 1) (42 + 8 * e0 + 5 + k) = pSe P e0 k
    rw [e _ (by omega), e _ (by omega)]
    obtain ⟨c1, c2, c3⟩ := h3' e0 a b
    refine ⟨c1, c2, fun k k0 k1 => ?_⟩
    rw [e _ (by omega), e _ (by omega)]
    exact c3 k k0 k1
  · show upd2 J (m + 1) (2 + w) v (m + 1) (2 + i) = if i = w then v else pW P i
    by_cases hi : i = w
    · rw [if_pos hi, hi, upd2_at]
    · rw [if_neg hi, e _ (by omega)]; exact h4 i i0 i1
  · have hp := prS_b (a := a) (b := b) (by omega) (by omega) hn
    show upd2 J (m + 1) (2 + w) v (m + 1) (prS a b) = pLo P a b ∧ upd2 J (m + 1) (2 + w) v (m + 1) (prS a b + 1) = pHi P a b ∧ upd2 J (m + 1) (2 + w) v (m + 1) (prS a b + 2) = pLi P a b
    rw [e _ (by omega), e _ (by omega), e _ (by omega)]
    exact h5 a b a1 a2 b1 b2 hn
theorem mR_A {r : Int} (h : Agr (mv J m) P) : Agr (mv (upd2 J (m + 1) 1 r) m) (paR P r) := by
  obtain ⟨h1, h2, h3, h4, h5⟩ := h
  have e : ∀ i, ¬ i = 1 → upd2 J (m + 1) 1 r (m + 1) i = J (m + 1) i := fun i hi => upd2_i hi
  have h3' : ∀ e, 0 ≤ e → e < J (m + 1) 0 → J (m + 1) (42 + 8 * e) = pSz P e ∧ J (m + 1) (42 + 8 * e + 1) = pRe P e ∧ ∀ k, 0 ≤ k → k < J (m + 1) (42 + 8 * e) → J (m + 1) (42 + 8 * e + 2 + k) = pKy P e k ∧ J (m + 1) (42 + 8 * e + 5 + k) = pSe P e k := h3
  refine ⟨upd2_at, ?_, fun e0 a b => ?_, fun i i0 i1 => ?_, fun a b a1 a2 b1 b2 hn => ?_⟩
  · show upd2 J (m + 1) 1 r (m + 1) 0 = pE P
    rw [e 0 (by omega)]; exact h2
  · have b : e0 < upd2 J (m + 1) 1 r (m + 1) 0 := b
    rw [e 0 (by omega)] at b
    show upd2 J (m + 1) 1 r (m + 1) (42 + 8 * e0) = pSz P e0 ∧ upd2 J (m + 1) 1 r (m + 1) (42 + 8 * e0 + 1) = pRe P e0 ∧ ∀ k, 0 ≤ k → k < upd2 J (m + 1) 1 r (m + 1) (42 + 8 * e0) → upd2 J (m + 1) 1 r (m + 1) (42 + 8 * e0 + 2 + k) = pKy P e0 k ∧ upd2 J (m + 1) 1 r (m + 1) (42 + 8 * e0 + 5 + k) = pSe P e0 k
    rw [e _ (by omega), e _ (by omega)]
    obtain ⟨c1, c2, c3⟩ := h3' e0 a b
    refine ⟨c1, c2, fun k k0 k1 => ?_⟩
    rw [e _ (by omega), e _ (by omega)]
    exact c3 k k0 k1
  · show upd2 J (m + 1) 1 r (m + 1) (2 + i) = pW P i
    rw [e _ (by omega)]; exact h4 i i0 i1
  · have hp := prS_b (a := a) (b := b) (by omega) (by omega) hn
    show upd2 J (m + 1) 1 r (m + 1) (prS a b) = pLo P a b ∧ upd2 J (m + 1) 1 r (m + 1) (prS a b + 1) = pHi P a b ∧ upd2 J (m + 1) 1 r (m + 1) (prS a b + 2) = pLi P a b
    rw [e _ (by omega), e _ (by omega), e _ (by omega)]
    exact h5 a b a1 a2 b1 b2 hn
theorem prS_inj {a b c d : Int} (ha : 1 ≤ a ∧ a ≤ 5) (hb : 1 ≤ b ∧ b ≤ 5) (hc : 1 ≤ c ∧ c ≤ 5) (hd : 1 ≤ d ∧ d ≤ 5) (hab : ¬ a = b) (hcd : ¬ c = d) : (prS a b = prS c d ∧ ((a = c ∧ b = d) ∨ (a = d ∧ b = c))) ∨ ((prS a b + 3 ≤ prS c d ∨ prS c d + 3 ≤ prS a b) ∧ ¬ ((a = c ∧ b = d) ∨ (a = d ∧ b = c))) := by
  have key : ∀ a b c d : Fin 5, ¬ a = b → ¬ c = d → (prS (a.val + 1 : Int) (b.val + 1) = prS (c.val + 1 : Int) (d.val + 1) ∧ ((a = c ∧ b = d) ∨ (a = d ∧ b = c))) ∨ ((prS (a.val + 1 : Int) (b.val + 1) + 3 ≤ prS (c.val + 1 : Int) (d.val + 1) ∨ prS (c.val + 1 : Int) (d.val + 1) + 3 ≤ prS (a.val + 1 : Int) (b.val + 1)) ∧ ¬ ((a = c ∧ b = d) ∨ (a = d ∧ b = c))) := by decide +kernel
  have h := key ⟨(a - 1).toNat, by omega⟩ ⟨(b - 1).toNat, by omega⟩ ⟨(c - 1).toNat, by omega⟩ ⟨(d - 1).toNat, by omega⟩ (fun z => hab (by have := Fin.mk.inj z; omega)) (fun z => hcd (by have := Fin.mk.inj z; omega))
  simp only [Fin.mk.injEq] at h
  rw [show (((a - 1).toNat : Nat) : Int) + 1 = a by omega, show (((b - 1).toNat : Nat) : Int) + 1 = b by omega, show (((c - 1).toNat : Nat) : Int) + 1 = c by omega, show (((d - 1).toNat : Nat) : Int) + 1 = d by omega] at h
  omega
theorem mS_A {a c lo hi li : Int} (ha : 1 ≤ a ∧ a ≤ 5) (hc : 1 ≤ c ∧ c ≤ 5) (hac : ¬ a = c) (h : Agr (mv J m) P) : Agr (mv (psU J m a c lo hi li) m) (paS P a c lo hi li) := by
  obtain ⟨h1, h2, h3, h4, h5⟩ := h
  have hb := prS_b ha hc hac
  have e : ∀ i, (i < prS a c ∨ prS a c + 2 < i) → psU J m a c lo hi li (m + 1) i = J (m + 1) i := fun i hi => by rw [psU_v, if_neg (by omega), if_neg (by omega), if_neg (by omega)]
  have h3' : ∀ e, 0 ≤ e → e < J (m + 1) 0 → J (m + 1) (42 + 8 * e) = pSz P e ∧ J (m + 1) (42 + 8 * e + 1) = pRe P e ∧ ∀ k, 0 ≤ k → k < J (m + 1) (42 + 8 * e) → J (m + 1) (42 + 8 * e + 2 + k) = pKy P e k ∧ J (m + 1) (42 + 8 * e + 5 + k) = pSe P e k := h3
  refine ⟨?_, ?_, fun e0 x y => ?_, fun i i0 i1 => ?_, fun i j i0 i1 j0 j1 hn => ?_⟩
  · show psU J m a c lo hi li (m + 1) 1 = pR P
    rw [e 1 (by omega)]; exact h1
  · show psU J m a c lo hi li (m + 1) 0 = pE P
    rw [e 0 (by omega)]; exact h2
  · have y : e0 < psU J m a c lo hi li (m + 1) 0 := y
    rw [e 0 (by omega)] at y
    show psU J m a c lo hi li (m + 1) (42 + 8 * e0) = pSz P e0 ∧ psU J m a c lo hi li (m + 1) (42 + 8 * e0 + 1) = pRe P e0 ∧ ∀ k, 0 ≤ k → k < psU J m a c lo hi li (m + 1) (42 + 8 * e0) → psU J m a c lo hi li (m + 1) (42 + 8 * e0 + 2 + k) = pKy P e0 k ∧ psU J m a c lo hi li (m + 1) (42 + 8 * e0 + 5 + k) = pSe P e0 k
    rw [e _ (by omega), e _ (by omega)]
    obtain ⟨c1, c2, c3⟩ := h3' e0 x y
    refine ⟨c1, c2, fun k k0 k1 => ?_⟩
    rw [e _ (by omega), e _ (by omega)]
    exact c3 k k0 k1
  · show psU J m a c lo hi li (m + 1) (2 + i) = pW P i
    rw [e _ (by omega)]; exact h4 i i0 i1
  · obtain ⟨y1, y2, y3⟩ := h5 i j i0 i1 j0 j1 hn
    have y1 : J (m + 1) (prS i j) = pLo P i j := y1
    have y2 : J (m + 1) (prS i j + 1) = pHi P i j := y2
    have y3 : J (m + 1) (prS i j + 2) = pLi P i j := y3
    show psU J m a c lo hi li (m + 1) (prS i j) = (if (i = a ∧ j = c) ∨ (i = c ∧ j = a) then lo else pLo P i j) ∧ psU J m a c lo hi li (m + 1) (prS i j + 1) = (if (i = a ∧ j = c) ∨ (i = c ∧ j = a) then hi else pHi P i j) ∧ psU J m a c lo hi li (m + 1) (prS i j + 2) = (if (i = a ∧ j = c) ∨ (i = c ∧ j = a) then li else pLi P i j)
    rcases prS_inj (a := i) (b := j) (c := a) (d := c) ⟨i0, i1⟩ ⟨j0, j1⟩ ha hc hn hac with ⟨z1, z2⟩ | ⟨z1, z2⟩
    · rw [if_pos z2, if_pos z2, if_pos z2, z1, psU_v, psU_v, psU_v, if_neg (by omega), if_neg (by omega), if_pos rfl, if_neg (by omega), if_pos rfl, if_pos rfl]
      exact ⟨rfl, rfl, rfl⟩
    · rw [if_neg z2, if_neg z2, if_neg z2, e _ (by omega), e _ (by omega), e _ (by omega)]
      exact ⟨y1, y2, y3⟩
theorem s_mustEndP {e : Int × Int} (hm : isM g m) (hO : txB B n) (h7 : I (m + 7) = B) (h9 : I m 9 = n) (h : perM m e I J) : cl 174 [.ref m] (mk g J) = some (.inl none, mk g J) :=
  s_mustEndW (B := B) (n := n) hm hO ((h.1 (m + 7) (by omega) (by omega)).trans h7) ((h.2.1 9 (by decide) (by decide) (by decide) (by decide) (by decide) (by decide)).trans h9) h.2.2.2.2.2.2 h.2.2.2.2.2.1 h.2.2.1 h.ne
theorem l_names (hm : isM g m) (hO : txB B n) (hs : ∀ p, 3 ≤ p → p ≤ 20 → isTs g J p) (h : lxM B n m b J) (hw : J m 14 = 0) : rn 177 2 [some (.ref m), some (.int (iI 0)), none] [] (mk g J) = rn 177 7 [some (.ref m), some (.int (iI (if gNm B n b < 0 then 10 else gNm B n b))), none] [] (mk g J) := by
  have t0 := hm.1
  have key := loop_find (σ := Unit) (head := fun i _ => rn 177 2 [some (.ref m), some (.int (iI i)), none] [] (mk g J)) (p := fun w => isW B n b (11 + w.toNat)) (n := 10) (res := fun i => rn 177 7 [some (.ref m), some (.int (iI i)), none] [] (mk g J)) (re := rn 177 7 [some (.ref m), some (.int (iI 10)), none] [] (mk g J))
    (fun i _ i0 i1 hp => by
      have q := s_misWord hm hO h hw (hs (11 + i.toNat) (by omega) (by omega))
      rw [wdS_y hp] at q
      have qn := s_nameOf (g := g) (I := J) (w := i) ⟨i0, i1⟩
      show rn _ _ _ _ _ = rn _ _ _ _ _
      simp (maxSteps := 2000000) (disch := first | assumption | omega) only [aft_v, aft_n, aft_t, Nat.add_assoc, Nat.reduceAdd, if_true, if_false, not_true_eq_false, not_false_eq_true, Classical.not_not, Int.reduceAdd, Int.reduceSub, Int.reduceMul, Int.reduceNeg, Int.reduceLT, Int.reduceLE, Int.reduceEq, Int.add_zero, Int.zero_add, Int.sub_zero, w_177_2, w_177_3, w_177_4, w_177_5, qn, q, show ¬ (10 : Int) ≤ i by omega, show ¬ (1 : Int) = 0 by decide])
    (fun i _ i0 i1 hp => by
      have q := s_misWord hm hO h hw (hs (11 + i.toNat) (by omega) (by omega))
      rw [wdS_n hp] at q
      have qn := s_nameOf (g := g) (I := J) (w := i) ⟨i0, i1⟩
      refine ⟨(), ?_⟩
      show rn _ _ _ _ _ = rn _ _ _ _ _
      refine (w_177_2 (by first | assumption | omega) (by first | assumption | omega)).trans ?_
      refine (if_neg (by omega)).trans ?_
      simp (maxSteps := 2000000) (disch := first | assumption | omega) only [aft_v, aft_n, aft_t, Nat.add_assoc, Nat.reduceAdd, if_true, if_false, not_true_eq_false, not_false_eq_true, Classical.not_not, Int.reduceAdd, Int.reduceSub, Int.reduceMul, Int.reduceNeg, Int.reduceLT, Int.reduceLE, Int.reduceEq, Int.add_zero, Int.zero_add, Int.sub_zero, w_177_3, w_177_4, w_177_5, w_177_6, qn, q])
    (fun _ => by
      show rn _ _ _ _ _ = rn _ _ _ _ _
      refine (w_177_2 (by first | assumption | omega) (by first | assumption | omega)).trans ?_
      refine (if_pos (by omega)).trans ?_
      rfl)
    (by decide) ()
  have key : rn 177 2 [some (.ref m), some (.int (iI 0)), none] [] (mk g J) = _ := key
  rw [key]
  unfold gNm
  by_cases hf : fnd (fun w => isW B n b (11 + w.toNat)) 10 < 0
  · rw [if_pos hf, if_pos hf]
  · rw [if_neg hf, if_neg hf]
theorem s_readsWeight (hm : isM g m) (hO : txB B n) (h7 : I (m + 7) = B) (h9 : I m 9 = n) (hs : ∀ p, 3 ≤ p → p ≤ 20 → isTs g I p) (hx : 64 ≤ m) (h : pstM B n m P b I J) : panM B n m g I (gWt B n P b) (cl 177 [.ref m] (mk g J)) := by
  have hm' := hm
  obtain ⟨t_0, ⟨t_1, d_1, n_1⟩, ⟨t_2, d_2, n_2⟩, ⟨t_3, d_3, n_3⟩, ⟨t_4, d_4, n_4⟩, ⟨t_5, d_5, n_5⟩, ⟨t_6, n_6⟩, ⟨t_7, d_7, n_7⟩, ⟨t_8, d_8, n_8⟩, ⟨t_9, d_9, n_9⟩, ⟨t_10, d_10, n_10⟩, ⟨t_11, d_11, n_11⟩, ⟨t_12, d_12, n_12⟩, ⟨t_13, d_13, n_13⟩, ⟨t_14, d_14, n_14⟩, ⟨t_15, n_15⟩, ⟨t_16, n_16⟩, ⟨t_17, d_17, n_17⟩, ⟨t_18, d_18, n_18⟩⟩ := hm
  have o1 : ¬ (1 : Int) = 0 := by decide
  obtain ⟨K, j1, j2⟩ := s_must1 hm' hO h.2.2.2.1 h.2.2.1
  have hK := h.ok j2
  have hts : ∀ p, 3 ≤ p → p ≤ 20 → isTs g K p := fun p p0 p1 => isTs_c (hK.1 _ (by omega) (by omega)) (hs p p0 p1)
  have ln := l_names hm' hO hts hK.2.2.2.1 hK.2.2.1
  obtain ⟨b1, hb1⟩ : ∃ b1, b1 = tkE B n b := ⟨_, rfl⟩
  rw [← hb1] at hK ln
  have nb := gNm_b (B := B) (n := n) (b := b1)
  obtain ⟨k, hk⟩ : ∃ k, k = gNm B n b1 := ⟨_, rfl⟩
  rw [← hk] at ln nb
  have start : cl 177 [.ref m] (mk g J) = rn 177 7 [some (.ref m), some (.int (iI (if k < 0 then 10 else k))), none] [] (mk g K) := by
    simp (maxSteps := 2000000) (disch := first | assumption | omega) only [aft_v, aft_n, aft_t, Nat.add_assoc, Nat.reduceAdd, if_true, if_false, not_true_eq_false, not_false_eq_true, Classical.not_not, Int.reduceAdd, Int.reduceSub, Int.reduceMul, Int.reduceNeg, Int.reduceLT, Int.reduceLE, Int.reduceEq, Int.add_zero, Int.zero_add, Int.sub_zero, c_177, w_177_0, w_177_1, j1]
    exact ln
  rw [start]
  by_cases hn : k < 0
  · obtain ⟨L, l1, l2⟩ := s_must0 hm' hO hK.2.2.2.1 hK.2.2.1
    have hL := hK.er l2
    have hw := hL.2.2.1
    have hn' := hL.ne
    have q1 := s_takesW (lo := 0) (hi := 99) (fi := 0) hm' hw hn'
    have q2 := s_mustEndP hm' hO h7 h9 hL
    refine Or.inl ⟨_, L, by unfold gWt; rw [← hb1, ← hk, if_pos hn], ?_, hL⟩
    rw [if_pos hn]
    simp (maxSteps := 2000000) (disch := first | assumption | omega) only [aft_v, aft_n, aft_t, Nat.add_assoc, Nat.reduceAdd, if_true, if_false, not_true_eq_false, not_false_eq_true, Classical.not_not, Int.reduceAdd, Int.reduceSub, Int.reduceMul, Int.reduceNeg, Int.reduceLT, Int.reduceLE, Int.reduceEq, Int.add_zero, Int.zero_add, Int.sub_zero, w_177_7, w_177_9, w_177_10, w_177_11, w_177_12, w_177_13, w_177_15, l1, q1, q2, hw, hn'.1, Int.le_refl]
  rw [if_neg hn]
  obtain ⟨L, l1, l2⟩ := s_must1 hm' hO hK.2.2.2.1 hK.2.2.1
  have hL := hK.ok l2
  have eW : gWt B n P b = bnd (gNu B n 0 99 0 (tkE B n b1)) fun vb => bnd (gSe B n vb.2) fun b3 => .inr (paW P k vb.1, b3) := by unfold gWt; rw [← hb1, ← hk, if_neg hn]
  rw [eW]
  rcases s_takes (lo := 0) (hi := 99) (fi := 0) hm' hO hL.2.2.2.1 hL.2.2.1 (by decide) (by decide) (by decide) with ⟨e, M, g1, m1, m2⟩ | ⟨v, b3, M, g1, m1, m2⟩
  · have hM := hL.er m2
    have hw := hM.2.2.1
    have hn' := hM.ne
    have q2 := s_mustEndP hm' hO h7 h9 hM
    refine Or.inl ⟨e, M, by rw [g1]; rfl, ?_, hM⟩
    refine (w_177_7 (by first | assumption | omega) (by first | assumption | omega)).trans ?_
    refine (if_neg (by omega)).trans ?_
    simp (maxSteps := 2000000) (disch := first | assumption | omega) only [aft_v, aft_n, aft_t, Nat.add_assoc, Nat.reduceAdd, if_true, if_false, not_true_eq_false, not_false_eq_true, Classical.not_not, Int.reduceAdd, Int.reduceSub, Int.reduceMul, Int.reduceNeg, Int.reduceLT, Int.reduceLE, Int.reduceEq, Int.add_zero, Int.zero_add, Int.sub_zero, w_177_8, w_177_10, w_177_11, w_177_12, w_177_13, w_177_15, l1, m1, q2, hw, hn'.1]
  have hM := hL.ok m2
  rw [g1]
  rcases s_mustEnd hm' hO hM.2.2.2.1 hM.2.2.1 with ⟨e, N, g2, n1, n2⟩ | ⟨b4, N, g2, n1, n2⟩
  · have hN := hM.er n2
    have hw := hN.2.2.1
    have hn' := hN.ne
    refine Or.inl ⟨e, N, by show bnd (gSe B n b3) _ = _; rw [g2]; rfl, ?_, hN⟩
    refine (w_177_7 (by first | assumption | omega) (by first | assumption | omega)).trans ?_
    refine (if_neg (by omega)).trans ?_
    simp (maxSteps := 2000000) (disch := first | assumption | omega) only [aft_v, aft_n, aft_t, Nat.add_assoc, Nat.reduceAdd, if_true, if_false, not_true_eq_false, not_false_eq_true, Classical.not_not, Int.reduceAdd, Int.reduceSub, Int.reduceMul, Int.reduceNeg, Int.reduceLT, Int.reduceLE, Int.reduceEq, Int.add_zero, Int.zero_add, Int.sub_zero, w_177_8, w_177_10, w_177_11, w_177_12, w_177_13, w_177_15, l1, m1, n1, hw, hn'.1]
  have hN := hM.ok n2
  have hw := hN.2.2.1
  refine Or.inr ⟨paW P k v, b4, upd2 N (m + 1) (2 + k) v, by show bnd (gSe B n b3) _ = _; rw [g2]; rfl, ?_, hN.w (fun p hp => by funext i; exact upd2_p hp) (mWt_A (by omega) hN.2.2.2.2)⟩
  refine (w_177_7 (by first | assumption | omega) (by first | assumption | omega)).trans ?_
  refine (if_neg (by omega)).trans ?_
  simp (maxSteps := 2000000) (disch := first | assumption | omega) only [aft_v, aft_n, aft_t, Nat.add_assoc, Nat.reduceAdd, if_true, if_false, not_true_eq_false, not_false_eq_true, Classical.not_not, Int.reduceAdd, Int.reduceSub, Int.reduceMul, Int.reduceNeg, Int.reduceLT, Int.reduceLE, Int.reduceEq, Int.add_zero, Int.zero_add, Int.sub_zero, w_177_8, w_177_10, w_177_11, w_177_12, w_177_13, l1, m1, n1, hw]
  simp (maxSteps := 2000000) (disch := first | assumption | omega) only [aft_v, aft_n, aft_t, Nat.add_assoc, Nat.reduceAdd, if_true, if_false, not_true_eq_false, not_false_eq_true, Classical.not_not, Int.reduceAdd, Int.reduceSub, Int.reduceMul, Int.reduceNeg, Int.reduceLT, Int.reduceLE, Int.reduceEq, Int.add_zero, Int.zero_add, Int.sub_zero, w_177_14, w_177_15]
theorem s_readsSpan (hm : isM g m) (hO : txB B n) (h7 : I (m + 7) = B) (h9 : I m 9 = n) (h : pstM B n m P b I J) : panM B n m g I (gSp B n P b) (cl 178 [.ref m] (mk g J)) := by
  have hm' := hm
  obtain ⟨t_0, ⟨t_1, d_1, n_1⟩, ⟨t_2, d_2, n_2⟩, ⟨t_3, d_3, n_3⟩, ⟨t_4, d_4, n_4⟩, ⟨t_5, d_5, n_5⟩, ⟨t_6, n_6⟩, ⟨t_7, d_7, n_7⟩, ⟨t_8, d_8, n_8⟩, ⟨t_9, d_9, n_9⟩, ⟨t_10, d_10, n_10⟩, ⟨t_11, d_11, n_11⟩, ⟨t_12, d_12, n_12⟩, ⟨t_13, d_13, n_13⟩, ⟨t_14, d_14, n_14⟩, ⟨t_15, n_15⟩, ⟨t_16, n_16⟩, ⟨t_17, d_17, n_17⟩, ⟨t_18, d_18, n_18⟩⟩ := hm
  have o1 : ¬ (1 : Int) = 0 := by decide
  obtain ⟨K, j1, j2⟩ := s_must1 hm' hO h.2.2.2.1 h.2.2.1
  have hK := h.ok j2
  have eg : gSp B n P b = bnd (gNu B n 1 5 1 (tkE B n b)) fun x1 => bnd (gNu B n 1 5 (x1.1 + 1) x1.2) fun x2 => bnd (gNu B n 1 24 1 x2.2) fun x3 => bnd (gNu B n 1 24 x3.1 x3.2) fun x4 => bnd (gNu B n 1 24 x4.1 x4.2) fun x5 => bnd (gSe B n x5.2) fun b6 => .inr (paS P x1.1 x2.1 x3.1 x4.1 x5.1, b6) := rfl
  rcases s_takes (lo := 1) (hi := 5) (fi := 1) hm' hO hK.2.2.2.1 hK.2.2.1 (by decide) (by decide) (by decide) with ⟨e, L, g1, l1, l2⟩ | ⟨v1, b1, L1, g1, l1, l2⟩
  · have hL := hK.er l2
    have hw := hL.2.2.1
    have hn' := hL.ne
    have q0 := fun lo hi fi => s_takesW (lo := lo) (hi := hi) (fi := fi) hm' hw hn'
    have q2 := s_mustEndP hm' hO h7 h9 hL
    refine Or.inl ⟨e, L, by rw [eg, g1]; rfl, ?_, hL⟩
    simp (maxSteps := 2000000) (disch := first | assumption | omega) only [aft_v, aft_n, aft_t, Nat.add_assoc, Nat.reduceAdd, if_true, if_false, not_true_eq_false, not_false_eq_true, Classical.not_not, Int.reduceAdd, Int.reduceSub, Int.reduceMul, Int.reduceNeg, Int.reduceLT, Int.reduceLE, Int.reduceEq, Int.add_zero, Int.zero_add, Int.sub_zero, c_178, w_178_0, w_178_1, w_178_2, w_178_3, w_178_4, w_178_5, w_178_6, w_178_7, w_178_9, j1, l1, q0, q2, hw, hn'.1]
  have h1 := hK.ok l2
  have k1 := gNu_ok g1
  have k1a : 1 ≤ v1 := k1.1
  have k1b : v1 ≤ 5 := k1.2.1
  have eg : gSp B n P b = bnd (gNu B n 1 5 (v1 + 1) b1) fun x2 => bnd (gNu B n 1 24 1 x2.2) fun x3 => bnd (gNu B n 1 24 x3.1 x3.2) fun x4 => bnd (gNu B n 1 24 x4.1 x4.2) fun x5 => bnd (gSe B n x5.2) fun b6 => .inr (paS P v1 x2.1 x3.1 x4.1 x5.1, b6) := by rw [eg, g1]; rfl
  rcases s_takes (lo := 1) (hi := 5) (fi := v1 + 1) hm' hO h1.2.2.2.1 h1.2.2.1 (by decide) (by decide) (by omega) with ⟨e, L, g2, r1, r2⟩ | ⟨v2, b2, L2, g2, r1, r2⟩
  · have hL := h1.er r2
    have hw := hL.2.2.1
    have hn' := hL.ne
    have q0 := fun lo hi fi => s_takesW (lo := lo) (hi := hi) (fi := fi) hm' hw hn'
    have q2 := s_mustEndP hm' hO h7 h9 hL
    refine Or.inl ⟨e, L, by rw [eg, g2]; rfl, ?_, hL⟩
    simp (maxSteps := 2000000) (disch := first | assumption | omega) only [aft_v, aft_n, aft_t, Nat.add_assoc, Nat.reduceAdd, if_true, if_false, not_true_eq_false, not_false_eq_true, Classical.not_not, Int.reduceAdd, Int.reduceSub, Int.reduceMul, Int.reduceNeg, Int.reduceLT, Int.reduceLE, Int.reduceEq, Int.add_zero, Int.zero_add, Int.sub_zero, c_178, w_178_0, w_178_1, w_178_2, w_178_3, w_178_4, w_178_5, w_178_6, w_178_7, w_178_9, j1, l1, r1, q0, q2, hw, hn'.1]
  have h2 := h1.ok r2
  have k2 := gNu_ok g2
  have k2b : v2 ≤ 5 := k2.2.1
  have k2c : v1 + 1 ≤ v2 := k2.2.2
  rw [g2] at eg
  have eg : gSp B n P b = bnd (gNu B n 1 24 1 b2) fun x3 => bnd (gNu B n 1 24 x3.1 x3.2) fun x4 => bnd (gNu B n 1 24 x4.1 x4.2) fun x5 => bnd (gSe B n x5.2) fun b6 => .inr (paS P v1 v2 x3.1 x4.1 x5.1, b6) := eg
  rcases s_takes (lo := 1) (hi := 24) (fi := 1) hm' hO h2.2.2.2.1 h2.2.2.1 (by decide) (by decide) (by decide) with ⟨e, L, g3, s1, s2⟩ | ⟨v3, b3, L3, g3, s1, s2⟩
  · have hL := h2.er s2
    have hw := hL.2.2.1
    have hn' := hL.ne
    have q0 := fun lo hi fi => s_takesW (lo := lo) (hi := hi) (fi := fi) hm' hw hn'
    have q2 := s_mustEndP hm' hO h7 h9 hL
    refine Or.inl ⟨e, L, by rw [eg, g3]; rfl, ?_, hL⟩
    simp (maxSteps := 2000000) (disch := first | assumption | omega) only [aft_v, aft_n, aft_t, Nat.add_assoc, Nat.reduceAdd, if_true, if_false, not_true_eq_false, not_false_eq_true, Classical.not_not, Int.reduceAdd, Int.reduceSub, Int.reduceMul, Int.reduceNeg, Int.reduceLT, Int.reduceLE, Int.reduceEq, Int.add_zero, Int.zero_add, Int.sub_zero, c_178, w_178_0, w_178_1, w_178_2, w_178_3, w_178_4, w_178_5, w_178_6, w_178_7, w_178_9, j1, l1, r1, s1, q0, q2, hw, hn'.1]
  have h3 := h2.ok s2
  have k3 := gNu_ok g3
  have k3a : 1 ≤ v3 := k3.1
  have k3b : v3 ≤ 24 := k3.2.1
  rw [g3] at eg
  have eg : gSp B n P b = bnd (gNu B n 1 24 v3 b3) fun x4 => bnd (gNu B n 1 24 x4.1 x4.2) fun x5 => bnd (gSe B n x5.2) fun b6 => .inr (paS P v1 v2 v3 x4.1 x5.1, b6) := eg
  rcases s_takes (lo := 1) (hi := 24) (fi := v3) hm' hO h3.2.2.2.1 h3.2.2.1 (by decide) (by decide) (by omega) with ⟨e, L, g4, u1, u2⟩ | ⟨v4, b4, L4, g4, u1, u2⟩
  · have hL := h3.er u2
    have hw := hL.2.2.1
    have hn' := hL.ne
    have q0 := fun lo hi fi => s_takesW (lo := lo) (hi := hi) (fi := fi) hm' hw hn'
    have q2 := s_mustEndP hm' hO h7 h9 hL
    refine Or.inl ⟨e, L, by rw [eg, g4]; rfl, ?_, hL⟩
    simp (maxSteps := 2000000) (disch := first | assumption | omega) only [aft_v, aft_n, aft_t, Nat.add_assoc, Nat.reduceAdd, if_true, if_false, not_true_eq_false, not_false_eq_true, Classical.not_not, Int.reduceAdd, Int.reduceSub, Int.reduceMul, Int.reduceNeg, Int.reduceLT, Int.reduceLE, Int.reduceEq, Int.add_zero, Int.zero_add, Int.sub_zero, c_178, w_178_0, w_178_1, w_178_2, w_178_3, w_178_4, w_178_5, w_178_6, w_178_7, w_178_9, j1, l1, r1, s1, u1, q0, q2, hw, hn'.1]
  have h4 := h3.ok u2
  have k4 := gNu_ok g4
  have k4a : 1 ≤ v4 := k4.1
  have k4b : v4 ≤ 24 := k4.2.1
  rw [g4] at eg
  have eg : gSp B n P b = bnd (gNu B n 1 24 v4 b4) fun x5 => bnd (gSe B n x5.2) fun b6 => .inr (paS P v1 v2 v3 v4 x5.1, b6) := eg
  rcases s_takes (lo := 1) (hi := 24) (fi := v4) hm' hO h4.2.2.2.1 h4.2.2.1 (by decide) (by decide) (by omega) with ⟨e, L, g5, w1, w2⟩ | ⟨v5, b5, L5, g5, w1, w2⟩
  · have hL := h4.er w2
    have hw := hL.2.2.1
    have hn' := hL.ne
    have q2 := s_mustEndP hm' hO h7 h9 hL
    refine Or.inl ⟨e, L, by rw [eg, g5]; rfl, ?_, hL⟩
    simp (maxSteps := 2000000) (disch := first | assumption | omega) only [aft_v, aft_n, aft_t, Nat.add_assoc, Nat.reduceAdd, if_true, if_false, not_true_eq_false, not_false_eq_true, Classical.not_not, Int.reduceAdd, Int.reduceSub, Int.reduceMul, Int.reduceNeg, Int.reduceLT, Int.reduceLE, Int.reduceEq, Int.add_zero, Int.zero_add, Int.sub_zero, c_178, w_178_0, w_178_1, w_178_2, w_178_3, w_178_4, w_178_5, w_178_6, w_178_7, w_178_9, j1, l1, r1, s1, u1, w1, q2, hw, hn'.1]
  have h5 := h4.ok w2
  rw [g5] at eg
  have eg : gSp B n P b = bnd (gSe B n b5) fun b6 => .inr (paS P v1 v2 v3 v4 v5, b6) := eg
  rcases s_mustEnd hm' hO h5.2.2.2.1 h5.2.2.1 with ⟨e, N, g6, n1, n2⟩ | ⟨b6, N, g6, n1, n2⟩
  · have hN := h5.er n2
    have hw := hN.2.2.1
    have hn' := hN.ne
    refine Or.inl ⟨e, N, by rw [eg, g6]; rfl, ?_, hN⟩
    simp (maxSteps := 2000000) (disch := first | assumption | omega) only [aft_v, aft_n, aft_t, Nat.add_assoc, Nat.reduceAdd, if_true, if_false, not_true_eq_false, not_false_eq_true, Classical.not_not, Int.reduceAdd, Int.reduceSub, Int.reduceMul, Int.reduceNeg, Int.reduceLT, Int.reduceLE, Int.reduceEq, Int.add_zero, Int.zero_add, Int.sub_zero, c_178, w_178_0, w_178_1, w_178_2, w_178_3, w_178_4, w_178_5, w_178_6, w_178_7, w_178_9, j1, l1, r1, s1, u1, w1, n1, hw, hn'.1]
  have hN := h5.ok n2
  have hw := hN.2.2.1
  have ps := s_putsSpan (g := g) (I := N) (m := m) (a := v1) (b := v2) (lo := v3) (hi := v4) (li := v5) hm' (by omega) (by omega) (by omega)
  refine Or.inr ⟨paS P v1 v2 v3 v4 v5, b6, psU N m v1 v2 v3 v4 v5, by rw [eg, g6]; rfl, ?_, hN.w (fun p hp => psU_p hp) (mS_A (by omega) (by omega) (by omega) hN.2.2.2.2)⟩
  simp (maxSteps := 2000000) (disch := first | assumption | omega) only [aft_v, aft_n, aft_t, Nat.add_assoc, Nat.reduceAdd, if_true, if_false, not_true_eq_false, not_false_eq_true, Classical.not_not, Int.reduceAdd, Int.reduceSub, Int.reduceMul, Int.reduceNeg, Int.reduceLT, Int.reduceLE, Int.reduceEq, Int.add_zero, Int.zero_add, Int.sub_zero, c_178, w_178_0, w_178_1, w_178_2, w_178_3, w_178_4, w_178_5, w_178_6, w_178_7, w_178_8, w_178_9, j1, l1, r1, s1, u1, w1, n1, hw, ps]
end MR
