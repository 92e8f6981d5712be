/-! The reference reads events. -/
def evM (m : Nat) (P : PT) (r : Int) (ky se : Int → Int) (k : Int) (J : Mm) : Prop := J (m + 1) (42 + 8 * pE P + 1) = r ∧ ∀ i, 0 ≤ i → i < k → J (m + 1) (42 + 8 * pE P + 2 + i) = ky i ∧ J (m + 1) (42 + 8 * pE P + 5 + i) = se i
section MV
variable {g : Gm} {I J : Mm} {m : Nat} {B : Int → Int} {n b : Int} {P : PT}
theorem mv_hi {i v : Int} (hW : Wf P) (hi : 42 + 8 * pE P ≤ i) (h : Agr (mv J m) P) : Agr (mv (upd2 J (m + 1) i v) m) P := by
  obtain ⟨h1, h2, h3, h4, h5⟩ := h
  have he := hW.2.1
  have e : ∀ j, ¬ j = i → upd2 J (m + 1) i v (m + 1) j = J (m + 1) j := fun j hj => upd2_i hj
  have h2' : J (m + 1) 0 = pE P := h2
  have h3' : ∀ e, 0 ≤ e → e < J (m + 1) 0 → J (m + 1) (42 + 8 * e) = pSz P e ∧ J (m + 1) (42 + 8 * e + 1) = pRe P e ∧ ∀ k, 0 ≤ k → k < J (m + 1) (42 + 8 * e) → J (m + 1) (42 + 8 * e + 2 + k) = pKy P e k ∧ J (m + 1) (42 + 8 * e + 5 + k) = pSe P e k := h3
  refine ⟨?_, ?_, fun e0 a c => ?_, fun w i0 i1 => ?_, fun a c a1 a2 b1 b2 hn => ?_⟩
  · show upd2 J (m + 1) i v (m + 1) 1 = pR P
    rw [e 1 (by omega)]; exact h1
  · show upd2 J (m + 1) i v (m + 1) 0 = pE P
    rw [e 0 (by omega)]; exact h2
  · have c : e0 < upd2 J (m + 1) i v (m + 1) 0 := c
    rw [e 0 (by omega)] at c
    obtain ⟨c1, c2, c3⟩ := h3' e0 a c
    have hs := (hW.2.2.1 e0 a (by omega)).1
    show upd2 J (m + 1) i v (m + 1) (42 + 8 * e0) = pSz P e0 ∧ upd2 J (m + 1) i v (m + 1) (42 + 8 * e0 + 1) = pRe P e0 ∧ ∀ k, 0 ≤ k → k < upd2 J (m + 1) i v (m + 1) (42 + 8 * e0) → upd2 J (m + 1) i v (m + 1) (42 + 8 * e0 + 2 + k) = pKy P e0 k ∧ upd2 J (m + 1) i v (m + 1) (42 + 8 * e0 + 5 + k) = pSe P e0 k
    rw [e _ (by omega), e _ (by omega)]
    refine ⟨c1, c2, fun k k0 k1 => ?_⟩
    rw [e _ (by omega), e _ (by omega)]
    exact c3 k k0 k1
  · show upd2 J (m + 1) i v (m + 1) (2 + w) = pW P w
    rw [e _ (by omega)]; exact h4 w i0 i1
  · have hp := prS_b (a := a) (b := c) (by omega) (by omega) hn
    show upd2 J (m + 1) i v (m + 1) (prS a c) = pLo P a c ∧ upd2 J (m + 1) i v (m + 1) (prS a c + 1) = pHi P a c ∧ upd2 J (m + 1) i v (m + 1) (prS a c + 2) = pLi P a c
    rw [e _ (by omega), e _ (by omega), e _ (by omega)]
    exact h5 a c a1 a2 b1 b2 hn
theorem pstM_hi {i v : Int} (hW : Wf P) (hi : 42 + 8 * pE P ≤ i) (h : pstM B n m P b I J) : pstM B n m P b I (upd2 J (m + 1) i v) :=
  h.w (fun p hp => by funext j; exact upd2_p hp) (mv_hi hW hi h.2.2.2.2)
theorem mv_ev {k r : Int} {ky se : Int → Int} (hW : Wf P) (hk : k ≤ 3) (h : Agr (mv J m) P) (hE : evM m P r ky se k J) (hn : J (m + 1) (42 + 8 * pE P) = k) : Agr (mv (upd2 J (m + 1) 0 (pE P + 1)) m) (paV P k r ky se) := by
  obtain ⟨h1, h2, h3, h4, h5⟩ := h
  obtain ⟨r1, r2⟩ := hE
  have he := hW.2.1
  have e : ∀ j, ¬ j = 0 → upd2 J (m + 1) 0 (pE P + 1) (m + 1) j = J (m + 1) j := fun j hj => upd2_i hj
  have h2' : J (m + 1) 0 = pE P := h2
  have h3' : ∀ e, 0 ≤ e → e < J (m + 1) 0 → J (m + 1) (42 + 8 * e) = pSz P e ∧ J (m + 1) (42 + 8 * e + 1) = pRe P e ∧ ∀ k, 0 ≤ k → k < J (m + 1) (42 + 8 * e) → J (m + 1) (42 + 8 * e + 2 + k) = pKy P e k ∧ J (m + 1) (42 + 8 * e + 5 + k) = pSe P e k := h3
  refine ⟨?_, upd2_at, fun e0 a c => ?_, fun w i0 i1 => ?_, fun a c a1 a2 b1 b2 hn => ?_⟩
  · show upd2 J (m + 1) 0 (pE P + 1) (m + 1) 1 = pR P
    rw [e 1 (by omega)]; exact h1
  · have c : e0 < upd2 J (m + 1) 0 (pE P + 1) (m + 1) 0 := c
    rw [upd2_at] at c
    show upd2 J (m + 1) 0 (pE P + 1) (m + 1) (42 + 8 * e0) = (if e0 = pE P then k else pSz P e0) ∧ upd2 J (m + 1) 0 (pE P + 1) (m + 1) (42 + 8 * e0 + 1) = (if e0 = pE P then r else pRe P e0) ∧ ∀ j, 0 ≤ j → j < upd2 J (m + 1) 0 (pE P + 1) (m + 1) (42 + 8 * e0) → upd2 J (m + 1) 0 (pE P + 1) (m + 1) (42 + 8 * e0 + 2 + j) = (if e0 = pE P then ky j else pKy P e0 j) ∧ upd2 J (m + 1) 0 (pE P + 1) (m + 1) (42 + 8 * e0 + 5 + j) = (if e0 = pE P then se j else pSe P e0 j)
    rw [e _ (by omega), e _ (by omega)]
    by_cases hh : e0 = pE P
    · rw [if_pos hh, if_pos hh, hh, hn]
      refine ⟨rfl, r1, fun j j0 j1 => ?_⟩
      rw [if_pos rfl, if_pos rfl, e _ (by omega), e _ (by omega)]
      exact r2 j j0 j1
    · obtain ⟨c1, c2, c3⟩ := h3' e0 a (by omega)
      rw [if_neg hh, if_neg hh]
      refine ⟨c1, c2, fun j j0 j1 => ?_⟩
      rw [if_neg hh, if_neg hh, e _ (by omega), e _ (by omega)]
      exact c3 j j0 j1
  · show upd2 J (m + 1) 0 (pE P + 1) (m + 1) (2 + w) = pW P w
    rw [e _ (by omega)]; exact h4 w i0 i1
  · have hp := prS_b (a := a) (b := c) (by omega) (by omega) hn
    show upd2 J (m + 1) 0 (pE P + 1) (m + 1) (prS a c) = pLo P a c ∧ upd2 J (m + 1) 0 (pE P + 1) (m + 1) (prS a c + 1) = pHi P a c ∧ upd2 J (m + 1) 0 (pE P + 1) (m + 1) (prS a c + 2) = pLi P a c
    rw [e _ (by omega), e _ (by omega), e _ (by omega)]
    exact h5 a c a1 a2 b1 b2 hn
theorem evM.ok {c r k : Int} {ky se : Int → Int} {K : Mm} (h : evM m P r ky se k J) (h' : okM B n m c J K) : evM m P r ky se k K := by
  unfold evM at h ⊢
  rw [h'.1.1 (m + 1) (by omega)]; exact h
theorem l_mKeys (hm : isM g m) (hO : txB B n) (h7 : I (m + 7) = B) (h9 : I m 9 = n) (hW : Wf P) (he : pE P < 40) : ∀ (f : Nat) (k pr : Int) (ky : Int → Int) (b : Int) (J : Mm) (o3 o4 : Option Value), 0 ≤ k → k + f = 3 → 20 ≤ pr → pr ≤ 108 → (k = 0 → pr = 20) → (1 ≤ k → ky (k - 1) = pr) → pstM B n m P b I J → evM m P 0 ky (fun _ => 31) k J →
    (∃ e K, gKl B n f k pr ky b = .inl e ∧ rn 179 8 [some (.ref m), some (.int (iI (42 + 8 * pE P))), some (.int (iI k)), o3, o4] [] (mk g J) = some (.inl none, mk g K) ∧ perM m e I K) ∨
    ∃ x v K, gKl B n f k pr ky b = .inr x ∧ rn 179 8 [some (.ref m), some (.int (iI (42 + 8 * pE P))), some (.int (iI k)), o3, o4] [] (mk g J) = rn 179 17 [some (.ref m), some (.int (iI (42 + 8 * pE P))), some (.int (iI x.1)), some (.int (iI v)), o4] [] (mk g K) ∧ pstM B n m P x.2.2 I K ∧ evM m P 0 x.2.1 (fun _ => 31) x.1 K := by
  have hm' := hm
  have he0 := hW.2.1.1
  obtain ⟨t_0, ⟨t_1, d_1, n_1⟩, ⟨t_2, d_2, n_2⟩, ⟨t_3, d_3, n_3⟩, ⟨t_4, d_4, n_4⟩, ⟨t_5, d_5, n_5⟩, ⟨t_6, n_6⟩, ⟨t_7, d_7, n_7⟩, ⟨t_8, d_8, n_8⟩, ⟨t_9, d_9, n_9⟩, ⟨t_10, d_10, n_10⟩, ⟨t_11, d_11, n_11⟩, ⟨t_12, d_12, n_12⟩, ⟨t_13, d_13, n_13⟩, ⟨t_14, d_14, n_14⟩, ⟨t_15, n_15⟩, ⟨t_16, n_16⟩, ⟨t_17, d_17, n_17⟩, ⟨t_18, d_18, n_18⟩⟩ := hm
  intro f
  induction f with
  | zero =>
    intro k pr ky b J o3 o4 k0 km p0 p1 p2 p3 h hE
    have k3 : k = 3 := by omega
    obtain ⟨K, j1, j2⟩ := s_fails (B := B) (n := n) (b := b) (c := -5) hm' hO (by decide) h.2.2.1 h.2.2.2.1
    have hK := h.er j2
    have hw := hK.2.2.1
    have hn' := hK.ne
    have q0 := fun lo hi fi => s_takesW (lo := lo) (hi := hi) (fi := fi) hm' hw hn'
    refine Or.inl ⟨_, K, rfl, ?_, hK⟩
    rw [k3]
    simp (maxSteps := 2000000) (disch := first | assumption | omega) only [aft_v, aft_n, aft_t, Nat.add_assoc, Nat.reduceAdd, if_true, if_false, not_true_eq_false, not_false_eq_true, Classical.not_not, Int.reduceAdd, Int.reduceSub, Int.reduceMul, Int.reduceNeg, Int.reduceLT, Int.reduceLE, Int.reduceEq, Int.add_zero, Int.zero_add, Int.sub_zero, w_179_8, w_179_9, w_179_10, j1, show ¬ (3 : Int) = 0 by decide]
    refine (w_179_12 (by first | assumption | omega) (by first | assumption | omega) (by first | assumption | omega) (by first | assumption | omega) (by first | assumption | omega)).trans ?_
    simp (maxSteps := 2000000) (disch := first | assumption | omega) only [aft_v, aft_n, aft_t, Nat.add_assoc, Nat.reduceAdd, if_true, if_false, not_true_eq_false, not_false_eq_true, Classical.not_not, Int.reduceAdd, Int.reduceSub, Int.reduceMul, Int.reduceNeg, Int.reduceLT, Int.reduceLE, Int.reduceEq, Int.add_zero, Int.zero_add, Int.sub_zero, w_179_13, w_179_14, w_179_15, q0, hw, hn'.1]
  | succ f ih =>
    intro k pr ky b J o3 o4 k0 km p0 p1 p2 p3 h hE
    have start : rn 179 8 [some (.ref m), some (.int (iI (42 + 8 * pE P))), some (.int (iI k)), o3, o4] [] (mk g J) = aft rn 179 14 [some (.ref m), some (.int (iI (42 + 8 * pE P))), some (.int (iI k)), o3, o4] [] (some []) (cl 175 [.ref m, .int (iI 21), .int (iI 108), .int (iI (pr + 1))] (mk g J)) := by
      by_cases hk : k = 0
      · rw [hk, p2 hk]
        simp (maxSteps := 2000000) (disch := first | assumption | omega) only [aft_v, aft_n, aft_t, Nat.add_assoc, Nat.reduceAdd, if_true, if_false, not_true_eq_false, not_false_eq_true, Classical.not_not, Int.reduceAdd, Int.reduceSub, Int.reduceMul, Int.reduceNeg, Int.reduceLT, Int.reduceLE, Int.reduceEq, Int.add_zero, Int.zero_add, Int.sub_zero, w_179_8, w_179_10, w_179_11, show ¬ (0 : Int) = 3 by decide]
        exact w_179_13 (by first | assumption | omega)
      · have e : J (m + 1) (42 + 8 * pE P + 1 + k) = pr := by
          have := (hE.2 (k - 1) (by omega) (by omega)).1
          rw [show 42 + 8 * pE P + 2 + (k - 1) = 42 + 8 * pE P + 1 + k by omega] at this
          rw [this]; exact p3 (by omega)
        simp (maxSteps := 2000000) (disch := first | assumption | omega) only [aft_v, aft_n, aft_t, Nat.add_assoc, Nat.reduceAdd, if_true, if_false, not_true_eq_false, not_false_eq_true, Classical.not_not, Int.reduceAdd, Int.reduceSub, Int.reduceMul, Int.reduceNeg, Int.reduceLT, Int.reduceLE, Int.reduceEq, Int.add_zero, Int.zero_add, Int.sub_zero, w_179_8, w_179_10, hk, show ¬ k = 3 by omega]
        refine (w_179_12 (by first | assumption | omega) (by first | assumption | omega) (by first | assumption | omega) (by first | assumption | omega) (by first | assumption | omega)).trans ?_
        rw [e]
        exact w_179_13 (by first | assumption | omega)
    rw [start]
    rcases s_takes (lo := 21) (hi := 108) (fi := pr + 1) hm' hO h.2.2.2.1 h.2.2.1 (by decide) (by decide) (by omega) with ⟨e, K, g1, j1, j2⟩ | ⟨v, b1, K, g1, j1, j2⟩
    · have hK := h.er j2
      have hw := hK.2.2.1
      have hn' := hK.ne
      refine Or.inl ⟨e, K, by simp only [gKl]; rw [g1]; rfl, ?_, hK⟩
      rw [j1]
      simp (maxSteps := 2000000) (disch := first | assumption | omega) only [aft_v, aft_n, aft_t, Nat.add_assoc, Nat.reduceAdd, if_true, if_false, not_true_eq_false, not_false_eq_true, Classical.not_not, Int.reduceAdd, Int.reduceSub, Int.reduceMul, Int.reduceNeg, Int.reduceLT, Int.reduceLE, Int.reduceEq, Int.add_zero, Int.zero_add, Int.sub_zero, w_179_14, w_179_15, hw, hn'.1]
    have hK := h.ok j2
    have kE := hE.ok j2
    have kv := gNu_ok g1
    have kv1 : 21 ≤ v := kv.1
    have kv2 : v ≤ 108 := kv.2.1
    have hw := hK.2.2.1
    obtain ⟨L, hL⟩ : ∃ L, L = upd2 (upd2 K (m + 1) (42 + 8 * pE P + 2 + k) v) (m + 1) (42 + 8 * pE P + 5 + k) 31 := ⟨_, rfl⟩
    have h12 : L m 12 = mkd (tkK B n b1) := by rw [hL, upd2_p (by omega), upd2_p (by omega)]; exact hK.2.2.2.1.2.2.1
    have hkb := mkd_b (k := tkK B n b1)
    have hLs : pstM B n m P b1 I L := by rw [hL]; exact pstM_hi hW (by omega) (pstM_hi hW (by omega) hK)
    have hLe : evM m P 0 (fun i => if i = k then v else ky i) (fun _ => 31) (k + 1) L := by
      refine ⟨by rw [hL, upd2_i (by omega), upd2_i (by omega)]; exact kE.1, fun i i0 i1 => ?_⟩
      show L (m + 1) (42 + 8 * pE P + 2 + i) = (if i = k then v else ky i) ∧ L (m + 1) (42 + 8 * pE P + 5 + i) = 31
      by_cases hi : i = k
      · rw [if_pos hi, hi, hL, upd2_at, upd2_i (by omega), upd2_at]
        exact ⟨rfl, rfl⟩
      · obtain ⟨z1, z2⟩ := kE.2 i i0 (by omega)
        rw [if_neg hi, hL, upd2_i (by omega), upd2_i (by omega), upd2_i (by omega), upd2_i (by omega)]
        exact ⟨z1, z2⟩
    have eg : gKl B n (f + 1) k pr ky b = if tkK B n b1 = 2 then gKl B n f (k + 1) v (fun i => if i = k then v else ky i) b1 else .inr (k + 1, (fun i => if i = k then v else ky i), b1) := by simp only [gKl]; rw [g1]; rfl
    have mid : aft rn 179 14 [some (.ref m), some (.int (iI (42 + 8 * pE P))), some (.int (iI k)), o3, o4] [] (some []) (cl 175 [.ref m, .int (iI 21), .int (iI 108), .int (iI (pr + 1))] (mk g J)) = if mkd (tkK B n b1) = 1 then rn 179 8 [some (.ref m), some (.int (iI (42 + 8 * pE P))), some (.int (iI (k + 1))), some (.int (iI v)), o4] [] (mk g L) else rn 179 17 [some (.ref m), some (.int (iI (42 + 8 * pE P))), some (.int (iI (k + 1))), some (.int (iI v)), o4] [] (mk g L) := by
      rw [j1]
      simp (maxSteps := 2000000) (disch := first | assumption | omega) only [aft_v, aft_n, aft_t, Nat.add_assoc, Nat.reduceAdd, if_true, if_false, not_true_eq_false, not_false_eq_true, Classical.not_not, Int.reduceAdd, Int.reduceSub, Int.reduceMul, Int.reduceNeg, Int.reduceLT, Int.reduceLE, Int.reduceEq, Int.add_zero, Int.zero_add, Int.sub_zero, w_179_14, hw]
      rw [← h12]
      have hh : upd2 (upd2 K (m + 1) (42 + 8 * pE P + 2 + k) v) (m + 1) (42 + 8 * pE P + 5 + k) 31 m 12 = L m 12 := by rw [hL]
      have hb1 : -2147483648 ≤ upd2 (upd2 K (m + 1) (42 + 8 * pE P + 2 + k) v) (m + 1) (42 + 8 * pE P + 5 + k) 31 m 12 := by omega
      have hb2 : upd2 (upd2 K (m + 1) (42 + 8 * pE P + 2 + k) v) (m + 1) (42 + 8 * pE P + 5 + k) 31 m 12 < 2147483648 := by omega
      refine (w_179_16 (by first | assumption | omega) (by first | assumption | omega) (by first | assumption | omega) (by first | assumption | omega) (by first | assumption | omega) (by first | assumption | omega) (by first | assumption | omega) (by first | assumption | omega) (by first | assumption | omega) (by first | assumption | omega)).trans ?_
      rw [← hL]
    rw [mid, eg]
    by_cases hk : tkK B n b1 = 2
    · rw [if_pos hk, if_pos (mkd_1.mpr hk)]
      exact ih (k + 1) v _ b1 L (some (.int (iI v))) o4 (by omega) (by omega) (by omega) (by omega) (fun z => by omega) (fun _ => if_pos (by omega)) hLs hLe
    · rw [if_neg hk, if_neg (fun z => hk (mkd_1.mp z))]
      exact Or.inr ⟨_, v, L, rfl, rfl, hLs, hLe⟩
theorem l_mFingersW {e : Int × Int} {N : Int} (hm : isM g m) (he : 0 ≤ pE P ∧ pE P < 40) (hN : 0 ≤ N ∧ N ≤ 3) : ∀ (f : Nat) (k : Int) (J : Mm) (o4 : Option Value), 0 ≤ k → k + f = N → perM m e I J →
    ∃ K o, rn 179 26 [some (.ref m), some (.int (iI (42 + 8 * pE P))), some (.int (iI N)), some (.int (iI k)), o4] [] (mk g J) = rn 179 35 [some (.ref m), some (.int (iI (42 + 8 * pE P))), some (.int (iI N)), some (.int (iI N)), o] [] (mk g K) ∧ perM m e I K := by
  have hm' := hm
  obtain ⟨t_0, ⟨t_1, d_1, n_1⟩, ⟨t_2, d_2, n_2⟩, ⟨t_3, d_3, n_3⟩, ⟨t_4, d_4, n_4⟩, ⟨t_5, d_5, n_5⟩, ⟨t_6, n_6⟩, ⟨t_7, d_7, n_7⟩, ⟨t_8, d_8, n_8⟩, ⟨t_9, d_9, n_9⟩, ⟨t_10, d_10, n_10⟩, ⟨t_11, d_11, n_11⟩, ⟨t_12, d_12, n_12⟩, ⟨t_13, d_13, n_13⟩, ⟨t_14, d_14, n_14⟩, ⟨t_15, n_15⟩, ⟨t_16, n_16⟩, ⟨t_17, d_17, n_17⟩, ⟨t_18, d_18, n_18⟩⟩ := hm
  intro f
  induction f with
  | zero =>
    intro k J o4 k0 kf h
    have hw := h.2.2.1
    have hn' := h.ne
    have hk : k = N := by omega
    refine ⟨J, o4, ?_, h⟩
    rw [hk]
    refine (w_179_26 (by first | assumption | omega) (by first | assumption | omega) (by first | assumption | omega) (by first | assumption | omega)).trans ?_
    refine (if_pos (by omega)).trans ?_
    simp (maxSteps := 2000000) (disch := first | assumption | omega) only [aft_v, aft_n, aft_t, Nat.add_assoc, Nat.reduceAdd, if_true, if_false, not_true_eq_false, not_false_eq_true, Classical.not_not, Int.reduceAdd, Int.reduceSub, Int.reduceMul, Int.reduceNeg, Int.reduceLT, Int.reduceLE, Int.reduceEq, Int.add_zero, Int.zero_add, Int.sub_zero, w_179_32, hw, hn'.1]
  | succ f ih =>
    intro k J o4 k0 kf h
    have hw := h.2.2.1
    have hn' := h.ne
    have q0 := fun lo hi fi => s_takesW (lo := lo) (hi := hi) (fi := fi) hm' hw hn'
    obtain ⟨K, o, e1, e2⟩ := ih (k + 1) (upd2 J (m + 1) (42 + 8 * pE P + 5 + k) 31) (some (.int (iI 0))) (by omega) (by omega) (h.w (fun p hp => by funext i; exact upd2_p hp))
    refine ⟨K, o, ?_, e2⟩
    rw [← e1]
    refine (w_179_26 (by first | assumption | omega) (by first | assumption | omega) (by first | assumption | omega) (by first | assumption | omega)).trans ?_
    refine (if_neg (by omega)).trans ?_
    simp (maxSteps := 2000000) (disch := first | assumption | omega) only [aft_v, aft_n, aft_t, Nat.add_assoc, Nat.reduceAdd, if_true, if_false, not_true_eq_false, not_false_eq_true, Classical.not_not, Int.reduceAdd, Int.reduceSub, Int.reduceMul, Int.reduceNeg, Int.reduceLT, Int.reduceLE, Int.reduceEq, Int.add_zero, Int.zero_add, Int.sub_zero, w_179_27, w_179_28, w_179_29, w_179_31, q0]
theorem l_mFingers {N r : Int} {ky : Int → Int} (hm : isM g m) (hO : txB B n) (h7 : I (m + 7) = B) (h9 : I m 9 = n) (hW : Wf P) (he : pE P < 40) (hN : 1 ≤ N ∧ N ≤ 3) : ∀ (f : Nat) (k : Int) (se : Int → Int) (b : Int) (J : Mm) (o4 : Option Value), 0 ≤ k → k + f = N → pstM B n m P b I J → evM m P r ky se N J → J (m + 1) (42 + 8 * pE P) = N →
    (∃ e K o, gFn B n f k se b = .inl e ∧ rn 179 26 [some (.ref m), some (.int (iI (42 + 8 * pE P))), some (.int (iI N)), some (.int (iI k)), o4] [] (mk g J) = rn 179 35 [some (.ref m), some (.int (iI (42 + 8 * pE P))), some (.int (iI N)), some (.int (iI N)), o] [] (mk g K) ∧ perM m e I K) ∨
    ∃ s c K o, gFn B n f k se b = .inr (s, c) ∧ rn 179 26 [some (.ref m), some (.int (iI (42 + 8 * pE P))), some (.int (iI N)), some (.int (iI k)), o4] [] (mk g J) = rn 179 35 [some (.ref m), some (.int (iI (42 + 8 * pE P))), some (.int (iI N)), some (.int (iI N)), o] [] (mk g K) ∧ pstM B n m P c I K ∧ evM m P r ky s N K ∧ K (m + 1) (42 + 8 * pE P) = N := by
  have hm' := hm
  have he0 := hW.2.1.1
  obtain ⟨t_0, ⟨t_1, d_1, n_1⟩, ⟨t_2, d_2, n_2⟩, ⟨t_3, d_3, n_3⟩, ⟨t_4, d_4, n_4⟩, ⟨t_5, d_5, n_5⟩, ⟨t_6, n_6⟩, ⟨t_7, d_7, n_7⟩, ⟨t_8, d_8, n_8⟩, ⟨t_9, d_9, n_9⟩, ⟨t_10, d_10, n_10⟩, ⟨t_11, d_11, n_11⟩, ⟨t_12, d_12, n_12⟩, ⟨t_13, d_13, n_13⟩, ⟨t_14, d_14, n_14⟩, ⟨t_15, n_15⟩, ⟨t_16, n_16⟩, ⟨t_17, d_17, n_17⟩, ⟨t_18, d_18, n_18⟩⟩ := hm
  intro f
  induction f with
  | zero =>
    intro k se b J o4 k0 kf h hE hZ
    have hk : k = N := by omega
    have hw := h.2.2.1
    have h12 := h.2.2.2.1.2.2.1
    have hkb := mkd_b (k := tkK B n b)
    have start : rn 179 26 [some (.ref m), some (.int (iI (42 + 8 * pE P))), some (.int (iI N)), some (.int (iI k)), o4] [] (mk g J) = rn 179 33 [some (.ref m), some (.int (iI (42 + 8 * pE P))), some (.int (iI N)), some (.int (iI N)), o4] [] (mk g J) := by
      rw [hk]
      refine (w_179_26 (by first | assumption | omega) (by first | assumption | omega) (by first | assumption | omega) (by first | assumption | omega)).trans ?_
      refine (if_pos (by omega)).trans ?_
      simp (maxSteps := 2000000) (disch := first | assumption | omega) only [aft_v, aft_n, aft_t, Nat.add_assoc, Nat.reduceAdd, if_true, if_false, not_true_eq_false, not_false_eq_true, Classical.not_not, Int.reduceAdd, Int.reduceSub, Int.reduceMul, Int.reduceNeg, Int.reduceLT, Int.reduceLE, Int.reduceEq, Int.add_zero, Int.zero_add, Int.sub_zero, w_179_32, hw]
    rw [start]
    by_cases h2 : tkK B n b = 2
    · obtain ⟨K, j1, j2⟩ := s_fails (B := B) (n := n) (b := b) (c := -5) hm' hO (by decide) h.2.2.1 h.2.2.2.1
      refine Or.inl ⟨_, K, o4, by simp only [gFn]; rw [if_pos h2], ?_, h.er j2⟩
      have hk1 := mkd_1.mpr h2
      simp (maxSteps := 2000000) (disch := first | assumption | omega) only [aft_v, aft_n, aft_t, Nat.add_assoc, Nat.reduceAdd, if_true, if_false, not_true_eq_false, not_false_eq_true, Classical.not_not, Int.reduceAdd, Int.reduceSub, Int.reduceMul, Int.reduceNeg, Int.reduceLT, Int.reduceLE, Int.reduceEq, Int.add_zero, Int.zero_add, Int.sub_zero, w_179_33, w_179_34, h12, hk1, j1]
    · have hk1 : ¬ mkd (tkK B n b) = 1 := fun z => h2 (mkd_1.mp z)
      refine Or.inr ⟨se, b, J, o4, by simp only [gFn]; rw [if_neg h2], ?_, h, hE, hZ⟩
      simp (maxSteps := 2000000) (disch := first | assumption | omega) only [aft_v, aft_n, aft_t, Nat.add_assoc, Nat.reduceAdd, if_true, if_false, not_true_eq_false, not_false_eq_true, Classical.not_not, Int.reduceAdd, Int.reduceSub, Int.reduceMul, Int.reduceNeg, Int.reduceLT, Int.reduceLE, Int.reduceEq, Int.add_zero, Int.zero_add, Int.sub_zero, w_179_33, h12, hk1]
  | succ f ih =>
    intro k se b J o4 k0 kf h hE hZ
    rcases s_takes (lo := 0) (hi := 5) (fi := 0) hm' hO h.2.2.2.1 h.2.2.1 (by decide) (by decide) (by decide) with ⟨e, K, g1, j1, j2⟩ | ⟨v, b1, K, g1, j1, j2⟩
    · have hK := h.er j2
      have hw := hK.2.2.1
      have hn' := hK.ne
      obtain ⟨L, o, e1, e2⟩ := l_mFingersW (N := N) hm' ⟨he0, he⟩ (by omega) f (k + 1) (upd2 K (m + 1) (42 + 8 * pE P + 5 + k) 31) (some (.int (iI 0))) (by omega) (by omega) (hK.w (fun p hp => by funext i; exact upd2_p hp))
      refine Or.inl ⟨e, L, o, by simp only [gFn]; rw [g1]; rfl, ?_, e2⟩
      rw [← e1]
      refine (w_179_26 (by first | assumption | omega) (by first | assumption | omega) (by first | assumption | omega) (by first | assumption | omega)).trans ?_
      refine (if_neg (by omega)).trans ?_
      simp (maxSteps := 2000000) (disch := first | assumption | omega) only [aft_v, aft_n, aft_t, Nat.add_assoc, Nat.reduceAdd, if_true, if_false, not_true_eq_false, not_false_eq_true, Classical.not_not, Int.reduceAdd, Int.reduceSub, Int.reduceMul, Int.reduceNeg, Int.reduceLT, Int.reduceLE, Int.reduceEq, Int.add_zero, Int.zero_add, Int.sub_zero, w_179_27, w_179_28, w_179_29, w_179_31, j1]
    have hK := h.ok j2
    have kE := hE.ok j2
    have kv := gNu_ok g1
    have kv1 : 0 ≤ v := kv.1
    have kv2 : v ≤ 5 := kv.2.1
    have kZ : K (m + 1) (42 + 8 * pE P) = N := by rw [j2.1.1 (m + 1) (by omega)]; exact hZ
    obtain ⟨w, hw⟩ : ∃ w, w = (if v = 0 then 31 else bitF v) := ⟨_, rfl⟩
    obtain ⟨L, hL⟩ : ∃ L, L = upd2 K (m + 1) (42 + 8 * pE P + 5 + k) w := ⟨_, rfl⟩
    have go : rn 179 26 [some (.ref m), some (.int (iI (42 + 8 * pE P))), some (.int (iI N)), some (.int (iI k)), o4] [] (mk g J) = rn 179 26 [some (.ref m), some (.int (iI (42 + 8 * pE P))), some (.int (iI N)), some (.int (iI (k + 1))), some (.int (iI v))] [] (mk g L) := by
      refine (w_179_26 (by first | assumption | omega) (by first | assumption | omega) (by first | assumption | omega) (by first | assumption | omega)).trans ?_
      refine (if_neg (by omega)).trans ?_
      by_cases v0 : v = 0
      · rw [if_pos v0] at hw
        rw [hw] at hL
        rw [v0] at j1
        simp (maxSteps := 2000000) (disch := first | assumption | omega) only [aft_v, aft_n, aft_t, Nat.add_assoc, Nat.reduceAdd, if_true, if_false, not_true_eq_false, not_false_eq_true, Classical.not_not, Int.reduceAdd, Int.reduceSub, Int.reduceMul, Int.reduceNeg, Int.reduceLT, Int.reduceLE, Int.reduceEq, Int.add_zero, Int.zero_add, Int.sub_zero, w_179_27, w_179_28, w_179_29, w_179_31, j1, ← hL]
        rw [v0]
      · rw [if_neg v0] at hw
        have hb : bitF v = shlI 1 (v - 1) := by unfold bitF; rw [if_pos (by omega)]
        rw [hb] at hw
        rw [hw] at hL
        simp (maxSteps := 2000000) (disch := first | assumption | omega) only [aft_v, aft_n, aft_t, Nat.add_assoc, Nat.reduceAdd, if_true, if_false, not_true_eq_false, not_false_eq_true, Classical.not_not, Int.reduceAdd, Int.reduceSub, Int.reduceMul, Int.reduceNeg, Int.reduceLT, Int.reduceLE, Int.reduceEq, Int.add_zero, Int.zero_add, Int.sub_zero, w_179_27, w_179_28, w_179_30, w_179_31, j1, v0, ← hL]
    have hLs : pstM B n m P b1 I L := by rw [hL]; exact pstM_hi hW (by omega) hK
    have hLe : evM m P r ky (fun i => if i = k then w else se i) N L := by
      refine ⟨by rw [hL, upd2_i (by omega)]; exact kE.1, fun i i0 i1 => ?_⟩
      obtain ⟨z1, z2⟩ := kE.2 i i0 i1
      show L (m + 1) (42 + 8 * pE P + 2 + i) = ky i ∧ L (m + 1) (42 + 8 * pE P + 5 + i) = (if i = k then w else se i)
      refine ⟨by rw [hL, upd2_i (by omega)]; exact z1, ?_⟩
      by_cases hi : i = k
      · rw [if_pos hi, hi, hL, upd2_at]
      · rw [if_neg hi, hL, upd2_i (by omega)]; exact z2
    have lZ : L (m + 1) (42 + 8 * pE P) = N := by rw [hL, upd2_i (by omega)]; exact kZ
    have eg : gFn B n (f + 1) k se b = gFn B n f (k + 1) (fun i => if i = k then w else se i) b1 := by simp only [gFn]; rw [g1, hw]; rfl
    rw [go, eg]
    exact ih (k + 1) _ b1 L (some (.int (iI v))) (by omega) (by omega) hLs hLe lZ
theorem l_mEnd {e : Int × Int} {x2 x3 : Int} {o4 : Option Value} (hm : isM g m) (hO : txB B n) (h7 : I (m + 7) = B) (h9 : I m 9 = n) (h : perM m e I J) : ∃ K, rn 179 35 [some (.ref m), some (.int (iI (42 + 8 * pE P))), some (.int (iI x2)), some (.int (iI x3)), o4] [] (mk g J) = some (.inl none, mk g K) ∧ perM m e I K := by
  have q2 := s_mustEndP hm hO h7 h9 h
  obtain ⟨t_0, ⟨t_1, d_1, n_1⟩, ⟨t_2, d_2, n_2⟩, ⟨t_3, d_3, n_3⟩, ⟨t_4, d_4, n_4⟩, ⟨t_5, d_5, n_5⟩, ⟨t_6, n_6⟩, ⟨t_7, d_7, n_7⟩, ⟨t_8, d_8, n_8⟩, ⟨t_9, d_9, n_9⟩, ⟨t_10, d_10, n_10⟩, ⟨t_11, d_11, n_11⟩, ⟨t_12, d_12, n_12⟩, ⟨t_13, d_13, n_13⟩, ⟨t_14, d_14, n_14⟩, ⟨t_15, n_15⟩, ⟨t_16, n_16⟩, ⟨t_17, d_17, n_17⟩, ⟨t_18, d_18, n_18⟩⟩ := hm
  refine ⟨upd2 J (m + 1) 0 (J (m + 1) 0 + 1), ?_, h.w (fun p hp => by funext i; exact upd2_p hp)⟩
  simp (maxSteps := 2000000) (disch := first | assumption | omega) only [aft_v, aft_n, aft_t, Nat.add_assoc, Nat.reduceAdd, if_true, if_false, not_true_eq_false, not_false_eq_true, Classical.not_not, Int.reduceAdd, Int.reduceSub, Int.reduceMul, Int.reduceNeg, Int.reduceLT, Int.reduceLE, Int.reduceEq, Int.add_zero, Int.zero_add, Int.sub_zero, w_179_35, w_179_36, q2]
theorem l_mEnd2 {N r x2 x3 c : Int} {ky se : Int → Int} {o4 : Option Value} (hm : isM g m) (hO : txB B n) (h7 : I (m + 7) = B) (h9 : I m 9 = n) (hW : Wf P) (hN : N ≤ 3) (h : pstM B n m P c I J) (hE : evM m P r ky se N J) (hZ : J (m + 1) (42 + 8 * pE P) = N) :
    panM B n m g I (bnd (gSe B n c) fun b4 => .inr (paV P N r ky se, b4)) (rn 179 35 [some (.ref m), some (.int (iI (42 + 8 * pE P))), some (.int (iI x2)), some (.int (iI x3)), o4] [] (mk g J)) := by
  have hm' := hm
  obtain ⟨t_0, ⟨t_1, d_1, n_1⟩, ⟨t_2, d_2, n_2⟩, ⟨t_3, d_3, n_3⟩, ⟨t_4, d_4, n_4⟩, ⟨t_5, d_5, n_5⟩, ⟨t_6, n_6⟩, ⟨t_7, d_7, n_7⟩, ⟨t_8, d_8, n_8⟩, ⟨t_9, d_9, n_9⟩, ⟨t_10, d_10, n_10⟩, ⟨t_11, d_11, n_11⟩, ⟨t_12, d_12, n_12⟩, ⟨t_13, d_13, n_13⟩, ⟨t_14, d_14, n_14⟩, ⟨t_15, n_15⟩, ⟨t_16, n_16⟩, ⟨t_17, d_17, n_17⟩, ⟨t_18, d_18, n_18⟩⟩ := hm
  rcases s_mustEnd hm' hO h.2.2.2.1 h.2.2.1 with ⟨e, K, g1, j1, j2⟩ | ⟨b4, K, g1, j1, j2⟩
  · have hK := h.er j2
    refine Or.inl ⟨e, upd2 K (m + 1) 0 (K (m + 1) 0 + 1), by rw [g1]; rfl, ?_, hK.w (fun p hp => by funext i; exact upd2_p hp)⟩
    simp (maxSteps := 2000000) (disch := first | assumption | omega) only [aft_v, aft_n, aft_t, Nat.add_assoc, Nat.reduceAdd, if_true, if_false, not_true_eq_false, not_false_eq_true, Classical.not_not, Int.reduceAdd, Int.reduceSub, Int.reduceMul, Int.reduceNeg, Int.reduceLT, Int.reduceLE, Int.reduceEq, Int.add_zero, Int.zero_add, Int.sub_zero, w_179_35, w_179_36, j1]
  · have hK := h.ok j2
    have ke : K (m + 1) 0 = pE P := hK.2.2.2.2.2.1
    have kE := hE.ok j2
    have kZ : K (m + 1) (42 + 8 * pE P) = N := by rw [j2.1.1 (m + 1) (by omega)]; exact hZ
    refine Or.inr ⟨paV P N r ky se, b4, upd2 K (m + 1) 0 (pE P + 1), by rw [g1]; rfl, ?_, hK.w (fun p hp => by funext i; exact upd2_p hp) (mv_ev hW hN hK.2.2.2.2 kE kZ)⟩
    simp (maxSteps := 2000000) (disch := first | assumption | omega) only [aft_v, aft_n, aft_t, Nat.add_assoc, Nat.reduceAdd, if_true, if_false, not_true_eq_false, not_false_eq_true, Classical.not_not, Int.reduceAdd, Int.reduceSub, Int.reduceMul, Int.reduceNeg, Int.reduceLT, Int.reduceLE, Int.reduceEq, Int.add_zero, Int.zero_add, Int.sub_zero, w_179_35, w_179_36, j1, ke]
theorem l_mBy {N r v c : Int} {ky : Int → Int} (hm : isM g m) (hO : txB B n) (h7 : I (m + 7) = B) (h9 : I m 9 = n) (hs : ∀ p, 3 ≤ p → p ≤ 20 → isTs g I p) (hx : 64 ≤ m) (hW : Wf P) (he : pE P < 40) (hN : 1 ≤ N ∧ N ≤ 3) (h : pstM B n m P c I J) (hE : evM m P r ky (fun _ => 31) N J) (hZ : J (m + 1) (42 + 8 * pE P) = N) :
    panM B n m g I (bnd (gFg B n N c) fun x3 => bnd (gSe B n x3.2) fun b4 => .inr (paV P N r ky x3.1, b4)) (rn 179 22 [some (.ref m), some (.int (iI (42 + 8 * pE P))), some (.int (iI N)), some (.int (iI v)), none] [] (mk g J)) := by
  have hm' := hm
  obtain ⟨t_0, ⟨t_1, d_1, n_1⟩, ⟨t_2, d_2, n_2⟩, ⟨t_3, d_3, n_3⟩, ⟨t_4, d_4, n_4⟩, ⟨t_5, d_5, n_5⟩, ⟨t_6, n_6⟩, ⟨t_7, d_7, n_7⟩, ⟨t_8, d_8, n_8⟩, ⟨t_9, d_9, n_9⟩, ⟨t_10, d_10, n_10⟩, ⟨t_11, d_11, n_11⟩, ⟨t_12, d_12, n_12⟩, ⟨t_13, d_13, n_13⟩, ⟨t_14, d_14, n_14⟩, ⟨t_15, n_15⟩, ⟨t_16, n_16⟩, ⟨t_17, d_17, n_17⟩, ⟨t_18, d_18, n_18⟩⟩ := hm
  have o1 : ¬ (1 : Int) = 0 := by decide
  have w := s_misWord hm' hO h.2.2.2.1 h.2.2.1 (isTs_c (h.1 _ (by omega) (by omega)) (hs 10 (by decide) (by decide)))
  by_cases hw : isW B n c 10
  · rw [wdS_y hw] at w
    obtain ⟨K, j1, j2⟩ := s_mnext2 hm' hO h.2.2.2.1
    have hK := h.ok j2
    have kE := hE.ok j2
    have kZ : K (m + 1) (42 + 8 * pE P) = N := by rw [j2.1.1 (m + 1) (by omega)]; exact hZ
    have eg : gFg B n N c = gFn B n N.toNat 0 (fun _ => 31) (tkE B n c) := by unfold gFg; rw [wdS_y hw, if_neg o1]
    rw [eg]
    have start : rn 179 22 [some (.ref m), some (.int (iI (42 + 8 * pE P))), some (.int (iI N)), some (.int (iI v)), none] [] (mk g J) = rn 179 26 [some (.ref m), some (.int (iI (42 + 8 * pE P))), some (.int (iI N)), some (.int (iI 0)), none] [] (mk g K) := by
      simp (maxSteps := 2000000) (disch := first | assumption | omega) only [aft_v, aft_n, aft_t, Nat.add_assoc, Nat.reduceAdd, if_true, if_false, not_true_eq_false, not_false_eq_true, Classical.not_not, Int.reduceAdd, Int.reduceSub, Int.reduceMul, Int.reduceNeg, Int.reduceLT, Int.reduceLE, Int.reduceEq, Int.add_zero, Int.zero_add, Int.sub_zero, w_179_22, w_179_23, w_179_24, w_179_25, w, o1, j1]
    rw [start]
    rcases l_mFingers hm' hO h7 h9 hW he hN N.toNat 0 (fun _ => 31) (tkE B n c) K none (by decide) (by omega) hK kE kZ with ⟨e, L, o, g1, l1, l2⟩ | ⟨s, d, L, o, g1, l1, l2, l3, l4⟩
    · obtain ⟨M, m1, m2⟩ := l_mEnd (P := P) (x2 := N) (x3 := N) (o4 := o) hm' hO h7 h9 l2
      exact Or.inl ⟨e, M, by rw [g1]; rfl, by rw [l1, m1], m2⟩
    · rw [g1, l1]
      exact l_mEnd2 hm' hO h7 h9 hW hN.2 l2 l3 l4
  · rw [wdS_n hw] at w
    have eg : gFg B n N c = .inr (fun _ => 31, c) := by unfold gFg; rw [wdS_n hw, if_pos rfl]
    rw [eg]
    have start : rn 179 22 [some (.ref m), some (.int (iI (42 + 8 * pE P))), some (.int (iI N)), some (.int (iI v)), none] [] (mk g J) = rn 179 35 [some (.ref m), some (.int (iI (42 + 8 * pE P))), some (.int (iI N)), some (.int (iI v)), none] [] (mk g J) := by
      simp (maxSteps := 2000000) (disch := first | assumption | omega) only [aft_v, aft_n, aft_t, Nat.add_assoc, Nat.reduceAdd, if_true, if_false, not_true_eq_false, not_false_eq_true, Classical.not_not, Int.reduceAdd, Int.reduceSub, Int.reduceMul, Int.reduceNeg, Int.reduceLT, Int.reduceLE, Int.reduceEq, Int.add_zero, Int.zero_add, Int.sub_zero, w_179_22, w_179_23, w]
    rw [start]
    exact l_mEnd2 hm' hO h7 h9 hW hN.2 h hE hZ
theorem s_readsEvent (hm : isM g m) (hO : txB B n) (h7 : I (m + 7) = B) (h9 : I m 9 = n) (hs : ∀ p, 3 ≤ p → p ≤ 20 → isTs g I p) (hx : 64 ≤ m) (hW : Wf P) (h : pstM B n m P b I J) : panM B n m g I (gEv B n P b) (cl 179 [.ref m] (mk g J)) := by
  have hm' := hm
  have he0 := hW.2.1
  have qe := fun K => s_events (g := g) (I := K) hm'
  obtain ⟨t_0, ⟨t_1, d_1, n_1⟩, ⟨t_2, d_2, n_2⟩, ⟨t_3, d_3, n_3⟩, ⟨t_4, d_4, n_4⟩, ⟨t_5, d_5, n_5⟩, ⟨t_6, n_6⟩, ⟨t_7, d_7, n_7⟩, ⟨t_8, d_8, n_8⟩, ⟨t_9, d_9, n_9⟩, ⟨t_10, d_10, n_10⟩, ⟨t_11, d_11, n_11⟩, ⟨t_12, d_12, n_12⟩, ⟨t_13, d_13, n_13⟩, ⟨t_14, d_14, n_14⟩, ⟨t_15, n_15⟩, ⟨t_16, n_16⟩, ⟨t_17, d_17, n_17⟩, ⟨t_18, d_18, n_18⟩⟩ := hm
  have o1 : ¬ (1 : Int) = 0 := by decide
  have he : J (m + 1) 0 = pE P := h.2.2.2.2.2.1
  have hw := h.2.2.1
  by_cases h40 : 40 ≤ pE P
  · obtain ⟨K, j1, j2⟩ := s_fails (B := B) (n := n) (b := b) (c := -5) hm' hO (by decide) h.2.2.1 h.2.2.2.1
    have hK := h.er j2
    have hwK := hK.2.2.1
    have hn' := hK.ne
    refine Or.inl ⟨_, K, by unfold gEv; rw [if_pos h40], ?_, hK⟩
    simp (maxSteps := 2000000) (disch := first | assumption | omega) only [aft_v, aft_n, aft_t, Nat.add_assoc, Nat.reduceAdd, if_true, if_false, not_true_eq_false, not_false_eq_true, Classical.not_not, Int.reduceAdd, Int.reduceSub, Int.reduceMul, Int.reduceNeg, Int.reduceLT, Int.reduceLE, Int.reduceEq, Int.add_zero, Int.zero_add, Int.sub_zero, c_179, w_179_0, w_179_1, w_179_2, w_179_3, w_179_4, qe, he, show pE P = 40 by omega, j1, hwK, hn'.1]
  have eg : gEv B n P b = bnd (gKl B n 3 0 20 (fun _ => 0) (tkE B n b)) fun x1 => bnd (gRe B n x1.2.2) fun x2 => bnd (gFg B n x1.1 x2.2) fun x3 => bnd (gSe B n x3.2) fun b4 => .inr (paV P x1.1 x2.1 x1.2.1 x3.1, b4) := by unfold gEv; rw [if_neg h40]
  obtain ⟨K, j1, j2⟩ := s_must1 hm' hO h.2.2.2.1 h.2.2.1
  have hK := h.ok j2
  have ke : K (m + 1) 0 = pE P := hK.2.2.2.2.2.1
  obtain ⟨L, hL⟩ : ∃ L, L = upd2 K (m + 1) (42 + 8 * pE P + 1) 0 := ⟨_, rfl⟩
  have hLs : pstM B n m P (tkE B n b) I L := by rw [hL]; exact pstM_hi hW (by omega) hK
  have hLe : evM m P 0 (fun _ => 0) (fun _ => 31) 0 L := ⟨by rw [hL, upd2_at], fun i i0 i1 => by omega⟩
  have start : cl 179 [.ref m] (mk g J) = rn 179 8 [some (.ref m), some (.int (iI (42 + 8 * pE P))), some (.int (iI 0)), none, none] [] (mk g L) := by
    simp (maxSteps := 2000000) (disch := first | assumption | omega) only [aft_v, aft_n, aft_t, Nat.add_assoc, Nat.reduceAdd, if_true, if_false, not_true_eq_false, not_false_eq_true, Classical.not_not, Int.reduceAdd, Int.reduceSub, Int.reduceMul, Int.reduceNeg, Int.reduceLT, Int.reduceLE, Int.reduceEq, Int.add_zero, Int.zero_add, Int.sub_zero, c_179, w_179_0, w_179_1, w_179_3, w_179_5, w_179_6, qe, he, show ¬ pE P = 40 by omega, hw, j1, ke]
    refine (w_179_7 (by first | assumption | omega) (by first | assumption | omega) (by first | assumption | omega) (by first | assumption | omega) (by first | assumption | omega)).trans ?_
    rw [← hL]
  rw [start, eg]
  rcases l_mKeys hm' hO h7 h9 hW (by omega) 3 0 20 (fun _ => 0) (tkE B n b) L none none (by decide) (by decide) (by decide) (by decide) (fun _ => rfl) (fun z => absurd z (by decide)) hLs hLe with ⟨e, M, g1, m1, m2⟩ | ⟨x, v, M, g1, m1, hM, hMe⟩
  · exact Or.inl ⟨e, M, by rw [g1]; rfl, m1, m2⟩
  rw [m1, g1]
  have hx1 := (gKl_ok 3 0 20 (fun _ => 0) _ x (by decide) (by decide) (fun i i0 i1 => by omega) (fun i i0 i1 => by omega) (fun z => absurd z (by decide)) g1).1
  -- the size is set
  obtain ⟨N, hN⟩ : ∃ N, N = upd2 M (m + 1) (42 + 8 * pE P) x.1 := ⟨_, rfl⟩
  have hNs : pstM B n m P x.2.2 I N := by rw [hN]; exact pstM_hi hW (by omega) hM
  have hNz : N (m + 1) (42 + 8 * pE P) = x.1 := by rw [hN, upd2_at]
  have hNe : evM m P 0 x.2.1 (fun _ => 31) x.1 N := by
    refine ⟨by rw [hN, upd2_i (by omega)]; exact hMe.1, fun i i0 i1 => ?_⟩
    rw [hN, upd2_i (by omega), upd2_i (by omega)]
    exact hMe.2 i i0 i1
  have hts : ∀ K, (∀ p, ¬ p = m → ¬ p = m + 1 → K p = I p) → ∀ p, 3 ≤ p → p ≤ 20 → isTs g K p := fun K hK p p0 p1 => isTs_c (hK _ (by omega) (by omega)) (hs p p0 p1)
  have w9 := s_misWord hm' hO hNs.2.2.2.1 hNs.2.2.1 (hts N hNs.1 9 (by decide) (by decide))
  show panM B n m g I (bnd (gRe B n x.2.2) fun x2 => bnd (gFg B n x.1 x2.2) fun x3 => bnd (gSe B n x3.2) fun b4 => .inr (paV P x.1 x2.1 x.2.1 x3.1, b4)) _
  by_cases hw9 : isW B n x.2.2 9
  · rw [wdS_y hw9] at w9
    obtain ⟨R, r1, r2⟩ := s_mnext2 hm' hO hNs.2.2.2.1
    have hR := hNs.ok r2
    have rE := hNe.ok r2
    have rZ : R (m + 1) (42 + 8 * pE P) = x.1 := by rw [r2.1.1 (m + 1) (by omega)]; exact hNz
    have eg : gRe B n x.2.2 = gNu B n 0 9 0 (tkE B n x.2.2) := by unfold gRe; rw [wdS_y hw9, if_neg o1]
    rw [eg]
    rcases s_takes (lo := 0) (hi := 9) (fi := 0) hm' hO hR.2.2.2.1 hR.2.2.1 (by decide) (by decide) (by decide) with ⟨e, S, g2, s1, s2⟩ | ⟨r, c, S, g2, s1, s2⟩
    · have hS := hR.er s2
      have hS2 : perM m e I (upd2 S (m + 1) (42 + 8 * pE P + 1) 0) := hS.w (fun p hp => by funext i; exact upd2_p hp)
      have hwS := hS2.2.2.1
      have w10 := s_misWordW (g := g) (p := 10) hm' hwS hS2.ne
      obtain ⟨V, v1, v2⟩ := l_mEnd (P := P) (x2 := x.1) (x3 := v) (o4 := none) hm' hO h7 h9 hS2
      refine Or.inl ⟨e, V, by rw [g2]; rfl, ?_, v2⟩
      rw [← v1]
      simp (maxSteps := 2000000) (disch := first | assumption | omega) only [aft_v, aft_n, aft_t, Nat.add_assoc, Nat.reduceAdd, if_true, if_false, not_true_eq_false, not_false_eq_true, Classical.not_not, Int.reduceAdd, Int.reduceSub, Int.reduceMul, Int.reduceNeg, Int.reduceLT, Int.reduceLE, Int.reduceEq, Int.add_zero, Int.zero_add, Int.sub_zero, w_179_17, w_179_18, w_179_19, w_179_20, w_179_21, w_179_22, w_179_23, ← hN, w9, o1, r1, s1, w10]
    · have hS := hR.ok s2
      have sE := rE.ok s2
      have sZ : S (m + 1) (42 + 8 * pE P) = x.1 := by rw [s2.1.1 (m + 1) (by omega)]; exact rZ
      obtain ⟨V, hV⟩ : ∃ V, V = upd2 S (m + 1) (42 + 8 * pE P + 1) r := ⟨_, rfl⟩
      have hVs : pstM B n m P c I V := by rw [hV]; exact pstM_hi hW (by omega) hS
      have vZ : V (m + 1) (42 + 8 * pE P) = x.1 := by rw [hV, upd2_i (by omega)]; exact sZ
      have vE : evM m P r x.2.1 (fun _ => 31) x.1 V := by
        refine ⟨by rw [hV, upd2_at], fun i i0 i1 => ?_⟩
        rw [hV, upd2_i (by omega), upd2_i (by omega)]
        exact sE.2 i i0 i1
      rw [g2]
      have go : rn 179 17 [some (.ref m), some (.int (iI (42 + 8 * pE P))), some (.int (iI x.1)), some (.int (iI v)), none] [] (mk g M) = rn 179 22 [some (.ref m), some (.int (iI (42 + 8 * pE P))), some (.int (iI x.1)), some (.int (iI v)), none] [] (mk g V) := by
        simp (maxSteps := 2000000) (disch := first | assumption | omega) only [aft_v, aft_n, aft_t, Nat.add_assoc, Nat.reduceAdd, if_true, if_false, not_true_eq_false, not_false_eq_true, Classical.not_not, Int.reduceAdd, Int.reduceSub, Int.reduceMul, Int.reduceNeg, Int.reduceLT, Int.reduceLE, Int.reduceEq, Int.add_zero, Int.zero_add, Int.sub_zero, w_179_17, w_179_18, w_179_19, w_179_20, w_179_21, ← hN, w9, o1, r1, s1, ← hV]
      rw [go]
      exact l_mBy hm' hO h7 h9 hs hx hW (by omega) hx1 hVs vE vZ
  · rw [wdS_n hw9] at w9
    have eg : gRe B n x.2.2 = .inr (0, x.2.2) := by unfold gRe; rw [wdS_n hw9, if_pos rfl]
    rw [eg]
    have go : rn 179 17 [some (.ref m), some (.int (iI (42 + 8 * pE P))), some (.int (iI x.1)), some (.int (iI v)), none] [] (mk g M) = rn 179 22 [some (.ref m), some (.int (iI (42 + 8 * pE P))), some (.int (iI x.1)), some (.int (iI v)), none] [] (mk g N) := by
      simp (maxSteps := 2000000) (disch := first | assumption | omega) only [aft_v, aft_n, aft_t, Nat.add_assoc, Nat.reduceAdd, if_true, if_false, not_true_eq_false, not_false_eq_true, Classical.not_not, Int.reduceAdd, Int.reduceSub, Int.reduceMul, Int.reduceNeg, Int.reduceLT, Int.reduceLE, Int.reduceEq, Int.add_zero, Int.zero_add, Int.sub_zero, w_179_17, w_179_18, ← hN, w9]
    rw [go]
    exact l_mBy hm' hO h7 h9 hs hx hW (by omega) hx1 hNs hNe hNz
end MV
