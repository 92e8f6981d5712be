/-! Rounds of the questions of both dynamic programs. -/
section RD2
variable {s x N : Nat} {S : Int → Int} {g : Gm} {I J : Mm} {i : Int} {o6 o7 o8 : Option Value}
theorem kp_P (hx : 64 ≤ x) (hs : s < x) (h : frP (x + 35) I J) : kpL s x I J := ⟨fun p hp => h p (by omega), fun j _ => by rw [h (x + 75) (by omega)], fun j _ => by rw [h (x + 86) (by omega)]⟩
theorem kp_Q {t : Int} (hx : 64 ≤ x) (hs : s < x) (h : frQ (x + 86) t I J) : kpL s x I J := ⟨fun p hp => h.1 p (by omega) (by omega), fun j _ => by rw [h.1 (x + 75) (by omega) (by omega)], fun j hj => h.2.1 j (by omega)⟩
theorem kp_M {t : Int} (hx : 64 ≤ x) (hs : s < x) (h : frM (x + 86) (upd2 I (x + 86) 7 t) J) : kpL s x I J := (kpL_7 (v := t) hx hs).trans ⟨fun p hp => h p (by omega) (by omega) (by omega) (by omega) (by omega), fun j _ => by rw [h (x + 75) (by omega) (by omega) (by omega) (by omega) (by omega)], fun j _ => by rw [h (x + 86) (by omega) (by omega) (by omega) (by omega) (by omega)]⟩
/-- the plan is solved, and the reference asked -/
theorem plOk_Q {K : Mm} {t : Int} (hf : frP (x + 35) I J) (hS : Sol (pv I (x + 1)) (x + 35) J) (hq : frQ (x + 86) t J K) : plOk x K := by
  refine plOk_c (fun p a b => hq.1 p (by omega) (by omega)) (Or.inr ?_)
  rw [pv_c (I := I) (J := J) (fun p a b => hf p (by omega))]
  exact hS
theorem plOk_M {K : Mm} {t : Int} (hf : frP (x + 35) I J) (hS : Sol (pv I (x + 1)) (x + 35) J) (hq : frM (x + 86) (upd2 J (x + 86) 7 t) K) : plOk x K := by
  refine plOk_c (I := J) (fun p a b => ?_) (Or.inr ?_)
  · rw [hq p (by omega) (by omega) (by omega) (by omega) (by omega)]
    funext j; exact upd2_p (by omega)
  · rw [pv_c (I := I) (J := J) (fun p a b => hf p (by omega))]
    exact hS
theorem rd_reaches (hx : 64 ≤ x) (hs : s < x) (h : lawI s x S N g I) : rndL s x N S 117 i o6 o7 o8 g I := by
  have h' := h
  obtain ⟨iH, iM, i105, i106, ⟨iS, iN, iI'⟩, ⟨c1, c2, c3, c4, c5, c6⟩, c7, _, _, _⟩ := h
  obtain ⟨J, j1, j2, j3⟩ := s_hreaches iH.hn iH.2.2.2.1 c3 c7
  have jv : pv J (x + 1) = pv I (x + 1) := pv_c (fun p a b => j2 p (by omega))
  have jm : mv J (x + 86) = mv I (x + 86) := by unfold mv; rw [j2 (x + 86 + 1) (by omega)]
  obtain ⟨K, k1, k2⟩ := s_reachesM (g := g) (I := J) iM (c4.agr c5) jm.symm
  refine ⟨o6, o7, o8, g, K, lt_reaches iH.1 iM.1 j1 k1 (by rw [rc_A c5 c4]), lawI_keep rfl rfl rfl ((kp_P hx hs j2).trans (kp_Q hx hs k2)) (plOk_Q j2 j3 k2) hx h', Nat.le_add_right _ _, Nat.le_add_right _ _⟩
theorem rd_best (hx : 64 ≤ x) (hs : s < x) (h : lawI s x S N g I) : rndL s x N S 76 i o6 o7 o8 g I := by
  have h' := h
  obtain ⟨iH, iM, i105, i106, ⟨iS, iN, iI'⟩, ⟨c1, c2, c3, c4, c5, c6⟩, c7, _, _, _⟩ := h
  obtain ⟨J, j1, j2, j3⟩ := s_hbest iH.hn iH.2.2.2.1 c3 c7
  have jm : mv J (x + 86) = mv I (x + 86) := by unfold mv; rw [j2 (x + 86 + 1) (by omega)]
  obtain ⟨K, L, k1, k2, k3⟩ := s_bestM (g := g) (I := J) (L := g.2.1) iM (c4.agr c5) jm.symm (Wf_bd (c4.agr c5))
  refine ⟨o6, o7, o8, gL g L, K, lt_best iH.1 iM.1 j1 k1 (by rw [ls_A c5 c4]), lawI_keep (g' := gL g L) rfl rfl rfl ((kp_P hx hs j2).trans (kp_M hx hs k2)) (plOk_M j2 j3 k2) hx h', budg_L⟩
theorem s_merrorPosition {m : Nat} (h : g.1 m = sX6 m) : cl 181 [.ref m] (mk g I) = some (.inl (some (.int (iI (I m 16)))), mk g (upd2 I m 7 0)) := by
  have u : upd2 I m 7 0 m 16 = I m 16 := upd2_i (by decide)
  simp (maxSteps := 2000000) (disch := first | assumption | omega) only [aft_v, aft_n, aft_t, Nat.add_assoc, Nat.reduceAdd, if_true, if_false, not_true_eq_false, not_false_eq_true, Classical.not_not, Int.reduceAdd, Int.reduceSub, Int.reduceMul, Int.reduceNeg, Int.reduceLT, Int.reduceLE, Int.reduceEq, Int.add_zero, Int.zero_add, Int.sub_zero, c_181, w_181_0, u]
theorem rd_errorPosition (hx : 64 ≤ x) (hs : s < x) (h : lawI s x S N g I) : rndL s x N S 18 i o6 o7 o8 g I := by
  have h' := h
  obtain ⟨iH, iM, i105, i106, ⟨iS, iN, iI'⟩, ⟨c1, c2, c3, c4, c5, c6⟩, c7, ⟨t1, t2, t3, t4, _⟩, _, _⟩ := h
  exact ⟨o6, o7, o8, g, _, lt_errorPosition iH.1 iM.1 (s_herrorPosition iH) (s_merrorPosition iM.1) (by rw [t4]), lawI_7 rfl rfl rfl hx hs h', Nat.le_add_right _ _, Nat.le_add_right _ _⟩
end RD2
