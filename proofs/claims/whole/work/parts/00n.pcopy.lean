/-! Rows that are copied; a piece begun anew; keys. -/
def cpR (I : Mm) (q p : Nat) (n : Int) : Mm := fun r i => if r = q ∧ 0 ≤ i ∧ i < n then I p i else I r i
section CP
variable {k : Nat} {F : List XF} {t : TF} {ls : Lo} {r : Vs} {R : Option Rs} {g : Gm} {I : Mm} {q : Nat}
theorem m_Cpy {p q : Nat} {n : Int} (hp : gt g p = 0) (hq : gt g q = 0) (hr : catS r ≤ 8) (h0 : 0 ≤ n) (h1 : n < 2147483648) (h2 : n ≤ gn g p) (h3 : n ≤ gn g q) (K : gx k F t ls r (mk g (cpR I q p n)) = R) : gx k (xCpy :: F) t ls (.int (iI n) :: .int (iI 0) :: .ref q :: .int (iI 0) :: .ref p :: r) (mk g I) = R := by
  have en : (iI n).toNatClampNeg = n.toNat := iI_cl (by omega) h1
  have e0 : (iI 0).toNatClampNeg = 0 := rfl
  refine g_Cpy (rnd_int hp (by omega)) (rnd_int hq (by omega)) hr (by decide) (by decide) (by rw [iI_0, iI_le (by omega) (by omega) (by omega) (by omega)]; exact h0) (by rw [en, e0]; omega) (by rw [en, e0]; omega) ?_
  rw [← K]
  congr 1
  unfold hset mk
  congr 1
  funext s
  by_cases hs : s = q
  · subst hs
    rw [if_pos rfl, rnd_int hq (by omega), en, e0]
    congr 4
    funext j
    unfold va_cpy cpR
    by_cases hj : j < n.toNat
    · rw [if_pos (by omega), if_pos (by omega)]
      congr 2
      omega
    · rw [if_neg (by omega), if_neg (by omega)]
  · rw [if_neg hs]
    show rc _ _ _ _ _ = rc _ _ _ _ _
    rw [show cpR I q p n s = I s from funext fun j => if_neg (by omega)]
theorem s_row_copy {p o : Nat} (hp : isR g p) (ho : isR g o) (hn : gn g (p + 1) = gn g (o + 1)) : cl 64 [.ref p, .ref o] (mk g I) = some (.inl none, mk g (cpR I (p + 1) (o + 1) (gn g (p + 1) : Int))) := by
  obtain ⟨p1, p2, p3⟩ := hp
  obtain ⟨o1, o2, o3⟩ := ho
  refine c_64.trans ?_
  refine rn_gx ((bk_64 0).trans rfl) <| g_LdA rfl <| m_GetR o1 rfl <| m_C (z := 0) rfl <| g_LdA rfl <| m_GetR p1 rfl <| m_C (z := 0) rfl <| g_LdA rfl <| m_GetR p1 rfl <| m_Len (Or.inl p2) <| g_LdA rfl <| m_GetR o1 rfl <| m_Len (Or.inl o2) <| m_Min (by omega) (by omega) (by omega) (by omega) (Nat.le_of_ble_eq_true rfl) <| ?_
  rw [show min (gn g (p + 1) : Int) (gn g (o + 1) : Int) = (gn g (p + 1) : Int) by omega]
  exact m_Cpy o2 p2 (Nat.le_of_ble_eq_true rfl) (by omega) (by omega) (by omega) (by omega) (g_RetV rfl)
/-- the piece at o put over that at q -/
def cpP (I : Mm) (q o : Nat) : Mm := fun p i =>
  if p = q ∧ (i = 0 ∨ i = 1) then I o i else
  if p = q + 2 ∧ 0 ≤ i ∧ i < 40 then I (o + 2) i else
  if p = q + 4 ∧ 0 ≤ i ∧ i < 40 then I (o + 4) i else
  if p = q + 6 ∧ 0 ≤ i ∧ i < 120 then I (o + 6) i else
  if p = q + 8 ∧ 0 ≤ i ∧ i < 120 then I (o + 8) i else
  if p = q + 10 ∧ 0 ≤ i ∧ i < 10 then I (o + 10) i else
  if p = q + 12 ∧ 0 ≤ i ∧ i < 25 then I (o + 12) i else
  if p = q + 14 ∧ 0 ≤ i ∧ i < 25 then I (o + 14) i else
  if p = q + 16 ∧ 0 ≤ i ∧ i < 25 then I (o + 16) i else I p i
theorem cp_chain {I : Mm} {q o : Nat} (hqo : q + 17 ≤ o ∨ o + 17 ≤ q) : cpR (cpR (cpR (cpR (cpR (cpR (cpR (cpR (upd2 (upd2 I q 0 (I o 0)) q 1 (I o 1)) (q + 2) (o + 2) (40 : Nat)) (q + 4) (o + 4) (40 : Nat)) (q + 6) (o + 6) (120 : Nat)) (q + 8) (o + 8) (120 : Nat)) (q + 10) (o + 10) (10 : Nat)) (q + 12) (o + 12) (25 : Nat)) (q + 14) (o + 14) (25 : Nat)) (q + 16) (o + 16) (25 : Nat) = cpP I q o := by
  funext p i
  have hx : ∀ j : Nat, j ≤ 16 → ∀ k : Nat, k ≤ 16 → ¬ o + j = q + k := fun j hj k hk => by omega
  unfold cpP
  simp only [cpR, upd2]
  by_cases h0 : p = q ∧ i = 0
  · obtain ⟨rfl, rfl⟩ := h0
    simp
  by_cases h1 : p = q ∧ i = 1
  · obtain ⟨rfl, rfl⟩ := h1
    simp
  by_cases r2 : p = q + 2 ∧ 0 ≤ i ∧ i < 40
  · obtain ⟨rfl, a1, a2⟩ := r2
    have n0 : ¬ o + 2 = q := hx 2 (by decide) 0 (by decide)
    have n2 : ¬ o + 2 = q + 2 := hx 2 (by decide) 2 (by decide)
    have n4 : ¬ o + 2 = q + 4 := hx 2 (by decide) 4 (by decide)
    have n6 : ¬ o + 2 = q + 6 := hx 2 (by decide) 6 (by decide)
    have n8 : ¬ o + 2 = q + 8 := hx 2 (by decide) 8 (by decide)
    have n10 : ¬ o + 2 = q + 10 := hx 2 (by decide) 10 (by decide)
    have n12 : ¬ o + 2 = q + 12 := hx 2 (by decide) 12 (by decide)
    have n14 : ¬ o + 2 = q + 14 := hx 2 (by decide) 14 (by decide)
    have n16 : ¬ o + 2 = q + 16 := hx 2 (by decide) 16 (by decide)
    simp [a1, a2, n0, n2, n4, n6, n8, n10, n12, n14, n16]
  by_cases r4 : p = q + 4 ∧ 0 ≤ i ∧ i < 40
  · obtain ⟨rfl, a1, a2⟩ := r4
    have n0 : ¬ o + 4 = q := hx 4 (by decide) 0 (by decide)
    have n2 : ¬ o + 4 = q + 2 := hx 4 (by decide) 2 (by decide)
    have n4 : ¬ o + 4 = q + 4 := hx 4 (by decide) 4 (by decide)
    have n6 : ¬ o + 4 = q + 6 := hx 4 (by decide) 6 (by decide)
    have n8 : ¬ o + 4 = q + 8 := hx 4 (by decide) 8 (by decide)
    have n10 : ¬ o + 4 = q + 10 := hx 4 (by decide) 10 (by decide)
    have n12 : ¬ o + 4 = q + 12 := hx 4 (by decide) 12 (by decide)
    have n14 : ¬ o + 4 = q + 14 := hx 4 (by decide) 14 (by decide)
    have n16 : ¬ o + 4 = q + 16 := hx 4 (by decide) 16 (by decide)
    simp [a1, a2, n0, n2, n4, n6, n8, n10, n12, n14, n16]
  by_cases r6 : p = q + 6 ∧ 0 ≤ i ∧ i < 120
  · obtain ⟨rfl, a1, a2⟩ := r6
    have n0 : ¬ o + 6 = q := hx 6 (by decide) 0 (by decide)
    have n2 : ¬ o + 6 = q + 2 := hx 6 (by decide) 2 (by decide)
    have n4 : ¬ o + 6 = q + 4 := hx 6 (by decide) 4 (by decide)
    have n6 : ¬ o + 6 = q + 6 := hx 6 (by decide) 6 (by decide)
    have n8 : ¬ o + 6 = q + 8 := hx 6 (by decide) 8 (by decide)
    have n10 : ¬ o + 6 = q + 10 := hx 6 (by decide) 10 (by decide)
    have n12 : ¬ o + 6 = q + 12 := hx 6 (by decide) 12 (by decide)
    have n14 : ¬ o + 6 = q + 14 := hx 6 (by decide) 14 (by decide)
    have n16 : ¬ o + 6 = q + 16 := hx 6 (by decide) 16 (by decide)
    simp [a1, a2, n0, n2, n4, n6, n8, n10, n12, n14, n16]
  by_cases r8 : p = q + 8 ∧ 0 ≤ i ∧ i < 120
  · obtain ⟨rfl, a1, a2⟩ := r8
    have n0 : ¬ o + 8 = q := hx 8 (by decide) 0 (by decide)
    have n2 : ¬ o + 8 = q + 2 := hx 8 (by decide) 2 (by decide)
    have n4 : ¬ o + 8 = q + 4 := hx 8 (by decide) 4 (by decide)
    have n6 : ¬ o + 8 = q + 6 := hx 8 (by decide) 6 (by decide)
    have n8 : ¬ o + 8 = q + 8 := hx 8 (by decide) 8 (by decide)
    have n10 : ¬ o + 8 = q + 10 := hx 8 (by decide) 10 (by decide)
    have n12 : ¬ o + 8 = q + 12 := hx 8 (by decide) 12 (by decide)
    have n14 : ¬ o + 8 = q + 14 := hx 8 (by decide) 14 (by decide)
    have n16 : ¬ o + 8 = q + 16 := hx 8 (by decide) 16 (by decide)
    simp [a1, a2, n0, n2, n4, n6, n8, n10, n12, n14, n16]
  by_cases r10 : p = q + 10 ∧ 0 ≤ i ∧ i < 10
  · obtain ⟨rfl, a1, a2⟩ := r10
    have n0 : ¬ o + 10 = q := hx 10 (by decide) 0 (by decide)
    have n2 : ¬ o + 10 = q + 2 := hx 10 (by decide) 2 (by decide)
    have n4 : ¬ o + 10 = q + 4 := hx 10 (by decide) 4 (by decide)
    have n6 : ¬ o + 10 = q + 6 := hx 10 (by decide) 6 (by decide)
    have n8 : ¬ o + 10 = q + 8 := hx 10 (by decide) 8 (by decide)
    have n10 : ¬ o + 10 = q + 10 := hx 10 (by decide) 10 (by decide)
    have n12 : ¬ o + 10 = q + 12 := hx 10 (by decide) 12 (by decide)
    have n14 : ¬ o + 10 = q + 14 := hx 10 (by decide) 14 (by decide)
    have n16 : ¬ o + 10 = q + 16 := hx 10 (by decide) 16 (by decide)
    simp [a1, a2, n0, n2, n4, n6, n8, n10, n12, n14, n16]
  by_cases r12 : p = q + 12 ∧ 0 ≤ i ∧ i < 25
  · obtain ⟨rfl, a1, a2⟩ := r12
    have n0 : ¬ o + 12 = q := hx 12 (by decide) 0 (by decide)
    have n2 : ¬ o + 12 = q + 2 := hx 12 (by decide) 2 (by decide)
    have n4 : ¬ o + 12 = q + 4 := hx 12 (by decide) 4 (by decide)
    have n6 : ¬ o + 12 = q + 6 := hx 12 (by decide) 6 (by decide)
    have n8 : ¬ o + 12 = q + 8 := hx 12 (by decide) 8 (by decide)
    have n10 : ¬ o + 12 = q + 10 := hx 12 (by decide) 10 (by decide)
    have n12 : ¬ o + 12 = q + 12 := hx 12 (by decide) 12 (by decide)
    have n14 : ¬ o + 12 = q + 14 := hx 12 (by decide) 14 (by decide)
    have n16 : ¬ o + 12 = q + 16 := hx 12 (by decide) 16 (by decide)
    simp [a1, a2, n0, n2, n4, n6, n8, n10, n12, n14, n16]
  by_cases r14 : p = q + 14 ∧ 0 ≤ i ∧ i < 25
  · obtain ⟨rfl, a1, a2⟩ := r14
    have n0 : ¬ o + 14 = q := hx 14 (by decide) 0 (by decide)
    have n2 : ¬ o + 14 = q + 2 := hx 14 (by decide) 2 (by decide)
    have n4 : ¬ o + 14 = q + 4 := hx 14 (by decide) 4 (by decide)
    have n6 : ¬ o + 14 = q + 6 := hx 14 (by decide) 6 (by decide)
    have n8 : ¬ o + 14 = q + 8 := hx 14 (by decide) 8 (by decide)
    have n10 : ¬ o + 14 = q + 10 := hx 14 (by decide) 10 (by decide)
    have n12 : ¬ o + 14 = q + 12 := hx 14 (by decide) 12 (by decide)
    have n14 : ¬ o + 14 = q + 14 := hx 14 (by decide) 14 (by decide)
    have n16 : ¬ o + 14 = q + 16 := hx 14 (by decide) 16 (by decide)
    simp [a1, a2, n0, n2, n4, n6, n8, n10, n12, n14, n16]
  by_cases r16 : p = q + 16 ∧ 0 ≤ i ∧ i < 25
  · obtain ⟨rfl, a1, a2⟩ := r16
    have n0 : ¬ o + 16 = q := hx 16 (by decide) 0 (by decide)
    have n2 : ¬ o + 16 = q + 2 := hx 16 (by decide) 2 (by decide)
    have n4 : ¬ o + 16 = q + 4 := hx 16 (by decide) 4 (by decide)
    have n6 : ¬ o + 16 = q + 6 := hx 16 (by decide) 6 (by decide)
    have n8 : ¬ o + 16 = q + 8 := hx 16 (by decide) 8 (by decide)
    have n10 : ¬ o + 16 = q + 10 := hx 16 (by decide) 10 (by decide)
    have n12 : ¬ o + 16 = q + 12 := hx 16 (by decide) 12 (by decide)
    have n14 : ¬ o + 16 = q + 14 := hx 16 (by decide) 14 (by decide)
    have n16 : ¬ o + 16 = q + 16 := hx 16 (by decide) 16 (by decide)
    simp [a1, a2, n0, n2, n4, n6, n8, n10, n12, n14, n16]
  simp (disch := first | assumption | omega) only [if_neg]
theorem s_pcopy {o : Nat} (hp : isPc g q) (ho : isPc g o) (hqo : q + 17 ≤ o ∨ o + 17 ≤ q) (h01 : I o 0 = 0 ∨ I o 0 = 1) : cl 2 [.ref q, .ref o] (mk g I) = some (.inl none, mk g (cpP I q o)) := by
  obtain ⟨p_0, ⟨p_1, q_1, p_2⟩, ⟨p_3, q_3, p_4⟩, ⟨p_5, q_5, p_6⟩, ⟨p_7, q_7, p_8⟩, ⟨p_9, q_9, p_10⟩, ⟨p_11, q_11, p_12⟩, ⟨p_13, q_13, p_14⟩, ⟨p_15, q_15, p_16⟩⟩ := hp
  obtain ⟨u_0, ⟨u_1, v_1, u_2⟩, ⟨u_3, v_3, u_4⟩, ⟨u_5, v_5, u_6⟩, ⟨u_7, v_7, u_8⟩, ⟨u_9, v_9, u_10⟩, ⟨u_11, v_11, u_12⟩, ⟨u_13, v_13, u_14⟩, ⟨u_15, v_15, u_16⟩⟩ := ho
  have h01' : upd2 I q 0 (I o 0) o 1 = I o 1 := upd2_p (by omega)
  have e1 : gn g (q + 1 + 1) = gn g (o + 1 + 1) := by omega
  have e3 : gn g (q + 3 + 1) = gn g (o + 3 + 1) := by omega
  have e5 : gn g (q + 5 + 1) = gn g (o + 5 + 1) := by omega
  have e7 : gn g (q + 7 + 1) = gn g (o + 7 + 1) := by omega
  have e9 : gn g (q + 9 + 1) = gn g (o + 9 + 1) := by omega
  have e11 : gn g (q + 11 + 1) = gn g (o + 11 + 1) := by omega
  have e13 : gn g (q + 13 + 1) = gn g (o + 13 + 1) := by omega
  have e15 : gn g (q + 15 + 1) = gn g (o + 15 + 1) := by omega
  simp (maxSteps := 2000000) (disch := first | assumption | omega) only [aft_v, aft_n, aft_t, Nat.add_assoc, Nat.reduceAdd, if_true, if_false, not_true_eq_false, not_false_eq_true, Classical.not_not, Int.reduceAdd, Int.reduceSub, Int.reduceMul, Int.reduceNeg, Int.reduceLT, Int.reduceLE, Int.reduceEq, Int.add_zero, Int.zero_add, Int.sub_zero, c_2, w_2_0, w_2_1, w_2_2, w_2_3, w_2_4, w_2_5, w_2_6, w_2_7, w_2_8, s_row_copy]
  refine ans_m ?_
  rw [show gn g (q + 2) = 40 from p_2, show gn g (q + 4) = 40 from p_4, show gn g (q + 6) = 120 from p_6, show gn g (q + 8) = 120 from p_8, show gn g (q + 10) = 10 from p_10, show gn g (q + 12) = 25 from p_12, show gn g (q + 14) = 25 from p_14, show gn g (q + 16) = 25 from p_16]
  rw [h01']
  exact cp_chain hqo
end CP
