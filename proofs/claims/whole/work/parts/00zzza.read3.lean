/-! The class reads events. -/
def evA (q : Nat) (P : PT) (J : Mm) : Prop := J q 0 = pR P ∧ J q 1 = pE P + 1 ∧ (∀ e, 0 ≤ e → e < pE P → J (q + 2) e = pSz P e ∧ J (q + 4) e = pRe P e ∧ ∀ k, 0 ≤ k → k < pSz P e → J (q + 6) (e * 3 + k) = pKy P e k ∧ J (q + 8) (e * 3 + k) = pSe P e k) ∧ (∀ w, 0 ≤ w → w < 10 → J (q + 10) w = pW P w) ∧ (∀ a b, 1 ≤ a → a ≤ 5 → 1 ≤ b → b ≤ 5 → ¬ a = b → J (q + 12) ((a - 1) * 5 + b - 1) = pLo P a b ∧ J (q + 14) ((a - 1) * 5 + b - 1) = pHi P a b ∧ J (q + 16) ((a - 1) * 5 + b - 1) = pLi P a b)
def evN (q : Nat) (P : PT) (m r : Int) (ky se : Int → Int) (J : Mm) : Prop := J (q + 2) (pE P) = m ∧ J (q + 4) (pE P) = r ∧ ∀ k, 0 ≤ k → k < m → J (q + 6) (pE P * 3 + k) = ky k ∧ J (q + 8) (pE P * 3 + k) = se k
/-- within an event -/
def evE (B : Int → Int) (n : Int) (t q : Nat) (P : PT) (m r : Int) (ky se : Int → Int) (b : Int) (I J : Mm) : Prop := (∀ p, ¬ p = t → (p < q ∨ q + 16 < p) → J p = I p) ∧ J t 3 = -1 ∧ lx B n t b J ∧ pB J q ∧ evA q P J ∧ evN q P m r ky se J
theorem ev_c {q : Nat} {P : PT} {m r : Int} {ky se : Int → Int} {J K : Mm} (h : ∀ p, q ≤ p → p ≤ q + 16 → K p = J p) (hA : evA q P J) (hN : evN q P m r ky se J) : evA q P K ∧ evN q P m r ky se K := by
  unfold evA at hA ⊢
  unfold evN at hN ⊢
  rw [h q (by omega) (by omega), h (q + 2) (by omega) (by omega), h (q + 4) (by omega) (by omega), h (q + 6) (by omega) (by omega), h (q + 8) (by omega) (by omega), h (q + 10) (by omega) (by omega), h (q + 12) (by omega) (by omega), h (q + 14) (by omega) (by omega), h (q + 16) (by omega) (by omega)]
  exact ⟨hA, hN⟩
theorem evE.ok {B : Int → Int} {n : Int} {t q : Nat} {P : PT} {m r : Int} {ky se : Int → Int} {b c : Int} {I J K : Mm} (hd : q + 17 ≤ t) (h : evE B n t q P m r ky se b I J) (h' : okT B n t c J K) : evE B n t q P m r ky se c I K := by
  have hp : ∀ p, q ≤ p → p ≤ q + 16 → K p = J p := fun p _ _ => h'.1 p (by omega)
  have hh := ev_c hp h.2.2.2.2.1 h.2.2.2.2.2
  exact ⟨fun p h1 h2 => (h'.1 p h1).trans (h.1 p h1 h2), h'.2.1.trans h.2.1, h'.2.2, pB_c hp h.2.2.2.1, hh.1, hh.2⟩
theorem evE.er {B : Int → Int} {n : Int} {t q : Nat} {P : PT} {m r : Int} {ky se : Int → Int} {b : Int} {e : Int × Int} {I J K : Mm} (hd : q + 17 ≤ t) (h : evE B n t q P m r ky se b I J) (h' : erT t e J K) : per t q e I K := by
  have hp : ∀ p, q ≤ p → p ≤ q + 16 → K p = J p := fun p _ _ => h'.1 p (by omega)
  exact ⟨fun p h1 h2 => (h'.1 p h1).trans (h.1 p h1 h2), h'.2.1, h'.2.2, pB_c hp h.2.2.2.1⟩
theorem evA_u {q : Nat} {P : PT} {J : Mm} {p : Nat} {i v : Int} (h : evA q P J) (hB : pB J q) (hp : ((p = q + 2 ∨ p = q + 4) ∧ i = pE P) ∨ ((p = q + 6 ∨ p = q + 8) ∧ pE P * 3 ≤ i)) : evA q P (upd2 J p i v) := by
  obtain ⟨h0, h1, h2, h3, h4⟩ := h
  have ex : ∀ s, ¬ s = p → upd2 J p i v s = J s := fun s hs => by funext j; exact upd2_p hs
  have y2 := hB.2.2.1
  unfold evA
  rw [ex q (by omega), ex (q + 10) (by omega), ex (q + 12) (by omega), ex (q + 14) (by omega), ex (q + 16) (by omega)]
  refine ⟨h0, h1, fun e e0 e1 => ?_, h3, h4⟩
  obtain ⟨a1, a2, a3⟩ := h2 e e0 e1
  have z := y2 e
  have u2 : upd2 J p i v (q + 2) e = J (q + 2) e := if_neg (fun c => by omega)
  have u4 : upd2 J p i v (q + 4) e = J (q + 4) e := if_neg (fun c => by omega)
  refine ⟨u2.trans a1, u4.trans a2, fun k k0 k1 => ?_⟩
  have u6 : upd2 J p i v (q + 6) (e * 3 + k) = J (q + 6) (e * 3 + k) := if_neg (fun c => by omega)
  have u8 : upd2 J p i v (q + 8) (e * 3 + k) = J (q + 8) (e * 3 + k) := if_neg (fun c => by omega)
  rw [u6, u8]
  exact a3 k k0 k1
theorem gNu_ok {B : Int → Int} {n lo hi fi b : Int} {x : Int × Int} (h : gNu B n lo hi fi b = .inr x) : lo ≤ x.1 ∧ x.1 ≤ hi ∧ fi ≤ x.1 := by
  unfold gNu at h
  by_cases k2 : tkK B n b = 2
  · rw [if_pos k2] at h
    by_cases hw : lo ≤ tkN B n 1000 b ∧ tkN B n 1000 b ≤ hi
    · rw [if_pos hw] at h
      by_cases hf : fi ≤ tkN B n 1000 b
      · rw [if_pos hf] at h
        have h := Sum.inr.inj h
        rw [← h]
        exact ⟨hw.1, hw.2, hf⟩
      · rw [if_neg hf] at h; cases h
    · rw [if_neg hw] at h; cases h
  · rw [if_neg k2] at h; cases h
/-- keys that are read ascend -/
theorem gKl_ok {B : Int → Int} {n : Int} : ∀ (m : Nat) (k pr : Int) (ky : Int → Int) (b : Int) (x : Int × (Int → Int) × Int), 0 ≤ k → k + m = 3 → (∀ i, 0 ≤ i → i < k → 21 ≤ ky i ∧ ky i ≤ 108) → (∀ i, 0 ≤ i → i + 1 < k → ky i < ky (i + 1)) → (1 ≤ k → ky (k - 1) = pr) → gKl B n m k pr ky b = .inr x → (1 ≤ x.1 ∧ x.1 ≤ 3) ∧ (∀ i, 0 ≤ i → i < x.1 → 21 ≤ x.2.1 i ∧ x.2.1 i ≤ 108) ∧ (∀ i, 0 ≤ i → i + 1 < x.1 → x.2.1 i < x.2.1 (i + 1)) := by
  intro m
  induction m with
  | zero => intro k pr ky b x k0 km h1 h2 h3 h; simp only [gKl] at h; cases h
  | succ m ih =>
    intro k pr ky b x k0 km h1 h2 h3 h
    simp only [gKl] at h
    obtain ⟨z, hz⟩ : ∃ z, z = gNu B n 21 108 (pr + 1) b := ⟨_, rfl⟩
    rw [← hz] at h
    cases z with
    | inl e => cases h
    | inr vb =>
      have hv := gNu_ok hz.symm
      have h : (if tkK B n vb.2 = 2 then gKl B n m (k + 1) vb.1 (fun i => if i = k then vb.1 else ky i) vb.2 else .inr (k + 1, (fun i => if i = k then vb.1 else ky i), vb.2)) = Sum.inr x := h
      have n1 : ∀ i, 0 ≤ i → i < k + 1 → 21 ≤ (fun i => if i = k then vb.1 else ky i) i ∧ (fun i => if i = k then vb.1 else ky i) i ≤ 108 := fun i i0 i1 => by
        show 21 ≤ (if i = k then vb.1 else ky i) ∧ (if i = k then vb.1 else ky i) ≤ 108
        by_cases hi : i = k
        · rw [if_pos hi]; omega
        · rw [if_neg hi]; exact h1 i i0 (by omega)
      have n2 : ∀ i, 0 ≤ i → i + 1 < k + 1 → (fun i => if i = k then vb.1 else ky i) i < (fun i => if i = k then vb.1 else ky i) (i + 1) := fun i i0 i1 => by
        show (if i = k then vb.1 else ky i) < (if i + 1 = k then vb.1 else ky (i + 1))
        rw [if_neg (by omega)]
        by_cases hi : i + 1 = k
        · rw [if_pos hi]
          have := h3 (by omega)
          rw [show k - 1 = i by omega] at this
          omega
        · rw [if_neg hi]; exact h2 i i0 (by omega)
      by_cases hk : tkK B n vb.2 = 2
      · rw [if_pos hk] at h
        exact ih (k + 1) vb.1 _ vb.2 x (by omega) (by omega) n1 n2 (fun _ => if_pos (by omega)) h
      · rw [if_neg hk] at h
        have h := Sum.inr.inj h
        rw [← h]
        exact ⟨⟨by omega, by omega⟩, n1, n2⟩
section RE
variable {g : Gm} {I J : Mm} {t q : Nat} {B : Int → Int} {n b : Int} {P : PT}
theorem l_readKeys (hT : isTx g t) (hq : isPc g q) (hO : txB B n) (hd : q + 17 ≤ t) (he : 0 ≤ pE P ∧ pE P < 40) : ∀ (m : Nat) (k pr : Int) (ky : Int → Int) (b : Int) (J : Mm), 0 ≤ k → k + m = 3 → 20 ≤ pr → pr ≤ 108 → evE B n t q P k 0 ky (fun _ => 31) b I J →
    (∃ e K, gKl B n m k pr ky b = .inl e ∧ rn 79 3 [some (.ref t), some (.ref q), some (.int (iI (pE P))), some (.int (iI pr)), some (.int (iI k))] [] (mk g J) = some (.inl (some (.int (iI 0))), mk g K) ∧ per t q e I K) ∨ ∃ x K, gKl B n m k pr ky b = .inr x ∧ b < x.2.2 ∧ rn 79 3 [some (.ref t), some (.ref q), some (.int (iI (pE P))), some (.int (iI pr)), some (.int (iI k))] [] (mk g J) = some (.inl (some (.int (iI 1))), mk g K) ∧ evE B n t q P x.1 0 x.2.1 (fun _ => 31) x.2.2 I K := by
  have t4 := hT.1
  have q0 := hq.1
  have o1 : ¬ (1 : Int) = 0 := by decide
  intro m
  induction m with
  | zero =>
    intro k pr ky b J k0 km p0 p1 h
    have k3 : k = 3 := by omega
    obtain ⟨K, j1, j2⟩ := s_fail (g := g) (c := -5) hT h.2.2.1
    refine Or.inl ⟨_, K, rfl, ?_, h.er hd j2⟩
    rw [k3]
    simp (maxSteps := 2000000) (disch := first | assumption | omega) only [aft_v, aft_n, aft_t, Nat.add_assoc, Nat.reduceAdd, if_true, if_false, not_true_eq_false, not_false_eq_true, Classical.not_not, Int.reduceAdd, Int.reduceSub, Int.reduceMul, Int.reduceNeg, Int.reduceLT, Int.reduceLE, Int.reduceEq, Int.add_zero, Int.zero_add, Int.sub_zero, w_79_3, w_79_4, w_79_5, j1, show ¬ (3 : Int) < 3 by decide]
  | succ m ih =>
    intro k pr ky b J k0 km p0 p1 h
    rcases s_takeNumber (lo := 21) (hi := 108) (fi := pr + 1) hT hO h.2.2.1 (by decide) (by decide) (by omega) (by decide) with ⟨e, K, g1, j1, j2⟩ | ⟨v, b1, K, g1, hv, hb1, j1, j2, j3⟩
    · refine Or.inl ⟨e, K, by simp only [gKl]; rw [g1]; rfl, ?_, h.er hd j2⟩
      simp (maxSteps := 2000000) (disch := first | assumption | omega) only [aft_v, aft_n, aft_t, Nat.add_assoc, Nat.reduceAdd, if_true, if_false, not_true_eq_false, not_false_eq_true, Classical.not_not, Int.reduceAdd, Int.reduceSub, Int.reduceMul, Int.reduceNeg, Int.reduceLT, Int.reduceLE, Int.reduceEq, Int.add_zero, Int.zero_add, Int.sub_zero, w_79_3, w_79_6, w_79_7, w_79_8, j1, show k < 3 by omega]
    have hK := h.ok hd j2
    have pn := s_putNote (g := g) (I := K) (q := q) (e := pE P) (k := k) (v := v) hq he (by omega)
    obtain ⟨L, hL⟩ : ∃ L, L = upd2 (upd2 (upd2 K (q + 6) (pE P * 3 + k) v) (q + 8) (pE P * 3 + k) 31) (q + 2) (pE P) (k + 1) := ⟨_, rfl⟩
    rw [← hL] at pn
    have lt : L t = K t := by rw [hL]; funext i; rw [upd2_p (by omega), upd2_p (by omega), upd2_p (by omega)]
    have lt8 : L t 8 = v := by rw [lt]; exact j3
    have hLs : lx B n t b1 L := lx_w lt (by rw [hL]; funext i; rw [upd2_p (by omega), upd2_p (by omega), upd2_p (by omega)]) hK.2.2.1
    have l4 := hLs.2.2.1
    have hkb := tkK_b (B := B) (n := n) (b := b1)
    have hE : evE B n t q P (k + 1) 0 (fun i => if i = k then v else ky i) (fun _ => 31) b1 I L := by
      obtain ⟨e1, e2, e3, e4, e5, e6, e7, e8⟩ := hK
      have b1' := pB_u (J := K) (p := q + 6) (i := pE P * 3 + k) (v := v) e4 (by omega)
      have a1 := evA_u (p := q + 6) (i := pE P * 3 + k) (v := v) e5 e4 (by omega)
      have b2' := pB_u (p := q + 8) (i := pE P * 3 + k) (v := 31) b1' (by omega)
      have a2 := evA_u (p := q + 8) (i := pE P * 3 + k) (v := 31) a1 b1' (by omega)
      have b3' := pB_u (p := q + 2) (i := pE P) (v := k + 1) b2' (by omega)
      have a3 := evA_u (p := q + 2) (i := pE P) (v := k + 1) a2 b2' (by omega)
      rw [← hL] at b3' a3
      have L6 : ∀ j, L (q + 6) j = if j = pE P * 3 + k then v else K (q + 6) j := fun j => by
        rw [hL, upd2_p (by omega), upd2_p (by omega)]
        by_cases hj : j = pE P * 3 + k
        · rw [hj, upd2_at, if_pos rfl]
        · rw [upd2_i hj, if_neg hj]
      have L8 : ∀ j, L (q + 8) j = if j = pE P * 3 + k then 31 else K (q + 8) j := fun j => by
        rw [hL, upd2_p (by omega)]
        by_cases hj : j = pE P * 3 + k
        · rw [hj, upd2_at, if_pos rfl]
        · rw [upd2_i hj, if_neg hj, upd2_p (by omega)]
      refine ⟨fun p h1 h2 => ?_, by rw [lt]; exact e2, hLs, b3', a3, by rw [hL, upd2_at], ?_, fun i i0 i1 => ?_⟩
      · rw [hL]; funext i
        rw [upd2_p (by omega), upd2_p (by omega), upd2_p (by omega), e1 p h1 h2]
      · rw [hL, upd2_p (by omega), upd2_p (by omega), upd2_p (by omega)]; exact e7
      · rw [L6, L8]
        show _ = (if i = k then v else ky i) ∧ _ = (31 : Int)
        by_cases hi : i = k
        · rw [hi, if_pos rfl, if_pos rfl, if_pos rfl]
          exact ⟨rfl, rfl⟩
        · rw [if_neg hi, if_neg (by omega), if_neg (by omega)]
          exact e8 i i0 (by omega)
    have eg : gKl B n (m + 1) k pr ky b = if tkK B n b1 = 2 then gKl B n m (k + 1) v (fun i => if i = k then v else ky i) b1 else .inr (k + 1, (fun i => if i = k then v else ky i), b1) := by simp only [gKl]; rw [g1]; rfl
    have start : rn 79 3 [some (.ref t), some (.ref q), some (.int (iI (pE P))), some (.int (iI pr)), some (.int (iI k))] [] (mk g J) = rn 79 1 [some (.ref t), some (.ref q), some (.int (iI (pE P))), some (.int (iI v)), some (.int (iI (k + 1)))] [] (mk g L) := by
      simp (maxSteps := 2000000) (disch := first | assumption | omega) only [aft_v, aft_n, aft_t, Nat.add_assoc, Nat.reduceAdd, if_true, if_false, not_true_eq_false, not_false_eq_true, Classical.not_not, Int.reduceAdd, Int.reduceSub, Int.reduceMul, Int.reduceNeg, Int.reduceLT, Int.reduceLE, Int.reduceEq, Int.add_zero, Int.zero_add, Int.sub_zero, w_79_3, w_79_6, w_79_7, w_79_9, w_79_10, j1, show k < 3 by omega, o1, j3, pn, lt8]
    rw [start, eg]
    by_cases hk : tkK B n b1 = 2
    · rw [if_pos hk]
      have go : rn 79 1 [some (.ref t), some (.ref q), some (.int (iI (pE P))), some (.int (iI v)), some (.int (iI (k + 1)))] [] (mk g L) = rn 79 3 [some (.ref t), some (.ref q), some (.int (iI (pE P))), some (.int (iI v)), some (.int (iI (k + 1)))] [] (mk g L) := by
        simp (maxSteps := 2000000) (disch := first | assumption | omega) only [aft_v, aft_n, aft_t, Nat.add_assoc, Nat.reduceAdd, if_true, if_false, not_true_eq_false, not_false_eq_true, Classical.not_not, Int.reduceAdd, Int.reduceSub, Int.reduceMul, Int.reduceNeg, Int.reduceLT, Int.reduceLE, Int.reduceEq, Int.add_zero, Int.zero_add, Int.sub_zero, w_79_1, w_79_2, l4, hk, show ¬ k + 1 = 0 by omega]
      rw [go]
      rcases ih (k + 1) v _ b1 L (by omega) (by omega) (by omega) (by omega) hE with ⟨e, M, m1, m2, m3⟩ | ⟨x, M, m1, m2, m3, m4⟩
      · exact Or.inl ⟨e, M, m1, m2, m3⟩
      · exact Or.inr ⟨x, M, m1, by omega, m3, m4⟩
    · rw [if_neg hk]
      refine Or.inr ⟨_, L, rfl, hb1, ?_, hE⟩
      simp (maxSteps := 2000000) (disch := first | assumption | omega) only [aft_v, aft_n, aft_t, Nat.add_assoc, Nat.reduceAdd, if_true, if_false, not_true_eq_false, not_false_eq_true, Classical.not_not, Int.reduceAdd, Int.reduceSub, Int.reduceMul, Int.reduceNeg, Int.reduceLT, Int.reduceLE, Int.reduceEq, Int.add_zero, Int.zero_add, Int.sub_zero, w_79_1, w_79_2, w_79_11, l4, hk, show ¬ k + 1 = 0 by omega]
theorem s_readKeys (hT : isTx g t) (hq : isPc g q) (hO : txB B n) (hd : q + 17 ≤ t) (he : 0 ≤ pE P ∧ pE P < 40) (h : evE B n t q P 0 0 (fun _ => 0) (fun _ => 31) b I J) :
    (∃ e K, gKl B n 3 0 20 (fun _ => 0) b = .inl e ∧ cl 79 [.ref t, .ref q, .int (iI (pE P))] (mk g J) = some (.inl (some (.int (iI 0))), mk g K) ∧ per t q e I K) ∨ ∃ x K, gKl B n 3 0 20 (fun _ => 0) b = .inr x ∧ b < x.2.2 ∧ cl 79 [.ref t, .ref q, .int (iI (pE P))] (mk g J) = some (.inl (some (.int (iI 1))), mk g K) ∧ evE B n t q P x.1 0 x.2.1 (fun _ => 31) x.2.2 I K := by
  have hh := l_readKeys hT hq hO hd he 3 0 20 (fun _ => 0) b J (by decide) (by decide) (by decide) (by decide) h
  have start : cl 79 [.ref t, .ref q, .int (iI (pE P))] (mk g J) = rn 79 3 [some (.ref t), some (.ref q), some (.int (iI (pE P))), some (.int (iI 20)), some (.int (iI 0))] [] (mk g J) := by
    simp (maxSteps := 2000000) (disch := first | assumption | omega) only [aft_v, aft_n, aft_t, Nat.add_assoc, Nat.reduceAdd, if_true, if_false, not_true_eq_false, not_false_eq_true, Classical.not_not, Int.reduceAdd, Int.reduceSub, Int.reduceMul, Int.reduceNeg, Int.reduceLT, Int.reduceLE, Int.reduceEq, Int.add_zero, Int.zero_add, Int.sub_zero, c_79, w_79_0, w_79_1]
  rw [start]
  exact hh
theorem s_readRest {m : Int} {ky : Int → Int} (hT : isTx g t) (hq : isPc g q) (hO : txB B n) (hd : q + 17 ≤ t) (he : 0 ≤ pE P ∧ pE P < 40) (hs : ∀ p, 3 ≤ p → p ≤ 20 → isTs g I p) (hx : 64 ≤ q) (h : evE B n t q P m 0 ky (fun _ => 31) b I J) :
    (∃ e K, gRe B n b = .inl e ∧ cl 80 [.ref t, .ref q, .int (iI (pE P))] (mk g J) = some (.inl (some (.int (iI 0))), mk g K) ∧ per t q e I K) ∨ ∃ r c K, gRe B n b = .inr (r, c) ∧ b ≤ c ∧ (0 ≤ r ∧ r ≤ 9) ∧ cl 80 [.ref t, .ref q, .int (iI (pE P))] (mk g J) = some (.inl (some (.int (iI 1))), mk g K) ∧ evE B n t q P m r ky (fun _ => 31) c I K := by
  have t4 := hT.1
  have o1 : ¬ (1 : Int) = 0 := by decide
  have w := s_isWord' hT hO h.2.2.1 (isTs_c (h.1 _ (by omega) (by omega)) (hs 9 (by decide) (by decide)))
  have hq' := hq
  obtain ⟨p_0, ⟨p_1, q_1, p_2⟩, ⟨p_3, q_3, p_4⟩, ⟨p_5, q_5, p_6⟩, ⟨p_7, q_7, p_8⟩, ⟨p_9, q_9, p_10⟩, ⟨p_11, q_11, p_12⟩, ⟨p_13, q_13, p_14⟩, ⟨p_15, q_15, p_16⟩⟩ := hq
  by_cases hw : isW B n b 9
  · rw [wdS_y hw] at w
    obtain ⟨K, j1, j2, _⟩ := s_scan2 hT hO h.2.2.1
    have hK := h.ok hd j2
    have hb := lx_b h.2.2.1 hO
    have hk : tkK B n b = 1 := hw.1
    have hb' := hb.2.2.2.2.2 (by omega)
    have eg : gRe B n b = gNu B n 0 9 0 (tkE B n b) := by unfold gRe; rw [wdS_y hw, if_neg o1]
    rw [eg]
    rcases s_takeNumber (lo := 0) (hi := 9) (fi := 0) hT hO hK.2.2.1 (by decide) (by decide) (by decide) (by decide) with ⟨e, L, g1, l1, l2⟩ | ⟨v, b1, L, g1, hv, hb1, l1, l2, l3⟩
    · refine Or.inl ⟨e, L, g1, ?_, hK.er hd l2⟩
      simp (maxSteps := 2000000) (disch := first | assumption | omega) only [aft_v, aft_n, aft_t, Nat.add_assoc, Nat.reduceAdd, if_true, if_false, not_true_eq_false, not_false_eq_true, Classical.not_not, Int.reduceAdd, Int.reduceSub, Int.reduceMul, Int.reduceNeg, Int.reduceLT, Int.reduceLE, Int.reduceEq, Int.add_zero, Int.zero_add, Int.sub_zero, c_80, w_80_0, w_80_1, w_80_3, w_80_4, w_80_5, w_80_6, w, o1, j1, l1]
    have hL := hK.ok hd l2
    have qp := s_row_put (g := g) (I := L) (p := q + 3) (i := pE P) (v := v) p_3 (by omega) (by omega)
    refine Or.inr ⟨v, b1, upd2 L (q + 4) (pE P) v, g1, by omega, ⟨hv.1, hv.2.1⟩, ?_, ?_⟩
    · simp (maxSteps := 2000000) (disch := first | assumption | omega) only [aft_v, aft_n, aft_t, Nat.add_assoc, Nat.reduceAdd, if_true, if_false, not_true_eq_false, not_false_eq_true, Classical.not_not, Int.reduceAdd, Int.reduceSub, Int.reduceMul, Int.reduceNeg, Int.reduceLT, Int.reduceLE, Int.reduceEq, Int.add_zero, Int.zero_add, Int.sub_zero, c_80, w_80_0, w_80_1, w_80_3, w_80_4, w_80_5, w_80_7, w_80_8, w, o1, j1, l1, l3, qp]
    · obtain ⟨e1, e2, e3, e4, e5, e6, e7, e8⟩ := hL
      have lt : ∀ p, ¬ p = q + 4 → upd2 L (q + 4) (pE P) v p = L p := fun p hp => by funext i; exact upd2_p hp
      refine ⟨fun p h1 h2 => by rw [lt p (by omega), e1 p h1 h2], by rw [lt t (by omega)]; exact e2, lx_w (lt t (by omega)) (lt _ (by omega)) e3, pB_u e4 (by omega), evA_u e5 e4 (by omega), ?_, upd2_at, ?_⟩
      · rw [lt (q + 2) (by omega)]; exact e6
      · rw [lt (q + 6) (by omega), lt (q + 8) (by omega)]; exact e8
  · rw [wdS_n hw] at w
    refine Or.inr ⟨0, b, J, by unfold gRe; rw [wdS_n hw, if_pos rfl], Int.le_refl _, by decide, ?_, h⟩
    simp (maxSteps := 2000000) (disch := first | assumption | omega) only [aft_v, aft_n, aft_t, Nat.add_assoc, Nat.reduceAdd, if_true, if_false, not_true_eq_false, not_false_eq_true, Classical.not_not, Int.reduceAdd, Int.reduceSub, Int.reduceMul, Int.reduceNeg, Int.reduceLT, Int.reduceLE, Int.reduceEq, Int.add_zero, Int.zero_add, Int.sub_zero, c_80, w_80_0, w_80_1, w_80_2, w]
end RE
