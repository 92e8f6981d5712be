/-! Bytes are appended, by both. -/
theorem by_x (x : Int32) (s : Nat) (hs : s = 0 ∨ s = 8 ∨ s = 16 ∨ s = 24) : (x >>> (Int32.ofNat s &&& 31)) &&& 255 = ((x.toUInt32 >>> ((Int32.ofNat s).toUInt32 &&& Int32.toUInt32 31)).toInt32) &&& 255 := by
  rcases hs with rfl | rfl | rfl | rfl
  all_goals
    apply Int32.toBitVec_inj.mp
    apply BitVec.eq_of_getLsbD_eq
    intro i hi
    simp only [Int32.toBitVec_and, BitVec.getLsbD_and]
    by_cases h8 : i < 8
    · congr 1
      simp
      try (rw [BitVec.getLsbD_sshiftRight, if_pos (by omega), decide_eq_false (by omega)]; rfl)
    · have h255 : (255 : Int32).toBitVec.getLsbD i = false := by
        have key : ∀ j : Fin 32, 8 ≤ j.val → (255 : Int32).toBitVec.getLsbD j.val = false := by decide
        exact key ⟨i, hi⟩ (by show 8 ≤ i; omega)
      rw [h255]
      simp
/-- byte j of v -/
def bteS (v j : Int) : Int := andI (ushrI v (24 - 8 * j)) 255
theorem by_eq {v j : Int} (h : 0 ≤ j ∧ j < 4) : andI (shrI v (24 - 8 * j)) 255 = bteS v j := by
  unfold bteS andI shrI ushrI
  rw [← iI_of, ← iI_of]
  congr 1
  rcases (show j = 0 ∨ j = 1 ∨ j = 2 ∨ j = 3 by omega) with rfl | rfl | rfl | rfl
  · exact by_x (iI v) 24 (by decide)
  · exact by_x (iI v) 16 (by decide)
  · exact by_x (iI v) 8 (by decide)
  · exact by_x (iI v) 0 (by decide)
theorem and255_b {a : Int} : 0 ≤ andI a 255 ∧ andI a 255 ≤ 255 := by
  have h : (iI a &&& 255).toBitVec.toNat ≤ 255 := by
    rw [Int32.toBitVec_and, BitVec.toNat_and]
    exact Nat.and_le_right
  have e : andI a 255 = ((iI a &&& 255).toBitVec.toNat : Int) := by
    show (iI a &&& 255).toBitVec.toInt = _
    rw [BitVec.toInt_eq_toNat_cond]
    rw [if_pos (by omega)]
  omega
theorem bteS_b {v j : Int} : 0 ≤ bteS v j ∧ bteS v j ≤ 255 := and255_b
/-- twenty bytes of five numbers -/
def by5 (a b c d e k : Int) : Int := bteS (if k < 4 then a else if k < 8 then b else if k < 12 then c else if k < 16 then d else e) (k % 4)
theorem by5_b {a b c d e k : Int} : 0 ≤ by5 a b c d e k ∧ by5 a b c d e k ≤ 255 := bteS_b
/-- how many of the first bytes are told -/
def czS (f : Int → Int) (k : Nat) : Int := sumN (fun i => if f i = 0 then 0 else 1) k
def puN (B : Int → Int) (n : Int) (f : Int → Int) : Nat → (Int → Int) × Int
  | 0 => (B, n)
  | k + 1 => if f k = 0 then puN B n f k else (fun i => if i = (puN B n f k).2 then f k else (puN B n f k).1 i, (puN B n f k).2 + 1)
theorem czS_s {f : Int → Int} {k : Nat} : czS f (k + 1) = czS f k + if f k = 0 then 0 else 1 := rfl
theorem czS_b {f : Int → Int} {k : Nat} : 0 ≤ czS f k ∧ czS f k ≤ k := by
  induction k with
  | zero => exact ⟨Int.le_refl 0, Int.le_refl 0⟩
  | succ k ih =>
    rw [czS_s]
    by_cases h : f k = 0
    · rw [if_pos h]; omega
    · rw [if_neg h]; omega
theorem czS_m {f : Int → Int} {k l : Nat} (h : k ≤ l) : czS f k ≤ czS f l := by
  induction l with
  | zero => rw [show k = 0 by omega]; exact Int.le_refl _
  | succ l ih =>
    by_cases hk : k = l + 1
    · rw [hk]; exact Int.le_refl _
    · have := ih (by omega)
      rw [czS_s]
      by_cases h : f l = 0
      · rw [if_pos h]; omega
      · rw [if_neg h]; omega
theorem puN_n {B : Int → Int} {n : Int} {f : Int → Int} {k : Nat} : (puN B n f k).2 = n + czS f k := by
  induction k with
  | zero => show n = n + 0; omega
  | succ k ih =>
    rw [czS_s]
    by_cases h : f k = 0
    · rw [show puN B n f (k + 1) = puN B n f k from if_pos h, if_pos h]; omega
    · rw [show puN B n f (k + 1) = (fun i => if i = (puN B n f k).2 then f k else (puN B n f k).1 i, (puN B n f k).2 + 1) from if_neg h, if_neg h]
      show (puN B n f k).2 + 1 = _
      omega
theorem puN_tx {B : Int → Int} {n : Int} {f : Int → Int} (hO : txB B n) (hf : ∀ i, 0 ≤ f i ∧ f i ≤ 255) : ∀ k : Nat, n + czS f k ≤ 600 → txB (puN B n f k).1 (puN B n f k).2 := by
  intro k
  induction k with
  | zero => intro _; exact hO
  | succ k ih =>
    intro hk
    have hm := czS_m (f := f) (show k ≤ k + 1 by omega)
    have ih := ih (by omega)
    have hn := puN_n (B := B) (n := n) (f := f) (k := k)
    by_cases h : f k = 0
    · rw [show puN B n f (k + 1) = puN B n f k from if_pos h]; exact ih
    · rw [show puN B n f (k + 1) = (fun i => if i = (puN B n f k).2 then f k else (puN B n f k).1 i, (puN B n f k).2 + 1) from if_neg h]
      rw [czS_s, if_neg h] at hk
      have h1 := ih.1
      refine ⟨⟨by show 0 ≤ (puN B n f k).2 + 1; omega, by show (puN B n f k).2 + 1 ≤ 600; omega⟩, fun i i0 i1 => ?_⟩
      have i1 : i < (puN B n f k).2 + 1 := i1
      show 0 ≤ (if i = (puN B n f k).2 then f k else (puN B n f k).1 i) ∧ (if i = (puN B n f k).2 then f k else (puN B n f k).1 i) ≤ 255
      by_cases hi : i = (puN B n f k).2
      · rw [if_pos hi]; exact hf k
      · rw [if_neg hi]; exact ih.2 i i0 (by omega)
section AP
variable {g : Gm} {I J : Mm} {t x m : Nat} {B : Int → Int} {n : Int}
theorem s_bytesIn {v : Int} : cl 150 [.int (iI v)] (mk g I) = some (.inl (some (.int (iI (czS (bteS v) 4)))), mk g I) := by
  have step : ∀ (c s : Int) (j : Int), s = 24 - 8 * j → 0 ≤ s → s ≤ 24 → rn 150 1 [some (.int (iI v)), some (.int (iI c)), some (.int (iI s))] [] (mk g I) = rn 150 1 [some (.int (iI v)), some (.int (iI (c + if bteS v j = 0 then 0 else 1))), some (.int (iI (s + -8)))] [] (mk g I) := by
    intro c s j hs s0 s1
    have e : andI (ushrI v s) 255 = bteS v j := by rw [hs]; rfl
    have bb := bteS_b (v := v) (j := j)
    by_cases h : bteS v j = 0
    · rw [if_pos h]
      refine (w_150_1 (by first | assumption | omega) (by first | assumption | omega)).trans ?_
      refine (if_neg (by omega)).trans ?_
      refine (w_150_2 (by first | assumption | omega) (by first | assumption | omega)).trans ?_
      rw [e]
      refine (if_pos h).trans ?_
      simp (maxSteps := 2000000) (disch := first | assumption | omega) only [aft_v, aft_n, aft_t, Nat.add_assoc, Nat.reduceAdd, if_true, if_false, not_true_eq_false, not_false_eq_true, Classical.not_not, Int.reduceAdd, Int.reduceSub, Int.reduceMul, Int.reduceNeg, Int.reduceLT, Int.reduceLE, Int.reduceEq, Int.add_zero, Int.zero_add, Int.sub_zero, w_150_4, w_150_5]
    · rw [if_neg h]
      refine (w_150_1 (by first | assumption | omega) (by first | assumption | omega)).trans ?_
      refine (if_neg (by omega)).trans ?_
      refine (w_150_2 (by first | assumption | omega) (by first | assumption | omega)).trans ?_
      rw [e]
      refine (if_neg h).trans ?_
      simp (maxSteps := 2000000) (disch := first | assumption | omega) only [aft_v, aft_n, aft_t, Nat.add_assoc, Nat.reduceAdd, if_true, if_false, not_true_eq_false, not_false_eq_true, Classical.not_not, Int.reduceAdd, Int.reduceSub, Int.reduceMul, Int.reduceNeg, Int.reduceLT, Int.reduceLE, Int.reduceEq, Int.add_zero, Int.zero_add, Int.sub_zero, w_150_3, w_150_5]
  have s1 := step 0 24 0 (by decide) (by decide) (by decide)
  have s2 := step (0 + if bteS v 0 = 0 then 0 else 1) (24 + -8) 1 (by decide) (by decide) (by decide)
  have s3 := step ((0 + if bteS v 0 = 0 then 0 else 1) + if bteS v 1 = 0 then 0 else 1) (24 + -8 + -8) 2 (by decide) (by decide) (by decide)
  have s4 := step (((0 + if bteS v 0 = 0 then 0 else 1) + if bteS v 1 = 0 then 0 else 1) + if bteS v 2 = 0 then 0 else 1) (24 + -8 + -8 + -8) 3 (by decide) (by decide) (by decide)
  refine c_150.trans ?_
  refine (w_150_0).trans ?_
  rw [s1, s2, s3, s4]
  refine (w_150_1 (by first | assumption | omega) (by first | assumption | omega)).trans ?_
  refine (if_pos (by decide)).trans ?_
  exact w_150_6
/-- the first k bytes are there -/
def stA (t : Nat) (I : Mm) (f : Int → Int) (k : Nat) (J : Mm) : Prop := (∀ p, ¬ p = t → ¬ p = t + 2 → J p = I p) ∧ (∀ i, ¬ i = 1 → J t i = I t i) ∧ J (t + 2) = (puN (I (t + 2)) (I t 1) f k).1 ∧ J t 1 = (puN (I (t + 2)) (I t 1) f k).2
theorem s_addBytes {v : Int} {f : Int → Int} {k : Nat} (hT : isTx g t) (h0 : 0 ≤ I t 1) (hk : I t 1 + czS f (k + 4) ≤ 600) (hv : ∀ j : Nat, j < 4 → f (k + j : Nat) = bteS v j) (h : stA t I f k J) : ∃ K, cl 70 [.ref t, .int (iI v)] (mk g J) = some (.inl none, mk g K) ∧ stA t I f (k + 4) K := by
  obtain ⟨t4, tR, t2, tn⟩ := hT
  have tn : gn g (t + 1 + 1) = 600 := tn
  have step : ∀ (j : Nat) (s : Int) (o : Option Value) (J : Mm), j < 4 → s = 24 - 8 * (j : Int) → stA t I f (k + j) J → ∃ K o', rn 70 1 [some (.ref t), some (.int (iI v)), some (.int (iI s)), o] [] (mk g J) = rn 70 1 [some (.ref t), some (.int (iI v)), some (.int (iI (s + -8))), o'] [] (mk g K) ∧ stA t I f (k + j + 1) K := by
    intro j s o J hj hs h
    have e : andI (ushrI v s) 255 = bteS v j := by rw [hs]; rfl
    have hf := hv j hj
    have bb := bteS_b (v := v) (j := j)
    obtain ⟨h1, h2, h3, h4⟩ := h
    have hn := puN_n (B := I (t + 2)) (n := I t 1) (f := f) (k := k + j)
    have hm := czS_m (f := f) (show k + j + 1 ≤ k + 4 by omega)
    have hc := czS_b (f := f) (k := k + j)
    rw [czS_s] at hm
    by_cases hb : bteS v j = 0
    · refine ⟨J, some (.int (iI (bteS v j))), ?_, h1, h2, ?_, ?_⟩
      · simp (maxSteps := 2000000) (disch := first | assumption | omega) only [aft_v, aft_n, aft_t, Nat.add_assoc, Nat.reduceAdd, if_true, if_false, not_true_eq_false, not_false_eq_true, Classical.not_not, Int.reduceAdd, Int.reduceSub, Int.reduceMul, Int.reduceNeg, Int.reduceLT, Int.reduceLE, Int.reduceEq, Int.add_zero, Int.zero_add, Int.sub_zero, w_70_1, w_70_2, w_70_5, show ¬ s < 0 by omega, e, hb]
      · rw [h3, show puN (I (t + 2)) (I t 1) f (k + j + 1) = puN (I (t + 2)) (I t 1) f (k + j) from if_pos (hf.trans hb)]
      · rw [h4, show puN (I (t + 2)) (I t 1) f (k + j + 1) = puN (I (t + 2)) (I t 1) f (k + j) from if_pos (hf.trans hb)]
    · have hfb : ¬ f (k + j : Nat) = 0 := fun z => hb (hf.symm.trans z)
      rw [if_neg hfb] at hm
      obtain ⟨N, hN⟩ : ∃ N, N = (puN (I (t + 2)) (I t 1) f (k + j)).2 := ⟨_, rfl⟩
      rw [← hN] at h4 hn
      have qp := s_row_put (g := g) (I := J) (p := t + 1) (i := N) (v := bteS v j) tR (by omega) (by omega)
      obtain ⟨K, hK⟩ : ∃ K, K = upd2 J (t + 2) N (bteS v j) := ⟨_, rfl⟩
      rw [show upd2 J (t + 1 + 1) N (bteS v j) = K from hK.symm] at qp
      have k1 : K t 1 = N := by rw [hK, upd2_p (by omega)]; exact h4
      have ep : puN (I (t + 2)) (I t 1) f (k + j + 1) = (fun i => if i = N then f (k + j : Nat) else (puN (I (t + 2)) (I t 1) f (k + j)).1 i, N + 1) := by rw [hN]; exact if_neg hfb
      refine ⟨upd2 K t 1 (N + 1), some (.int (iI (bteS v j))), ?_, fun p a c => by rw [← h1 p a c, hK]; funext i; rw [upd2_p a, upd2_p c], fun i hi => by rw [upd2_i hi, hK, upd2_p (by omega)]; exact h2 i hi, ?_, by rw [upd2_at, ep]⟩
      · simp (maxSteps := 2000000) (disch := first | assumption | omega) only [aft_v, aft_n, aft_t, Nat.add_assoc, Nat.reduceAdd, if_true, if_false, not_true_eq_false, not_false_eq_true, Classical.not_not, Int.reduceAdd, Int.reduceSub, Int.reduceMul, Int.reduceNeg, Int.reduceLT, Int.reduceLE, Int.reduceEq, Int.add_zero, Int.zero_add, Int.sub_zero, w_70_1, w_70_2, w_70_3, w_70_4, w_70_5, show ¬ s < 0 by omega, e, hb, h4, qp, k1]
      · rw [ep, ← h3, hf]
        funext i
        rw [upd2_p (by omega), hK]
        show _ = if i = N then bteS v j else J (t + 2) i
        by_cases hi : i = N
        · rw [hi, upd2_at, if_pos rfl]
        · rw [upd2_i hi, if_neg hi]
  obtain ⟨K1, o1, e1, f1⟩ := step 0 24 none J (by decide) (by decide) h
  obtain ⟨K2, o2, e2, f2⟩ := step 1 (24 + -8) o1 K1 (by decide) (by decide) f1
  obtain ⟨K3, o3, e3, f3⟩ := step 2 (24 + -8 + -8) o2 K2 (by decide) (by decide) f2
  obtain ⟨K4, o4, e4, f4⟩ := step 3 (24 + -8 + -8 + -8) o3 K3 (by decide) (by decide) f3
  refine ⟨K4, ?_, f4⟩
  refine c_70.trans ?_
  refine (w_70_0).trans ?_
  rw [e1, e2, e3, e4]
  refine (w_70_1 (by first | assumption | omega) (by first | assumption | omega)).trans ?_
  refine (if_pos (by decide)).trans ?_
  exact w_70_6
theorem cz5 {a b c d e : Int} : czS (bteS a) 4 + czS (bteS b) 4 + czS (bteS c) 4 + czS (bteS d) 4 + czS (bteS e) 4 = czS (by5 a b c d e) 20 := by
  simp only [czS, sumN, by5]
  simp
  omega
theorem stA_0 {f : Int → Int} : stA t I f 0 I := ⟨fun _ _ _ => rfl, fun _ _ => rfl, rfl, rfl⟩
theorem by5_v {a b c d e : Int} {q : Nat} {w : Int} (j : Nat) (hj : j < 4) (hw : w = if q = 0 then a else if q = 1 then b else if q = 2 then c else if q = 3 then d else e) (hq : q < 5) : by5 a b c d e ((4 * q + j : Nat) : Int) = bteS w j := by
  unfold by5
  rw [show ((4 * q + j : Nat) : Int) % 4 = j by omega]
  congr 1
  rw [hw]
  rcases (show q = 0 ∨ q = 1 ∨ q = 2 ∨ q = 3 ∨ q = 4 by omega) with rfl | rfl | rfl | rfl | rfl
  · rw [if_pos (by omega), if_pos rfl]
  · rw [if_neg (by omega), if_pos (by omega), if_neg (by decide), if_pos rfl]
  · rw [if_neg (by omega), if_neg (by omega), if_pos (by omega), if_neg (by decide), if_neg (by decide), if_pos rfl]
  · rw [if_neg (by omega), if_neg (by omega), if_neg (by omega), if_pos (by omega), if_neg (by decide), if_neg (by decide), if_neg (by decide), if_pos rfl]
  · rw [if_neg (by omega), if_neg (by omega), if_neg (by omega), if_neg (by omega), if_neg (by decide), if_neg (by decide), if_neg (by decide), if_neg (by decide)]
theorem s_happend {a b c d e : Int} (hH : isH g x) (hO : txB (I (x + 75 + 2)) (I (x + 75) 1)) (hf : I (x + 75) 1 + czS (by5 a b c d e) 20 ≤ 600) :
    ∃ J, cl 93 [.ref x, .int (iI a), .int (iI b), .int (iI c), .int (iI d), .int (iI e)] (mk g I) = some (.inl (some (.int (iI (I (x + 75) 1 + czS (by5 a b c d e) 20)))), mk g J) ∧ stA (x + 75) I (by5 a b c d e) 20 J := by
  obtain ⟨h_0, h_1, h_18, h_35, h_55, h_75, h_78, h_80, h_82, h_84⟩ := hH
  have t4 := h_75.1
  have h0 := hO.1
  have ca := czS_b (f := bteS a) (k := 4)
  have cb := czS_b (f := bteS b) (k := 4)
  have cc := czS_b (f := bteS c) (k := 4)
  have cd := czS_b (f := bteS d) (k := 4)
  have ce := czS_b (f := bteS e) (k := 4)
  have m1 := czS_m (f := by5 a b c d e) (show 4 ≤ 20 by decide)
  have m2 := czS_m (f := by5 a b c d e) (show 8 ≤ 20 by decide)
  have m3 := czS_m (f := by5 a b c d e) (show 12 ≤ 20 by decide)
  have m4 := czS_m (f := by5 a b c d e) (show 16 ≤ 20 by decide)
  obtain ⟨J1, j1, s1⟩ := s_addBytes (g := g) (I := I) (J := I) (t := x + 75) (v := a) (f := by5 a b c d e) (k := 0) h_75 h0.1 (by show _ + czS _ 4 ≤ 600; omega) (fun j hj => by5_v (q := 0) j hj rfl (by decide)) stA_0
  obtain ⟨J2, j2, s2⟩ := s_addBytes (g := g) (I := I) (J := J1) (t := x + 75) (v := b) (f := by5 a b c d e) (k := 4) h_75 h0.1 (by show _ + czS _ 8 ≤ 600; omega) (fun j hj => by5_v (q := 1) j hj rfl (by decide)) s1
  obtain ⟨J3, j3, s3⟩ := s_addBytes (g := g) (I := I) (J := J2) (t := x + 75) (v := c) (f := by5 a b c d e) (k := 8) h_75 h0.1 (by show _ + czS _ 12 ≤ 600; omega) (fun j hj => by5_v (q := 2) j hj rfl (by decide)) s2
  obtain ⟨J4, j4, s4⟩ := s_addBytes (g := g) (I := I) (J := J3) (t := x + 75) (v := d) (f := by5 a b c d e) (k := 12) h_75 h0.1 (by show _ + czS _ 16 ≤ 600; omega) (fun j hj => by5_v (q := 3) j hj rfl (by decide)) s3
  obtain ⟨J5, j5, s5⟩ := s_addBytes (g := g) (I := I) (J := J4) (t := x + 75) (v := e) (f := by5 a b c d e) (k := 16) h_75 h0.1 (by show _ + czS _ 20 ≤ 600; omega) (fun j hj => by5_v (q := 4) j hj rfl (by decide)) s4
  refine ⟨J5, ?_, s5⟩
  have e5 : J5 (x + 75) 1 = I (x + 75) 1 + czS (by5 a b c d e) 20 := by rw [s5.2.2.2]; exact puN_n
  simp (maxSteps := 2000000) (disch := first | assumption | omega) only [aft_v, aft_n, aft_t, Nat.add_assoc, Nat.reduceAdd, if_true, if_false, not_true_eq_false, not_false_eq_true, Classical.not_not, Int.reduceAdd, Int.reduceSub, Int.reduceMul, Int.reduceNeg, Int.reduceLT, Int.reduceLE, Int.reduceEq, Int.add_zero, Int.zero_add, Int.sub_zero, c_93, w_93_0, w_93_1, w_93_2, w_93_3, w_93_4, s_bytesIn]
  refine (w_93_5 (by first | assumption | omega) (by first | assumption | omega) (by first | assumption | omega) (by first | assumption | omega)).trans ?_
  rw [cz5]
  refine (if_pos (by omega)).trans ?_
  simp (maxSteps := 2000000) (disch := first | assumption | omega) only [aft_v, aft_n, aft_t, Nat.add_assoc, Nat.reduceAdd, if_true, if_false, not_true_eq_false, not_false_eq_true, Classical.not_not, Int.reduceAdd, Int.reduceSub, Int.reduceMul, Int.reduceNeg, Int.reduceLT, Int.reduceLE, Int.reduceEq, Int.add_zero, Int.zero_add, Int.sub_zero, w_93_7, w_93_8, w_93_9, w_93_10, w_93_11, w_93_12, j1, j2, j3, j4, j5, e5]
theorem s_happendBad {a b c d e : Int} (hH : isH g x) (hO : txB (I (x + 75 + 2)) (I (x + 75) 1)) (hf : ¬ I (x + 75) 1 + czS (by5 a b c d e) 20 ≤ 600) :
    cl 93 [.ref x, .int (iI a), .int (iI b), .int (iI c), .int (iI d), .int (iI e)] (mk g I) = some (.inr "java/lang/IllegalStateException", mk (gexc g) I) := by
  obtain ⟨h_0, h_1, h_18, h_35, h_55, h_75, h_78, h_80, h_82, h_84⟩ := hH
  have t4 := h_75.1
  have h0 := hO.1
  have ca := czS_b (f := bteS a) (k := 4)
  have cb := czS_b (f := bteS b) (k := 4)
  have cc := czS_b (f := bteS c) (k := 4)
  have cd := czS_b (f := bteS d) (k := 4)
  have ce := czS_b (f := bteS e) (k := 4)
  simp (maxSteps := 2000000) (disch := first | assumption | omega) only [aft_v, aft_n, aft_t, Nat.add_assoc, Nat.reduceAdd, if_true, if_false, not_true_eq_false, not_false_eq_true, Classical.not_not, Int.reduceAdd, Int.reduceSub, Int.reduceMul, Int.reduceNeg, Int.reduceLT, Int.reduceLE, Int.reduceEq, Int.add_zero, Int.zero_add, Int.sub_zero, c_93, w_93_0, w_93_1, w_93_2, w_93_3, w_93_4, s_bytesIn]
  refine (w_93_5 (by first | assumption | omega) (by first | assumption | omega) (by first | assumption | omega) (by first | assumption | omega)).trans ?_
  rw [cz5]
  refine (if_neg hf).trans ?_
  simp (maxSteps := 2000000) (disch := first | assumption | omega) only [aft_v, aft_n, aft_t, Nat.add_assoc, Nat.reduceAdd, if_true, if_false, not_true_eq_false, not_false_eq_true, Classical.not_not, Int.reduceAdd, Int.reduceSub, Int.reduceMul, Int.reduceNeg, Int.reduceLT, Int.reduceLE, Int.reduceEq, Int.add_zero, Int.zero_add, Int.sub_zero, w_93_6]
theorem s_byteOf {a b c d e : Int} {k : Nat} (hk : k < 20) : cl 163 [.int (iI k), .int (iI a), .int (iI b), .int (iI c), .int (iI d), .int (iI e)] (mk g I) = some (.inl (some (.int (iI (by5 a b c d e k)))), mk g I) := by
  have hm : Int.tmod (k : Int) 4 = (k : Int) % 4 := Int.tmod_eq_emod_of_nonneg (by omega)
  have hb : 0 ≤ (k : Int) % 4 ∧ (k : Int) % 4 < 4 := by omega
  unfold by5
  by_cases h4 : (k : Int) < 4
  · rw [if_pos h4, ← by_eq hb]
    simp (maxSteps := 2000000) (disch := first | assumption | omega) only [aft_v, aft_n, aft_t, Nat.add_assoc, Nat.reduceAdd, if_true, if_false, not_true_eq_false, not_false_eq_true, Classical.not_not, Int.reduceAdd, Int.reduceSub, Int.reduceMul, Int.reduceNeg, Int.reduceLT, Int.reduceLE, Int.reduceEq, Int.add_zero, Int.zero_add, Int.sub_zero, c_163, w_163_0, w_163_1, w_163_2, w_163_3, w_163_4, w_163_5, w_163_6, w_163_7, w_163_8, w_163_9, show ¬ (4 : Int) ≤ k by omega, hm]
  rw [if_neg h4]
  by_cases h8 : (k : Int) < 8
  · rw [if_pos h8, ← by_eq hb]
    simp (maxSteps := 2000000) (disch := first | assumption | omega) only [aft_v, aft_n, aft_t, Nat.add_assoc, Nat.reduceAdd, if_true, if_false, not_true_eq_false, not_false_eq_true, Classical.not_not, Int.reduceAdd, Int.reduceSub, Int.reduceMul, Int.reduceNeg, Int.reduceLT, Int.reduceLE, Int.reduceEq, Int.add_zero, Int.zero_add, Int.sub_zero, c_163, w_163_0, w_163_1, w_163_2, w_163_3, w_163_4, w_163_5, w_163_6, w_163_7, w_163_8, w_163_9, show (4 : Int) ≤ k by omega, show ¬ (8 : Int) ≤ k by omega, hm]
  rw [if_neg h8]
  by_cases h12 : (k : Int) < 12
  · rw [if_pos h12, ← by_eq hb]
    simp (maxSteps := 2000000) (disch := first | assumption | omega) only [aft_v, aft_n, aft_t, Nat.add_assoc, Nat.reduceAdd, if_true, if_false, not_true_eq_false, not_false_eq_true, Classical.not_not, Int.reduceAdd, Int.reduceSub, Int.reduceMul, Int.reduceNeg, Int.reduceLT, Int.reduceLE, Int.reduceEq, Int.add_zero, Int.zero_add, Int.sub_zero, c_163, w_163_0, w_163_1, w_163_2, w_163_3, w_163_4, w_163_5, w_163_6, w_163_7, w_163_8, w_163_9, show (4 : Int) ≤ k by omega, show (8 : Int) ≤ k by omega, show ¬ (12 : Int) ≤ k by omega, hm]
  rw [if_neg h12]
  by_cases h16 : (k : Int) < 16
  · rw [if_pos h16, ← by_eq hb]
    simp (maxSteps := 2000000) (disch := first | assumption | omega) only [aft_v, aft_n, aft_t, Nat.add_assoc, Nat.reduceAdd, if_true, if_false, not_true_eq_false, not_false_eq_true, Classical.not_not, Int.reduceAdd, Int.reduceSub, Int.reduceMul, Int.reduceNeg, Int.reduceLT, Int.reduceLE, Int.reduceEq, Int.add_zero, Int.zero_add, Int.sub_zero, c_163, w_163_0, w_163_1, w_163_2, w_163_3, w_163_4, w_163_5, w_163_6, w_163_7, w_163_8, w_163_9, show (4 : Int) ≤ k by omega, show (8 : Int) ≤ k by omega, show (12 : Int) ≤ k by omega, show ¬ (16 : Int) ≤ k by omega, hm]
  rw [if_neg h16, ← by_eq hb]
  simp (maxSteps := 2000000) (disch := first | assumption | omega) only [aft_v, aft_n, aft_t, Nat.add_assoc, Nat.reduceAdd, if_true, if_false, not_true_eq_false, not_false_eq_true, Classical.not_not, Int.reduceAdd, Int.reduceSub, Int.reduceMul, Int.reduceNeg, Int.reduceLT, Int.reduceLE, Int.reduceEq, Int.add_zero, Int.zero_add, Int.sub_zero, c_163, w_163_0, w_163_1, w_163_2, w_163_3, w_163_4, w_163_5, w_163_6, w_163_7, w_163_8, w_163_9, show (4 : Int) ≤ k by omega, show (8 : Int) ≤ k by omega, show (12 : Int) ≤ k by omega, show (16 : Int) ≤ k by omega, hm]
/-- the reference: the first k bytes are there -/
def stB (m : Nat) (I : Mm) (f : Int → Int) (k : Nat) (J : Mm) : Prop := (∀ p, ¬ p = m → ¬ p = m + 7 → J p = I p) ∧ (∀ i, ¬ i = 7 → ¬ i = 9 → J m i = I m i) ∧ J (m + 7) = (puN (I (m + 7)) (I m 9) f k).1 ∧ J m 9 = (puN (I (m + 7)) (I m 9) f k).2 ∧ J m 7 = 0
theorem l_mcount {a b c d e : Int} {o8 : Option Value} (hm : isM g m) : rn 164 1 [some (.ref m), some (.int (iI a)), some (.int (iI b)), some (.int (iI c)), some (.int (iI d)), some (.int (iI e)), some (.int (iI 0)), some (.int (iI 0)), o8] [] (mk g I) = rn 164 7 [some (.ref m), some (.int (iI a)), some (.int (iI b)), some (.int (iI c)), some (.int (iI d)), some (.int (iI e)), some (.int (iI (czS (by5 a b c d e) 20))), some (.int (iI 20)), o8] [] (mk g I) := by
  have key : ∀ k : Nat, k ≤ 20 → rn 164 1 [some (.ref m), some (.int (iI a)), some (.int (iI b)), some (.int (iI c)), some (.int (iI d)), some (.int (iI e)), some (.int (iI 0)), some (.int (iI 0)), o8] [] (mk g I) = rn 164 1 [some (.ref m), some (.int (iI a)), some (.int (iI b)), some (.int (iI c)), some (.int (iI d)), some (.int (iI e)), some (.int (iI (czS (by5 a b c d e) k))), some (.int (iI k)), o8] [] (mk g I) := by
    intro k
    induction k with
    | zero => intro _; rfl
    | succ k ih =>
      intro hk
      rw [ih (by omega)]
      have q := s_byteOf (g := g) (I := I) (a := a) (b := b) (c := c) (d := d) (e := e) (k := k) (by omega)
      have bb := by5_b (a := a) (b := b) (c := c) (d := d) (e := e) (k := k)
      rw [show ((k + 1 : Nat) : Int) = (k : Int) + 1 from rfl, czS_s]
      refine (w_164_1 (by first | assumption | omega) (by first | assumption | omega)).trans ?_
      refine (if_neg (by omega)).trans ?_
      by_cases h : by5 a b c d e k = 0
      · rw [if_pos h]
        simp (maxSteps := 2000000) (disch := first | assumption | omega) only [aft_v, aft_n, aft_t, Nat.add_assoc, Nat.reduceAdd, if_true, if_false, not_true_eq_false, not_false_eq_true, Classical.not_not, Int.reduceAdd, Int.reduceSub, Int.reduceMul, Int.reduceNeg, Int.reduceLT, Int.reduceLE, Int.reduceEq, Int.add_zero, Int.zero_add, Int.sub_zero, w_164_2, w_164_3, w_164_4, w_164_6, q, h]
      · rw [if_neg h]
        simp (maxSteps := 2000000) (disch := first | assumption | omega) only [aft_v, aft_n, aft_t, Nat.add_assoc, Nat.reduceAdd, if_true, if_false, not_true_eq_false, not_false_eq_true, Classical.not_not, Int.reduceAdd, Int.reduceSub, Int.reduceMul, Int.reduceNeg, Int.reduceLT, Int.reduceLE, Int.reduceEq, Int.add_zero, Int.zero_add, Int.sub_zero, w_164_2, w_164_3, w_164_5, w_164_6, q, h]
  rw [key 20 (by decide)]
  refine (w_164_1 (by first | assumption | omega) (by first | assumption | omega)).trans ?_
  refine (if_pos (by omega)).trans ?_
  rfl
theorem s_mappend {a b c d e : Int} (hm : isM g m) (hO : txB (I (m + 7)) (I m 9)) (hf : I m 9 + czS (by5 a b c d e) 20 ≤ 600) :
    ∃ J, cl 164 [.ref m, .int (iI a), .int (iI b), .int (iI c), .int (iI d), .int (iI e)] (mk g I) = some (.inl (some (.int (iI (I m 9 + czS (by5 a b c d e) 20)))), mk g J) ∧ stB m I (by5 a b c d e) 20 J := by
  have lc := l_mcount (g := g) (I := I) (a := a) (b := b) (c := c) (d := d) (e := e) (o8 := none) hm
  have cb := czS_b (f := by5 a b c d e) (k := 20)
  have h0 := hO.1
  have hm' := hm
  obtain ⟨t_0, ⟨t_1, d_1, n_1⟩, ⟨t_2, d_2, n_2⟩, ⟨t_3, d_3, n_3⟩, ⟨t_4, d_4, n_4⟩, ⟨t_5, d_5, n_5⟩, ⟨t_6, n_6⟩, ⟨t_7, d_7, n_7⟩, ⟨t_8, d_8, n_8⟩, ⟨t_9, d_9, n_9⟩, ⟨t_10, d_10, n_10⟩, ⟨t_11, d_11, n_11⟩, ⟨t_12, d_12, n_12⟩, ⟨t_13, d_13, n_13⟩, ⟨t_14, d_14, n_14⟩, ⟨t_15, n_15⟩, ⟨t_16, n_16⟩, ⟨t_17, d_17, n_17⟩, ⟨t_18, d_18, n_18⟩⟩ := hm
  have key : ∀ k : Nat, k ≤ 20 → ∃ J o, rn 164 13 [some (.ref m), some (.int (iI a)), some (.int (iI b)), some (.int (iI c)), some (.int (iI d)), some (.int (iI e)), some (.int (iI (czS (by5 a b c d e) 20))), some (.int (iI 0)), none] [] (mk g (upd2 I m 7 0)) = rn 164 13 [some (.ref m), some (.int (iI a)), some (.int (iI b)), some (.int (iI c)), some (.int (iI d)), some (.int (iI e)), some (.int (iI (czS (by5 a b c d e) 20))), some (.int (iI k)), o] [] (mk g J) ∧ stB m I (by5 a b c d e) k J := by
    intro k
    induction k with
    | zero => intro _; exact ⟨_, none, rfl, fun p h _ => by funext i; exact upd2_p h, fun i h _ => upd2_i h, by funext i; rw [upd2_p (by omega)]; rfl, by rw [upd2_i (by decide)]; rfl, upd2_at⟩
    | succ k ih =>
      intro hk
      obtain ⟨J, o, e1, h⟩ := ih (by omega)
      rw [e1]
      have q := s_byteOf (g := g) (I := J) (a := a) (b := b) (c := c) (d := d) (e := e) (k := k) (by omega)
      have bb := by5_b (a := a) (b := b) (c := c) (d := d) (e := e) (k := k)
      obtain ⟨h1, h2, h3, h4, h5⟩ := h
      have hn := puN_n (B := I (m + 7)) (n := I m 9) (f := by5 a b c d e) (k := k)
      have hM := czS_m (f := by5 a b c d e) (show k + 1 ≤ 20 by omega)
      have hc := czS_b (f := by5 a b c d e) (k := k)
      rw [czS_s] at hM
      rw [show ((k + 1 : Nat) : Int) = (k : Int) + 1 from rfl]
      by_cases hb : by5 a b c d e k = 0
      · have ep : puN (I (m + 7)) (I m 9) (by5 a b c d e) (k + 1) = puN (I (m + 7)) (I m 9) (by5 a b c d e) k := if_pos hb
        refine ⟨J, some (.int (iI (by5 a b c d e k))), ?_, h1, h2, by rw [ep]; exact h3, by rw [ep]; exact h4, h5⟩
        refine (w_164_13 (by first | omega | assumption) (by first | omega | assumption)).trans ?_
        refine (if_neg (by omega)).trans ?_
        simp (maxSteps := 2000000) (disch := first | assumption | omega) only [aft_v, aft_n, aft_t, Nat.add_assoc, Nat.reduceAdd, if_true, if_false, not_true_eq_false, not_false_eq_true, Classical.not_not, Int.reduceAdd, Int.reduceSub, Int.reduceMul, Int.reduceNeg, Int.reduceLT, Int.reduceLE, Int.reduceEq, Int.add_zero, Int.zero_add, Int.sub_zero, w_164_14, w_164_15, w_164_16, w_164_18, q, hb]
      · rw [if_neg hb] at hM
        obtain ⟨N, hN⟩ : ∃ N, N = (puN (I (m + 7)) (I m 9) (by5 a b c d e) k).2 := ⟨_, rfl⟩
        rw [← hN] at h4 hn
        have ep : puN (I (m + 7)) (I m 9) (by5 a b c d e) (k + 1) = (fun i => if i = N then by5 a b c d e k else (puN (I (m + 7)) (I m 9) (by5 a b c d e) k).1 i, N + 1) := by rw [hN]; exact if_neg hb
        obtain ⟨K, hK⟩ : ∃ K, K = upd2 J (m + 7) N (by5 a b c d e k) := ⟨_, rfl⟩
        have k9 : K m 9 = N := by rw [hK, upd2_p (by omega)]; exact h4
        refine ⟨upd2 K m 9 (N + 1), some (.int (iI (by5 a b c d e k))), ?_, fun p a c => by rw [← h1 p a c, hK]; funext i; rw [upd2_p a, upd2_p c], fun i h7 hi => by rw [upd2_i hi, hK, upd2_p (by omega)]; exact h2 i h7 hi, ?_, by rw [upd2_at, ep], by rw [upd2_i (by decide), hK, upd2_p (by omega)]; exact h5⟩
        · refine (w_164_13 (by first | omega | assumption) (by first | omega | assumption)).trans ?_
          refine (if_neg (by omega)).trans ?_
          simp (maxSteps := 2000000) (disch := first | assumption | omega) only [aft_v, aft_n, aft_t, Nat.add_assoc, Nat.reduceAdd, if_true, if_false, not_true_eq_false, not_false_eq_true, Classical.not_not, Int.reduceAdd, Int.reduceSub, Int.reduceMul, Int.reduceNeg, Int.reduceLT, Int.reduceLE, Int.reduceEq, Int.add_zero, Int.zero_add, Int.sub_zero, w_164_14, w_164_15, w_164_17, w_164_18, q, hb, h4, ← hK, k9]
        · rw [ep, ← h3]
          funext i
          rw [upd2_p (by omega), hK]
          show _ = if i = N then by5 a b c d e k else J (m + 7) i
          by_cases hi : i = N
          · rw [hi, upd2_at, if_pos rfl]
          · rw [upd2_i hi, if_neg hi]
  obtain ⟨J, o, e1, h⟩ := key 20 (by decide)
  refine ⟨J, ?_, h⟩
  have e5 : J m 9 = I m 9 + czS (by5 a b c d e) 20 := by rw [h.2.2.2.1]; exact puN_n
  have u7 : upd2 I m 7 0 m 7 = 0 := upd2_at
  refine c_164.trans ?_
  refine (w_164_0).trans ?_
  rw [lc]
  refine (w_164_7 (by first | assumption | omega) (by first | assumption | omega) (by first | assumption | omega)).trans ?_
  refine (if_pos (by omega)).trans ?_
  simp (maxSteps := 2000000) (disch := first | assumption | omega) only [aft_v, aft_n, aft_t, Nat.add_assoc, Nat.reduceAdd, if_true, if_false, not_true_eq_false, not_false_eq_true, Classical.not_not, Int.reduceAdd, Int.reduceSub, Int.reduceMul, Int.reduceNeg, Int.reduceLT, Int.reduceLE, Int.reduceEq, Int.add_zero, Int.zero_add, Int.sub_zero, w_164_9, w_164_10, w_164_12, u7, Int.le_refl]
  rw [e1]
  refine (w_164_13 (by first | omega | assumption) (by first | omega | assumption)).trans ?_
  refine (if_pos (by omega)).trans ?_
  simp (maxSteps := 2000000) (disch := first | assumption | omega) only [aft_v, aft_n, aft_t, Nat.add_assoc, Nat.reduceAdd, if_true, if_false, not_true_eq_false, not_false_eq_true, Classical.not_not, Int.reduceAdd, Int.reduceSub, Int.reduceMul, Int.reduceNeg, Int.reduceLT, Int.reduceLE, Int.reduceEq, Int.add_zero, Int.zero_add, Int.sub_zero, w_164_19, e5]
theorem s_mappendBad {a b c d e : Int} (hm : isM g m) (hO : txB (I (m + 7)) (I m 9)) (hf : ¬ I m 9 + czS (by5 a b c d e) 20 ≤ 600) :
    cl 164 [.ref m, .int (iI a), .int (iI b), .int (iI c), .int (iI d), .int (iI e)] (mk g I) = some (.inl (some (.int (iI 0))), mk g (upd2 I m 7 1)) := by
  have lc := l_mcount (g := g) (I := I) (a := a) (b := b) (c := c) (d := d) (e := e) (o8 := none) hm
  have cb := czS_b (f := by5 a b c d e) (k := 20)
  have h0 := hO.1
  obtain ⟨t_0, ⟨t_1, d_1, n_1⟩, ⟨t_2, d_2, n_2⟩, ⟨t_3, d_3, n_3⟩, ⟨t_4, d_4, n_4⟩, ⟨t_5, d_5, n_5⟩, ⟨t_6, n_6⟩, ⟨t_7, d_7, n_7⟩, ⟨t_8, d_8, n_8⟩, ⟨t_9, d_9, n_9⟩, ⟨t_10, d_10, n_10⟩, ⟨t_11, d_11, n_11⟩, ⟨t_12, d_12, n_12⟩, ⟨t_13, d_13, n_13⟩, ⟨t_14, d_14, n_14⟩, ⟨t_15, n_15⟩, ⟨t_16, n_16⟩, ⟨t_17, d_17, n_17⟩, ⟨t_18, d_18, n_18⟩⟩ := hm
  have u7 : upd2 I m 7 1 m 7 = 1 := upd2_at
  refine c_164.trans ?_
  refine (w_164_0).trans ?_
  rw [lc]
  refine (w_164_7 (by first | assumption | omega) (by first | assumption | omega) (by first | assumption | omega)).trans ?_
  refine (if_neg hf).trans ?_
  simp (maxSteps := 2000000) (disch := first | assumption | omega) only [aft_v, aft_n, aft_t, Nat.add_assoc, Nat.reduceAdd, if_true, if_false, not_true_eq_false, not_false_eq_true, Classical.not_not, Int.reduceAdd, Int.reduceSub, Int.reduceMul, Int.reduceNeg, Int.reduceLT, Int.reduceLE, Int.reduceEq, Int.add_zero, Int.zero_add, Int.sub_zero, w_164_8, w_164_10, w_164_11, u7, show ¬ (1 : Int) ≤ 0 by decide]
end AP
