/-! Loops; Piece's methods with loops. -/
theorem loop_up {σ : Type} {head : Int → σ → Option Rs} {Inv : Int → σ → Prop} {n : Int} (step : ∀ i s, i < n → Inv i s → ∃ s', head i s = head (i + 1) s' ∧ Inv (i + 1) s') : ∀ (i : Int) (s : σ), i ≤ n → Inv i s → ∃ s', head i s = head n s' ∧ Inv n s' := by
  have key : ∀ (d : Nat) (i : Int) (s : σ), n - i = d → Inv i s → ∃ s', head i s = head n s' ∧ Inv n s' := by
    intro d
    induction d with
    | zero => intro i s hd h; have : i = n := by omega
              subst this; exact ⟨s, rfl, h⟩
    | succ d ih =>
      intro i s hd h
      obtain ⟨s1, e1, h1⟩ := step i s (by omega) h
      obtain ⟨s2, e2, h2⟩ := ih (i + 1) s1 (by omega) h1
      exact ⟨s2, e1.trans e2, h2⟩
  intro i s hi h
  exact key (n - i).toNat i s (by omega) h
/-- sums of numbers -/
def sumN (f : Int → Int) : Nat → Int
  | 0 => 0
  | n + 1 => sumN f n + f n
theorem sumN_b {f : Int → Int} {A B : Int} {n : Nat} (h : ∀ i : Int, 0 ≤ i → i < n → A ≤ f i ∧ f i ≤ B) : A * n ≤ sumN f n ∧ sumN f n ≤ B * n := by
  induction n with
  | zero => simp [sumN]
  | succ n ih =>
    have h1 := ih (fun i h0 h1 => h i h0 (by omega))
    have h2 := h n (by omega) (by omega)
    simp only [sumN]
    rw [show ((n + 1 : Nat) : Int) = n + 1 from rfl, Int.mul_add, Int.mul_add]
    omega
/-- sum of f over [0, n) -/
def sumI (f : Int → Int) (n : Int) : Int := sumN f n.toNat
theorem sumI_0 {f : Int → Int} : sumI f 0 = 0 := rfl
theorem sumI_s {f : Int → Int} {i : Int} (h : 0 ≤ i) : sumI f (i + 1) = sumI f i + f i := by
  unfold sumI
  rw [show (i + 1).toNat = i.toNat + 1 by omega]
  simp only [sumN]
  rw [show ((i.toNat : Nat) : Int) = i by omega]
theorem sumI_b {f : Int → Int} {A B n : Int} (hn : 0 ≤ n) (h : ∀ i : Int, 0 ≤ i → i < n → A ≤ f i ∧ f i ≤ B) : A * n ≤ sumI f n ∧ sumI f n ≤ B * n := by
  have := sumN_b (f := f) (A := A) (B := B) (n := n.toNat) (fun i h0 h1 => h i h0 (by omega))
  rw [show ((n.toNat : Nat) : Int) = n by omega] at this
  exact this
section PL
variable {g : Gm} {I : Mm} {q : Nat}
theorem s_allNotes (hp : isPc g q) (hB : pB I q) : cl 11 [.ref q] (mk g I) = some (.inl (some (.int (iI (sumI (I (q + 2)) (I q 1))))), mk g I) := by
  obtain ⟨p_0, ⟨p_1, q_1, p_2⟩, ⟨p_3, q_3, p_4⟩, ⟨p_5, q_5, p_6⟩, ⟨p_7, q_7, p_8⟩, ⟨p_9, q_9, p_10⟩, ⟨p_11, q_11, p_12⟩, ⟨p_13, q_13, p_14⟩, ⟨p_15, q_15, p_16⟩⟩ := hp
  obtain ⟨b0, b1, b2, b3, b4, b5, b6, b7, b8, b9⟩ := hB
  have key := loop_up (σ := Unit) (head := fun i _ => rn 11 1 [some (.ref q), some (.int (iI (sumI (I (q + 2)) i))), some (.int (iI i))] [] (mk g I)) (Inv := fun i _ => 0 ≤ i) (n := I q 1) (by
    intro i s hi h
    have hb := sumI_b (f := I (q + 2)) (A := 0) (B := 3) (n := i) h (fun i _ _ => b2 i)
    refine ⟨(), ?_, by omega⟩
    show rn _ _ _ _ _ = rn _ _ _ _ _
    rw [sumI_s h]
    refine (w_11_1 (by first | assumption | omega) (by first | assumption | omega) (by first | assumption | omega) (by first | assumption | omega) (by first | assumption | omega)).trans ?_
    refine (if_neg (by omega)).trans ?_
    simp (maxSteps := 2000000) (disch := first | assumption | omega) only [aft_v, aft_n, aft_t, Nat.add_assoc, Nat.reduceAdd, if_true, if_false, not_true_eq_false, not_false_eq_true, Classical.not_not, Int.reduceAdd, Int.reduceSub, Int.reduceMul, Int.reduceNeg, Int.reduceLT, Int.reduceLE, Int.reduceEq, Int.add_zero, Int.zero_add, Int.sub_zero, w_11_2, w_11_3, s_row_get]) 0 () (by omega) (by omega)
  obtain ⟨-, e, -⟩ := key
  have e : rn 11 1 [some (.ref q), some (.int (iI 0)), some (.int (iI 0))] [] (mk g I) = rn 11 1 [some (.ref q), some (.int (iI (sumI (I (q + 2)) (I q 1)))), some (.int (iI (I q 1)))] [] (mk g I) := e
  refine c_11.trans ?_
  refine (w_11_0).trans ?_
  refine e.trans ?_
  refine (w_11_1 (by first | assumption | omega) (by first | assumption | omega) (by first | assumption | omega) (by first | assumption | omega) (by first | assumption | omega)).trans ?_
  refine (if_pos (by omega)).trans ?_
  simp (maxSteps := 2000000) (disch := first | assumption | omega) only [aft_v, aft_n, aft_t, Nat.add_assoc, Nat.reduceAdd, if_true, if_false, not_true_eq_false, not_false_eq_true, Classical.not_not, Int.reduceAdd, Int.reduceSub, Int.reduceMul, Int.reduceNeg, Int.reduceLT, Int.reduceLE, Int.reduceEq, Int.add_zero, Int.zero_add, Int.sub_zero, w_11_4]
end PL
