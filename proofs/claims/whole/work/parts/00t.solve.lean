/-! Plan: solving. -/
def onl (r : Nat) (I I' : Mm) : Prop := ∀ p, ¬ p = r → I' p = I p
theorem onl.refl {r : Nat} {I : Mm} : onl r I I := fun _ _ => rfl
theorem onl.upd {r : Nat} {I J : Mm} {i v : Int} (h : onl r I J) : onl r I (upd2 J r i v) := fun p hp => by
  rw [← h p hp]; exact funext fun j => upd2_p hp
theorem onl.frP {l r : Nat} {I I' : Mm} (h : onl r I I') (hr : l ≤ r ∧ r ≤ l + 18) : frP l I I' := fun p hp => h p (by omega)
/-- numbers of a piece whose events all have notes, in order -/
def gd (I : Mm) (q : Nat) : Prop := pB I q ∧ ∀ e, 0 ≤ e → e < I q 1 → 1 ≤ I (q + 2) e ∧ (∀ k, 0 ≤ k → k + 1 < I (q + 2) e → I (q + 6) (e * 3 + k) < I (q + 6) (e * 3 + (k + 1)))
def bdP (P : PT) : Prop := (pR P = 0 ∨ pR P = 1) ∧ (0 ≤ pE P ∧ pE P ≤ 40) ∧ (∀ e, 0 ≤ e → e < pE P → (1 ≤ pSz P e ∧ pSz P e ≤ 3) ∧ 0 ≤ cntS P e ∧ cntS P e ≤ 10) ∧ (∀ b e c, 0 ≤ e → e < pE P → -1 ≤ ownS P b e c ∧ ownS P b e c ≤ 6000) ∧ (∀ e r c c', 0 ≤ e → e + 1 < pE P → 0 ≤ r → -1 ≤ stepW P r e c c' ∧ stepW P r e c c' ≤ 21384) ∧ (∀ e, 0 ≤ e → e < pE P → 0 ≤ pRe P e ∧ pRe P e ≤ 9)
theorem gd_bd {I : Mm} {q : Nat} (h : gd I q) : bdP (pv I q) := by
  obtain ⟨hB, h⟩ := h
  have hb := hB
  obtain ⟨b0, b1, b2, b3, b4, b5, b6, b7, b8, b9⟩ := hb
  refine ⟨b0, b1, fun e e0 e1 => ⟨⟨(h e e0 e1).1, (b2 e).2⟩, cnt_b b0 ⟨(h e e0 e1).1, (b2 e).2⟩⟩, fun b e c e0 e1 => ecost_rng hB (h e e0 e1).1 (h e e0 e1).2, fun e r c c' e0 e1 r0 => pass_rng hB r0, fun e e0 e1 => b3 e⟩
theorem bd_G {P : PT} (h : bdP P) (b : Int) : okG (pE P) (cntS P) (ownS P b) (stepS P) :=
  ⟨fun e e0 e1 => (h.2.2.1 e e0 e1).2.1, fun e c e0 e1 => (h.2.2.2.1 b e c e0 e1).1, fun e c c' e0 e1 => (h.2.2.2.2.1 e _ c c' e0 e1 (h.2.2.2.2.2 e e0 (by omega)).1).1⟩
theorem ah_b {P : PT} (h : bdP P) {b : Int} : ∀ (e : Nat) (c : Int), (e : Int) < pE P → -1 ≤ ahN P b e c ∧ ahN P b e c ≤ (e + 1) * 30000 := by
  intro e
  induction e with
  | zero => intro c he; have := h.2.2.2.1 b 0 c (by omega) (by omega); show -1 ≤ ownS P b 0 c ∧ ownS P b 0 c ≤ _; omega
  | succ e ih =>
    intro c he
    have h1 := mnI_b (f := fun c' => sumS (ahN P b e c') (stepS P e c' c)) (n := cntS P e) (A := (e + 1) * 30000 + 21384) (h.2.2.1 e (by omega) (by omega)).2.1 (by omega) (fun i _ _ => sum_b (ih i (by omega)) (h.2.2.2.2.1 e _ i c (by omega) (by omega) (h.2.2.2.2.2 e (by omega) (by omega)).1) (by omega) (by omega))
    have h2 := sum_b h1 (h.2.2.2.1 b (e + 1 : Nat) c (by omega) (by omega)) (by omega) (by omega)
    have e1 : ahN P b (e + 1) c = sumS (mnI (fun c' => sumS (ahN P b e c') (stepS P e c' c)) (cntS P e)) (ownS P b (e + 1 : Nat) c) := rfl
    rw [e1]
    omega
theorem bh_b {P : PT} (h : bdP P) : ∀ (d : Nat) (c : Int), (d : Int) < pE P → -1 ≤ bhN P d c ∧ bhN P d c ≤ d * 30000 := by
  intro d
  induction d with
  | zero => intro c _; show -1 ≤ (0 : Int) ∧ (0 : Int) ≤ _; omega
  | succ d ih =>
    intro c hd
    have h1 := mnI_b (f := fun k => sumS (stepS P (pE P - 2 - d) c k) (sumS (ownS P 0 (pE P - 1 - d) k) (bhN P d k))) (n := cntS P (pE P - 1 - d)) (A := 21384 + (6000 + d * 30000)) (h.2.2.1 _ (by omega) (by omega)).2.1 (by omega) (fun i _ _ => sum_b (h.2.2.2.2.1 _ _ c i (by omega) (by omega) (h.2.2.2.2.2 _ (by omega) (by omega)).1) (sum_b (h.2.2.2.1 0 _ i (by omega) (by omega)) (ih i (by omega)) (by omega) (by omega)) (by omega) (by omega))
    have e1 : bhN P (d + 1) c = mnI (fun k => sumS (stepS P (pE P - 2 - d) c k) (sumS (ownS P 0 (pE P - 1 - d) k) (bhN P d k))) (cntS P (pE P - 1 - d)) := rfl
    rw [e1]
    omega
theorem ahS_b {P : PT} (h : bdP P) {b e c : Int} (e0 : 0 ≤ e) (e1 : e < pE P) : -1 ≤ ahS P b e c ∧ ahS P b e c ≤ 1200000 := by
  have := ah_b h (b := b) e.toNat c (by omega)
  have := h.2.1
  unfold ahS
  omega
theorem bhS_b {P : PT} (h : bdP P) {e c : Int} (e0 : 0 ≤ e) (e1 : e < pE P) : -1 ≤ bhS P e c ∧ bhS P e c ≤ 1200000 := by
  have := bh_b h (pE P - 1 - e).toNat c (by omega)
  have := h.2.1
  unfold bhS
  omega
theorem ahS_0 {P : PT} {b c : Int} : ahS P b 0 c = ownS P b 0 c := rfl
theorem ahS_s {P : PT} {b e c : Int} (e0 : 1 ≤ e) : ahS P b e c = sumS (mnI (fun c' => sumS (ahS P b (e - 1) c') (stepS P (e - 1) c' c)) (cntS P (e - 1))) (ownS P b e c) := by
  obtain ⟨k, hk⟩ : ∃ k : Nat, e = k + 1 := ⟨(e - 1).toNat, by omega⟩
  subst hk
  unfold ahS
  rw [show ((k : Int) + 1).toNat = k + 1 by omega, show ((k : Int) + 1 - 1) = k by omega, show ((k : Int)).toNat = k by omega]
  rfl
theorem bhS_l {P : PT} {e c : Int} (h : e = pE P - 1) : bhS P e c = 0 := by
  subst h; unfold bhS; rw [show (pE P - 1 - (pE P - 1)).toNat = 0 by omega]; rfl
theorem bhS_s {P : PT} {e c : Int} (h : e + 1 < pE P) : bhS P e c = mnI (fun k => sumS (stepS P e c k) (sumS (ownS P 0 (e + 1) k) (bhS P (e + 1) k))) (cntS P (e + 1)) := by
  obtain ⟨d, hd⟩ : ∃ d : Nat, pE P - 1 - e = d + 1 := ⟨(pE P - 2 - e).toNat, by omega⟩
  have e1 : pE P - 2 - d = e := by omega
  have e2 : pE P - 1 - d = e + 1 := by omega
  unfold bhS
  rw [show (pE P - 1 - e).toNat = d + 1 by omega, show (pE P - 1 - (e + 1)).toNat = d by omega]
  show mnI (fun k => sumS (stepS P (pE P - 2 - d) c k) (sumS (ownS P 0 (pE P - 1 - d) k) (bhN P d k))) (cntS P (pE P - 1 - d)) = _
  rw [e1, e2]
/-- what the rows of the plan at l hold -/
def ChF (P : PT) (l : Nat) (I : Mm) (e : Int) : Prop := I (l + 2) e = cntS P e ∧ ∀ c, 0 ≤ c → c < cntS P e → (∀ k, 0 ≤ k → k < pSz P e → I (l + 4) ((e * 10 + c) * 3 + k) = fgP P e c k) ∧ I (l + 6) (e * 10 + c) = ownS P 0 e c
def StF (P : PT) (l : Nat) (I : Mm) (e : Int) : Prop := ∀ c n, 0 ≤ c → c < cntS P e → 0 ≤ n → n < cntS P (e + 1) → I (l + 8) ((e * 10 + c) * 10 + n) = stepS P e c n
def AhF (P : PT) (b : Int) (r : Nat) (I : Mm) (e : Int) : Prop := ∀ c, 0 ≤ c → c < cntS P e → I r (e * 10 + c) = ahS P b e c
def BhF (P : PT) (l : Nat) (I : Mm) (e : Int) : Prop := ∀ c, 0 ≤ c → c < cntS P e → I (l + 12) (e * 10 + c) = bhS P e c
theorem ChF.mono {P : PT} {l : Nat} {I I' : Mm} {e : Int} (h : ChF P l I e) (h2 : I' (l + 2) = I (l + 2)) (h4 : I' (l + 4) = I (l + 4)) (h6 : I' (l + 6) = I (l + 6)) : ChF P l I' e := by
  unfold ChF; rw [h2, h4, h6]; exact h
theorem LI_Ch {P : PT} {l : Nat} {I0 I : Mm} {e : Int} (h : LI P l e (mN (pSz P e)) I0 I) : ChF P l I e := by
  refine ⟨h.1, fun c c0 c1 => ?_⟩
  have h2 := h.2.1 c.toNat (by have : (cntS P e) = ((flt (okm P e) (mN (pSz P e))).length : Int) := rfl; omega)
  rw [show ((c.toNat : Nat) : Int) = c by omega] at h2
  exact h2
section SO
variable {g : Gm} {I : Mm} {q l : Nat}
theorem s_fillSteps {P : PT} {e : Int} (hp : isPc g q) (hl : isPl g l) (hG : gd I q) (hP : P = pv I q) (hq : q + 17 ≤ l ∨ l + 20 ≤ q) (he : 0 ≤ e ∧ e + 1 < I q 1) (hc : ChF P l I e) (hc' : ChF P l I (e + 1)) :
    ∃ I', cl 36 [.ref l, .ref q, .int (iI e)] (mk g I) = some (.inl none, mk g I') ∧ onl (l + 8) I I' ∧ (∀ i, i < e * 100 ∨ e * 100 + 100 ≤ i → I' (l + 8) i = I (l + 8) i) ∧ StF P l I' e := by
  have hbd := gd_bd hG
  rw [← hP] at hbd
  have hl' := hl
  have hp' := hp
  obtain ⟨l_0, ⟨l_1, m_1, l_2⟩, ⟨l_3, m_3, l_4⟩, ⟨l_5, m_5, l_6⟩, ⟨l_7, m_7, l_8⟩, ⟨l_9, m_9, l_10⟩, ⟨l_11, m_11, l_12⟩, ⟨l_13, m_13, l_14⟩, ⟨l_15, m_15, l_16⟩, ⟨l_17, m_17, l_18⟩, l_19, l_20⟩ := hl
  obtain ⟨p_0, ⟨p_1, q_1, p_2⟩, ⟨p_3, q_3, p_4⟩, ⟨p_5, q_5, p_6⟩, ⟨p_7, q_7, p_8⟩, ⟨p_9, q_9, p_10⟩, ⟨p_11, q_11, p_12⟩, ⟨p_13, q_13, p_14⟩, ⟨p_15, q_15, p_16⟩⟩ := hp
  have hEP : pE P = I q 1 := by rw [hP]; rfl
  have b1 := hG.1.2.1
  have hr := hG.1.2.2.2.1 e
  have n0 := hbd.2.2.1 e he.1 (by omega)
  have n1 := hbd.2.2.1 (e + 1) (by omega) (by omega)
  have z0 : pSz P e = I (q + 2) e := by rw [hP]; rfl
  have z1 : pSz P (e + 1) = I (q + 2) (e + 1) := by rw [hP]; rfl
  have hrr : pRe P e = I (q + 4) e := by rw [hP]; rfl
  have outer := loop_up (σ := Mm × Option Value) (head := fun c s => rn 36 2 [some (.ref l), some (.ref q), some (.int (iI e)), some (.int (iI (I (q + 4) e))), some (.int (iI c)), s.2] [] (mk g s.1))
    (Inv := fun c s => 0 ≤ c ∧ onl (l + 8) I s.1 ∧ (∀ i, i < e * 100 ∨ e * 100 + 100 ≤ i → s.1 (l + 8) i = I (l + 8) i) ∧ ∀ c' n, 0 ≤ c' → c' < c → 0 ≤ n → n < cntS P (e + 1) → s.1 (l + 8) ((e * 10 + c') * 10 + n) = stepS P e c' n) (n := cntS P e) (by
    rintro c ⟨J, o5⟩ hlt ⟨h0, h1, h2, h3⟩
    have h1 : onl (l + 8) I J := h1
    have inner := loop_up (σ := Mm) (head := fun n s => rn 36 5 [some (.ref l), some (.ref q), some (.int (iI e)), some (.int (iI (I (q + 4) e))), some (.int (iI c)), some (.int (iI n))] [] (mk g s))
      (Inv := fun n s => 0 ≤ n ∧ onl (l + 8) I s ∧ (∀ i, i < e * 100 ∨ e * 100 + 100 ≤ i → s (l + 8) i = I (l + 8) i) ∧ (∀ c' n', 0 ≤ c' → c' < c → 0 ≤ n' → n' < cntS P (e + 1) → s (l + 8) ((e * 10 + c') * 10 + n') = stepS P e c' n') ∧ ∀ n', 0 ≤ n' → n' < n → s (l + 8) ((e * 10 + c) * 10 + n') = stepS P e c n') (n := cntS P (e + 1)) (by
      rintro n J nlt ⟨n00, h1, h2, h3, h4⟩
      have fr := h1.frP (l := l) (by omega)
      have e2 : J (l + 2) = I (l + 2) := h1 _ (by omega)
      have e4 : J (l + 4) = I (l + 4) := h1 _ (by omega)
      have eq2 : J (q + 2) = I (q + 2) := h1 _ (by omega)
      have hcn : J (l + 2) (e + 1) = cntS P (e + 1) := by rw [e2]; exact hc'.1
      have fA := (hc.2 c h0 hlt).1
      have fB := (hc'.2 n n00 nlt).1
      have hcost := s_costOfPassage (g := g) (I := J) (e := e) (w := I (q + 4) e) (r := (e * 10 + c) * 3) (r' := ((e + 1) * 10 + n) * 3) (R := l + 3) hp' (frPB fr hq hG.1) (by omega) hr l_3 (by omega) (by omega) (by rw [eq2, ← z0]; exact n0.1.1) (by rw [eq2, ← z1]; exact n1.1.1)
        (fun k k0 k1 => by rw [eq2, ← z0] at k1; rw [e4, fA k k0 k1]; exact fgP_b n0.1) (fun k k0 k1 => by rw [eq2, ← z1] at k1; rw [e4, fB k k0 k1]; exact fgP_b n1.1)
      have hE : passS (pv J q) e (I (q + 4) e) (fun k => J (l + 3 + 1) ((e * 10 + c) * 3 + k)) (fun k => J (l + 3 + 1) (((e + 1) * 10 + n) * 3 + k)) = stepS P e c n := by
        rw [frPv fr hq, ← hP, ← hrr]
        exact pass_F hbd.1 n0.1.1 n1.1.1 (fun k k0 k1 => by show J (l + 4) _ = _; rw [e4]; exact fA k k0 k1) (fun k k0 k1 => by show J (l + 4) _ = _; rw [e4]; exact fB k k0 k1)
      rw [hE] at hcost
      have hsb := hbd.2.2.2.2.1 e (pRe P e) c n he.1 (by omega) (by omega)
      refine ⟨upd2 J (l + 8) ((e * 10 + c) * 10 + n) (stepS P e c n), ?_, by omega, h1.upd, fun i hi => by rw [upd2_i (by omega)]; exact h2 i hi, fun c' n' a b a' b' => by rw [upd2_i (by omega)]; exact h3 c' n' a b a' b', fun n' a b => ?_⟩
      · show rn _ _ _ _ _ = rn _ _ _ _ _
        refine (w_36_5 (by first | assumption | omega) (by first | assumption | omega)).trans ?_
        simp (maxSteps := 2000000) (disch := first | assumption | omega) only [aft_v, aft_n, aft_t, Nat.add_assoc, Nat.reduceAdd, if_true, if_false, not_true_eq_false, not_false_eq_true, Classical.not_not, Int.reduceAdd, Int.reduceSub, Int.reduceMul, Int.reduceNeg, Int.reduceLT, Int.reduceLE, Int.reduceEq, Int.add_zero, Int.zero_add, Int.sub_zero, w_36_6, w_36_7, w_36_8, w_36_9, w_36_10, w_36_11, w_36_12, s_row_get, s_row_put, hcn, if_neg (show ¬ cntS P (e + 1) ≤ n by omega), s_placeOfStep, s_baseOf, hcost]
      · by_cases hn : n' = n
        · subst hn; rw [upd2_at]
        · rw [upd2_i (by omega)]; exact h4 n' a (by omega)) 0 J n1.2.1 ⟨Int.le_refl _, h1, h2, h3, fun n' a b => by omega⟩
    obtain ⟨J', e1, -, k1, k2, k3, k4⟩ := inner
    have e1 : rn 36 5 [some (.ref l), some (.ref q), some (.int (iI e)), some (.int (iI (I (q + 4) e))), some (.int (iI c)), some (.int (iI 0))] [] (mk g J) = rn 36 5 [some (.ref l), some (.ref q), some (.int (iI e)), some (.int (iI (I (q + 4) e))), some (.int (iI c)), some (.int (iI (cntS P (e + 1))))] [] (mk g J') := e1
    have hcJ : J (l + 2) e = cntS P e := by rw [h1 _ (by omega)]; exact hc.1
    have hcJ' : J' (l + 2) (e + 1) = cntS P (e + 1) := by rw [k1 _ (by omega)]; exact hc'.1
    refine ⟨(J', some (.int (iI (cntS P (e + 1))))), ?_, by omega, k1, k2, fun c' n a b a' b' => ?_⟩
    · show rn _ _ _ _ _ = rn _ _ _ _ _
      refine (w_36_2 (by first | assumption | omega) (by first | assumption | omega)).trans ?_
      simp (maxSteps := 2000000) (disch := first | assumption | omega) only [aft_v, aft_n, aft_t, Nat.add_assoc, Nat.reduceAdd, if_true, if_false, not_true_eq_false, not_false_eq_true, Classical.not_not, Int.reduceAdd, Int.reduceSub, Int.reduceMul, Int.reduceNeg, Int.reduceLT, Int.reduceLE, Int.reduceEq, Int.add_zero, Int.zero_add, Int.sub_zero, w_36_3, w_36_4, s_row_get, hcJ, if_neg (show ¬ cntS P e ≤ c by omega)]
      rw [e1]
      refine (w_36_5 (by first | assumption | omega) (by first | assumption | omega)).trans ?_
      simp (maxSteps := 2000000) (disch := first | assumption | omega) only [aft_v, aft_n, aft_t, Nat.add_assoc, Nat.reduceAdd, if_true, if_false, not_true_eq_false, not_false_eq_true, Classical.not_not, Int.reduceAdd, Int.reduceSub, Int.reduceMul, Int.reduceNeg, Int.reduceLT, Int.reduceLE, Int.reduceEq, Int.add_zero, Int.zero_add, Int.sub_zero, w_36_6, w_36_13, s_row_get, hcJ', if_pos (Int.le_refl (cntS P (e + 1)))]
    · by_cases hcc : c' = c
      · subst hcc; exact k4 n a' b'
      · exact k3 c' n a (by omega) a' b') 0 (I, none) n0.2.1 ⟨Int.le_refl _, onl.refl, fun _ _ => rfl, fun c' n a b => by omega⟩
  obtain ⟨⟨J, o⟩, e1, -, k1, k2, k3⟩ := outer
  have e1 : rn 36 2 [some (.ref l), some (.ref q), some (.int (iI e)), some (.int (iI (I (q + 4) e))), some (.int (iI 0)), none] [] (mk g I) = rn 36 2 [some (.ref l), some (.ref q), some (.int (iI e)), some (.int (iI (I (q + 4) e))), some (.int (iI (cntS P e))), o] [] (mk g J) := e1
  have k1 : onl (l + 8) I J := k1
  have hcJ : J (l + 2) e = cntS P e := by rw [k1 _ (by omega)]; exact hc.1
  refine ⟨J, ?_, k1, k2, k3⟩
  simp (maxSteps := 2000000) (disch := first | assumption | omega) only [aft_v, aft_n, aft_t, Nat.add_assoc, Nat.reduceAdd, if_true, if_false, not_true_eq_false, not_false_eq_true, Classical.not_not, Int.reduceAdd, Int.reduceSub, Int.reduceMul, Int.reduceNeg, Int.reduceLT, Int.reduceLE, Int.reduceEq, Int.add_zero, Int.zero_add, Int.sub_zero, c_36, w_36_0, w_36_1, s_row_get]
  rw [e1]
  refine (w_36_2 (by first | assumption | omega) (by first | assumption | omega)).trans ?_
  simp (maxSteps := 2000000) (disch := first | assumption | omega) only [aft_v, aft_n, aft_t, Nat.add_assoc, Nat.reduceAdd, if_true, if_false, not_true_eq_false, not_false_eq_true, Classical.not_not, Int.reduceAdd, Int.reduceSub, Int.reduceMul, Int.reduceNeg, Int.reduceLT, Int.reduceLE, Int.reduceEq, Int.add_zero, Int.zero_add, Int.sub_zero, w_36_3, w_36_14, s_row_get, hcJ, if_pos (Int.le_refl (cntS P e))]
theorem s_fillAhead {P : PT} {b : Int} {R : Nat} (hp : isPc g q) (hl : isPl g l) (hG : gd I q) (hP : P = pv I q) (hq : q + 17 ≤ l ∨ l + 20 ≤ q) (hb : 0 ≤ b ∧ b ≤ 87) (hR : R = l + 9 ∨ R = l + 15) (hev : I l 1 = I q 1) (hc : ∀ e, 0 ≤ e → e < pE P → ChF P l I e) (hst : ∀ e, 0 ≤ e → e + 1 < pE P → StF P l I e) :
    ∃ I', cl 37 [.ref l, .ref q, .int (iI b), .ref R] (mk g I) = some (.inl none, mk g I') ∧ onl (R + 1) I I' ∧ ∀ e, 0 ≤ e → e < pE P → AhF P b (R + 1) I' e := by
  have hbd := gd_bd hG
  rw [← hP] at hbd
  have hl' := hl
  have hp' := hp
  obtain ⟨l_0, ⟨l_1, m_1, l_2⟩, ⟨l_3, m_3, l_4⟩, ⟨l_5, m_5, l_6⟩, ⟨l_7, m_7, l_8⟩, ⟨l_9, m_9, l_10⟩, ⟨l_11, m_11, l_12⟩, ⟨l_13, m_13, l_14⟩, ⟨l_15, m_15, l_16⟩, ⟨l_17, m_17, l_18⟩, l_19, l_20⟩ := hl
  obtain ⟨p_0, ⟨p_1, q_1, p_2⟩, ⟨p_3, q_3, p_4⟩, ⟨p_5, q_5, p_6⟩, ⟨p_7, q_7, p_8⟩, ⟨p_9, q_9, p_10⟩, ⟨p_11, q_11, p_12⟩, ⟨p_13, q_13, p_14⟩, ⟨p_15, q_15, p_16⟩⟩ := hp
  have hRR : isR g R ∧ g.1 R = sX2 R ∧ gn g (R + 1) = 400 := by rcases hR with rfl | rfl; exact ⟨l_9, m_9, l_10⟩; exact ⟨l_15, m_15, l_16⟩
  obtain ⟨hR1, hR2, hR3⟩ := hRR
  have hEP : pE P = I q 1 := by rw [hP]; rfl
  have b1 := hG.1.2.1
  have outer := loop_up (σ := Mm × Option Value × Option Value × Option Value) (head := fun e s => rn 37 1 [some (.ref l), some (.ref q), some (.int (iI b)), some (.ref R), some (.int (iI e)), s.2.1, s.2.2.1, s.2.2.2] [] (mk g s.1))
    (Inv := fun e s => 0 ≤ e ∧ onl (R + 1) I s.1 ∧ ∀ e', 0 ≤ e' → e' < e → AhF P b (R + 1) s.1 e') (n := pE P) (by
    rintro e ⟨J, o5, o6, o7⟩ hlt ⟨h0, h1, h2⟩
    have h1 : onl (R + 1) I J := h1
    have n0 := hbd.2.2.1 e h0 hlt
    have z0 : pSz P e = I (q + 2) e := by rw [hP]; rfl
    have inner := loop_up (σ := Mm × Option Value × Option Value) (head := fun c s => rn 37 3 [some (.ref l), some (.ref q), some (.int (iI b)), some (.ref R), some (.int (iI e)), some (.int (iI c)), s.2.1, s.2.2] [] (mk g s.1))
      (Inv := fun c s => 0 ≤ c ∧ onl (R + 1) I s.1 ∧ (∀ e', 0 ≤ e' → e' < e → AhF P b (R + 1) s.1 e') ∧ ∀ c', 0 ≤ c' → c' < c → s.1 (R + 1) (e * 10 + c') = ahS P b e c') (n := cntS P e) (by
      rintro c ⟨J, o6, o7⟩ clt ⟨c00, h1, h2, h3⟩
      have h1 : onl (R + 1) I J := h1
      have h2 : ∀ e', 0 ≤ e' → e' < e → AhF P b (R + 1) J e' := h2
      have h3 : ∀ c', 0 ≤ c' → c' < c → J (R + 1) (e * 10 + c') = ahS P b e c' := h3
      have fr := h1.frP (l := l) (by omega)
      have e2 : J (l + 2) = I (l + 2) := h1 _ (by omega)
      have e4 : J (l + 4) = I (l + 4) := h1 _ (by omega)
      have e8 : J (l + 8) = I (l + 8) := h1 _ (by omega)
      have eq2 : J (q + 2) = I (q + 2) := h1 _ (by omega)
      have eq6 : J (q + 6) = I (q + 6) := h1 _ (by omega)
      have hcn : J (l + 2) e = cntS P e := by rw [e2]; exact (hc e h0 hlt).1
      have fA := ((hc e h0 hlt).2 c c00 clt).1
      have hev' := (hG.2 e h0 (by omega))
      have hcost := s_costOfEvent (g := g) (I := J) (e := e) (b := b) (r := (e * 10 + c) * 3) (R := l + 3) hp' (frPB fr hq hG.1) (by omega) hb l_3 (by omega) (by rw [eq2]; exact hev'.1)
        (fun k k0 k1 => by rw [eq2, ← z0] at k1; rw [e4, fA k k0 k1]; exact fgP_b n0.1) (by rw [eq2, eq6]; exact hev'.2)
      have hE : ecostS (pv J q) e b (fun k => J (l + 3 + 1) ((e * 10 + c) * 3 + k)) = ownS P b e c := by
        rw [frPv fr hq, ← hP]
        exact ecost_F n0.1.1 (fun k k0 k1 _ => by show J (l + 4) _ = _; rw [e4]; exact fA k k0 k1)
      rw [hE] at hcost
      have hob := hbd.2.2.2.1 b e c h0 hlt
      by_cases he0 : e = 0
      · have hv : sumS 0 (ownS P b e c) = ahS P b e c := by
          rw [he0, ahS_0]
          unfold sumS; rw [he0] at hob; split <;> omega
        refine ⟨(upd2 J (R + 1) (e * 10 + c) (ahS P b e c), some (.int (iI (ownS P b e c))), some (.int (iI 0))), ?_, by omega, h1.upd, fun e' a b' => by omega, fun c' a b' => ?_⟩
        · show rn _ _ _ _ _ = rn _ _ _ _ _
          refine (w_37_3 (by first | assumption | omega) (by first | assumption | omega)).trans ?_
          simp (maxSteps := 2000000) (disch := first | assumption | omega) only [aft_v, aft_n, aft_t, Nat.add_assoc, Nat.reduceAdd, if_true, if_false, not_true_eq_false, not_false_eq_true, Classical.not_not, Int.reduceAdd, Int.reduceSub, Int.reduceMul, Int.reduceNeg, Int.reduceLT, Int.reduceLE, Int.reduceEq, Int.add_zero, Int.zero_add, Int.sub_zero, w_37_4, w_37_5, w_37_6, w_37_7, w_37_8, w_37_10, w_37_11, w_37_12, w_37_13, s_row_get, s_row_put, hcn, if_neg (show ¬ cntS P e ≤ c by omega), s_placeOfChoice, s_baseOf, hcost, if_neg (show ¬ ¬ e = 0 by omega), s_sumOf, hv]
        · by_cases hcc : c' = c
          · subst hcc; exact upd2_at
          · show upd2 J (R + 1) (e * 10 + c) (ahS P b e c) (R + 1) (e * 10 + c') = _
            rw [upd2_i (by omega)]; exact h3 c' a (by omega)
      · have hcp : J (l + 2) (e - 1) = cntS P (e - 1) := by rw [e2]; exact (hc (e - 1) (by omega) (by omega)).1
        have np := hbd.2.2.1 (e - 1) (by omega) (by omega)
        have hA := fun i (i0 : 0 ≤ i) (i1 : i < J (l + 2) (e - 1)) => (show J (R + 1) ((e - 1) * 10 + i) = ahS P b (e - 1) i from h2 (e - 1) (by omega) (by omega) i i0 (by omega))
        have hS := fun i (i0 : 0 ≤ i) (i1 : i < J (l + 2) (e - 1)) => (show J (l + 8) (((e - 1) * 10 + i) * 10 + c) = stepS P (e - 1) i c by rw [e8]; exact hst (e - 1) (by omega) (by omega) i c i0 (by omega) c00 (by rw [show e - 1 + 1 = e by omega]; exact clt))
        have hi := s_leastInto (g := g) (I := J) (e := e) (c := c) (A := 1200000) (R := R) hl' hR1 hR3 (by omega) (by omega) (by omega) (by decide)
          (fun i i0 i1 => by rw [hA i i0 i1]; exact ahS_b hbd (by omega) (by omega)) (fun i i0 i1 => by rw [hS i i0 i1]; have := hbd.2.2.2.2.1 (e - 1) (pRe P (e - 1)) i c (by omega) (by omega) (hbd.2.2.2.2.2 _ (by omega) (by omega)).1; unfold stepS; omega)
        have hmn : mnI (fun i => sumS (J (R + 1) ((e - 1) * 10 + i)) (J (l + 8) (((e - 1) * 10 + i) * 10 + c))) (J (l + 2) (e - 1)) = mnI (fun c' => sumS (ahS P b (e - 1) c') (stepS P (e - 1) c' c)) (cntS P (e - 1)) := by
          rw [← hcp]
          exact mnI_congr (fun i i0 i1 => by rw [hA i i0 i1, hS i i0 i1]) (by omega)
        rw [hmn] at hi
        have hib := mnI_b (f := fun c' => sumS (ahS P b (e - 1) c') (stepS P (e - 1) c' c)) (n := cntS P (e - 1)) (A := 1200000 + 21384) np.2.1 (by decide) (fun i _ _ => sum_b (ahS_b hbd (by omega) (by omega)) (hbd.2.2.2.2.1 (e - 1) (pRe P (e - 1)) i c (by omega) (by omega) (hbd.2.2.2.2.2 _ (by omega) (by omega)).1) (by decide) (by decide))
        have hv := (ahS_s (P := P) (b := b) (e := e) (c := c) (by omega)).symm
        refine ⟨(upd2 J (R + 1) (e * 10 + c) (ahS P b e c), some (.int (iI (ownS P b e c))), some (.int (iI (mnI (fun c' => sumS (ahS P b (e - 1) c') (stepS P (e - 1) c' c)) (cntS P (e - 1)))))), ?_, by omega, h1.upd, fun e' a b' c' ca cb => ?_, fun c' a b' => ?_⟩
        · show rn _ _ _ _ _ = rn _ _ _ _ _
          generalize mnI (fun c' => sumS (ahS P b (e - 1) c') (stepS P (e - 1) c' c)) (cntS P (e - 1)) = M at *
          refine (w_37_3 (by first | assumption | omega) (by first | assumption | omega)).trans ?_
          simp (maxSteps := 2000000) (disch := first | assumption | omega) only [aft_v, aft_n, aft_t, Nat.add_assoc, Nat.reduceAdd, if_true, if_false, not_true_eq_false, not_false_eq_true, Classical.not_not, Int.reduceAdd, Int.reduceSub, Int.reduceMul, Int.reduceNeg, Int.reduceLT, Int.reduceLE, Int.reduceEq, Int.add_zero, Int.zero_add, Int.sub_zero, w_37_4, w_37_5, w_37_6, w_37_7, w_37_9, w_37_10, w_37_11, w_37_12, w_37_13, s_row_get, s_row_put, hcn, if_neg (show ¬ cntS P e ≤ c by omega), s_placeOfChoice, s_baseOf, hcost, if_pos (show ¬ e = 0 by omega), hi, s_sumOf, hv]
        · show upd2 J (R + 1) (e * 10 + c) (ahS P b e c) (R + 1) (e' * 10 + c') = _
          have := hbd.2.2.1 e' a (by omega)
          rw [upd2_i (by omega)]; exact h2 e' a b' c' ca cb
        · by_cases hcc : c' = c
          · subst hcc; exact upd2_at
          · show upd2 J (R + 1) (e * 10 + c) (ahS P b e c) (R + 1) (e * 10 + c') = _
            rw [upd2_i (by omega)]; exact h3 c' a (by omega)) 0 (J, o6, o7) n0.2.1 ⟨Int.le_refl _, h1, h2, fun c' a b => by omega⟩
    obtain ⟨⟨J', p6, p7⟩, e1, -, k1, k2, k3⟩ := inner
    have e1 : rn 37 3 [some (.ref l), some (.ref q), some (.int (iI b)), some (.ref R), some (.int (iI e)), some (.int (iI 0)), o6, o7] [] (mk g J) = rn 37 3 [some (.ref l), some (.ref q), some (.int (iI b)), some (.ref R), some (.int (iI e)), some (.int (iI (cntS P e))), p6, p7] [] (mk g J') := e1
    have k1 : onl (R + 1) I J' := k1
    have k2 : ∀ e', 0 ≤ e' → e' < e → AhF P b (R + 1) J' e' := k2
    have k3 : ∀ c', 0 ≤ c' → c' < cntS P e → J' (R + 1) (e * 10 + c') = ahS P b e c' := k3
    have hcn : J' (l + 2) e = cntS P e := by rw [k1 _ (by omega)]; exact (hc e h0 hlt).1
    have hJe : J l 1 = pE P := by rw [h1 l (by omega), hev, hEP]
    refine ⟨(J', some (.int (iI (cntS P e))), p6, p7), ?_, by omega, k1, fun e' a b' => ?_⟩
    · show rn _ _ _ _ (mk g J) = rn _ _ _ _ _
      refine (w_37_1 (by first | assumption | omega) (by first | assumption | omega) (by first | assumption | omega) (by first | assumption | omega) (by first | assumption | omega)).trans ?_
      simp (maxSteps := 2000000) (disch := first | assumption | omega) only [aft_v, aft_n, aft_t, Nat.add_assoc, Nat.reduceAdd, if_true, if_false, not_true_eq_false, not_false_eq_true, Classical.not_not, Int.reduceAdd, Int.reduceSub, Int.reduceMul, Int.reduceNeg, Int.reduceLT, Int.reduceLE, Int.reduceEq, Int.add_zero, Int.zero_add, Int.sub_zero, w_37_2, hJe, if_neg (show ¬ pE P ≤ e by omega)]
      rw [e1]
      refine (w_37_3 (by first | assumption | omega) (by first | assumption | omega)).trans ?_
      simp (maxSteps := 2000000) (disch := first | assumption | omega) only [aft_v, aft_n, aft_t, Nat.add_assoc, Nat.reduceAdd, if_true, if_false, not_true_eq_false, not_false_eq_true, Classical.not_not, Int.reduceAdd, Int.reduceSub, Int.reduceMul, Int.reduceNeg, Int.reduceLT, Int.reduceLE, Int.reduceEq, Int.add_zero, Int.zero_add, Int.sub_zero, w_37_4, w_37_14, s_row_get, hcn, if_pos (Int.le_refl (cntS P e))]
    · by_cases hee : e' = e
      · subst hee; exact k3
      · exact k2 e' a (by omega)) 0 (I, none, none, none) hbd.2.1.1 ⟨Int.le_refl _, onl.refl, fun e' a b => by omega⟩
  obtain ⟨⟨J, o5, o6, o7⟩, e1, -, k1, k2⟩ := outer
  have e1 : rn 37 1 [some (.ref l), some (.ref q), some (.int (iI b)), some (.ref R), some (.int (iI 0)), none, none, none] [] (mk g I) = rn 37 1 [some (.ref l), some (.ref q), some (.int (iI b)), some (.ref R), some (.int (iI (pE P))), o5, o6, o7] [] (mk g J) := e1
  have k1 : onl (R + 1) I J := k1
  have hJe : J l 1 = pE P := by rw [k1 l (by omega), hev, hEP]
  refine ⟨J, ?_, k1, k2⟩
  simp (maxSteps := 2000000) (disch := first | assumption | omega) only [aft_v, aft_n, aft_t, Nat.add_assoc, Nat.reduceAdd, if_true, if_false, not_true_eq_false, not_false_eq_true, Classical.not_not, Int.reduceAdd, Int.reduceSub, Int.reduceMul, Int.reduceNeg, Int.reduceLT, Int.reduceLE, Int.reduceEq, Int.add_zero, Int.zero_add, Int.sub_zero, c_37, w_37_0]
  rw [e1]
  refine (w_37_1 (by first | assumption | omega) (by first | assumption | omega) (by first | assumption | omega) (by first | assumption | omega) (by first | assumption | omega)).trans ?_
  simp (maxSteps := 2000000) (disch := first | assumption | omega) only [aft_v, aft_n, aft_t, Nat.add_assoc, Nat.reduceAdd, if_true, if_false, not_true_eq_false, not_false_eq_true, Classical.not_not, Int.reduceAdd, Int.reduceSub, Int.reduceMul, Int.reduceNeg, Int.reduceLT, Int.reduceLE, Int.reduceEq, Int.add_zero, Int.zero_add, Int.sub_zero, w_37_15, hJe, if_pos (Int.le_refl (pE P))]
theorem s_fillBehind {P : PT} (hl : isPl g l) (hbd : bdP P) (hev : I l 1 = pE P) (hc : ∀ e, 0 ≤ e → e < pE P → ChF P l I e) (hst : ∀ e, 0 ≤ e → e + 1 < pE P → StF P l I e) :
    ∃ I', cl 39 [.ref l] (mk g I) = some (.inl none, mk g I') ∧ onl (l + 12) I I' ∧ ∀ e, 0 ≤ e → e < pE P → BhF P l I' e := by
  have hl' := hl
  obtain ⟨l_0, ⟨l_1, m_1, l_2⟩, ⟨l_3, m_3, l_4⟩, ⟨l_5, m_5, l_6⟩, ⟨l_7, m_7, l_8⟩, ⟨l_9, m_9, l_10⟩, ⟨l_11, m_11, l_12⟩, ⟨l_13, m_13, l_14⟩, ⟨l_15, m_15, l_16⟩, ⟨l_17, m_17, l_18⟩, l_19, l_20⟩ := hl
  have b1 := hbd.2.1
  have outer := loop_up (σ := Mm × Option Value × Option Value) (head := fun i s => rn 39 1 [some (.ref l), some (.int (iI (pE P - 1 - i))), s.2.1, s.2.2] [] (mk g s.1))
    (Inv := fun i s => 0 ≤ i ∧ onl (l + 12) I s.1 ∧ ∀ e', pE P - 1 - i < e' → e' < pE P → BhF P l s.1 e') (n := pE P) (by
    rintro i ⟨J, o2, o3⟩ hlt ⟨hi0, h1, h2⟩
    obtain ⟨e, he⟩ : ∃ e : Int, e = pE P - 1 - i := ⟨_, rfl⟩
    have h1 : onl (l + 12) I J := h1
    have h2 : ∀ e', e < e' → e' < pE P → BhF P l J e' := by rw [he]; exact h2
    have n0 := hbd.2.2.1 e (by omega) (by omega)
    have inner := loop_up (σ := Mm × Option Value) (head := fun c s => rn 39 3 [some (.ref l), some (.int (iI e)), some (.int (iI c)), s.2] [] (mk g s.1))
      (Inv := fun c s => 0 ≤ c ∧ onl (l + 12) I s.1 ∧ (∀ e', e < e' → e' < pE P → BhF P l s.1 e') ∧ ∀ c', 0 ≤ c' → c' < c → s.1 (l + 12) (e * 10 + c') = bhS P e c') (n := cntS P e) (by
      rintro c ⟨J, o3⟩ clt ⟨c00, h1, h2, h3⟩
      have h1 : onl (l + 12) I J := h1
      have h2 : ∀ e', e < e' → e' < pE P → BhF P l J e' := h2
      have h3 : ∀ c', 0 ≤ c' → c' < c → J (l + 12) (e * 10 + c') = bhS P e c' := h3
      have e1 : J l = I l := h1 _ (by omega)
      have e2 : J (l + 2) = I (l + 2) := h1 _ (by omega)
      have e6 : J (l + 6) = I (l + 6) := h1 _ (by omega)
      have e8 : J (l + 8) = I (l + 8) := h1 _ (by omega)
      have hcn : J (l + 2) e = cntS P e := by rw [e2]; exact (hc e (by omega) (by omega)).1
      have hJe : J l 1 = pE P := by rw [e1, hev]
      have fin : ∀ e', e < e' → e' < pE P → BhF P l (upd2 J (l + 12) (e * 10 + c) (bhS P e c)) e' := fun e' a b' c' ca cb => by
        have := hbd.2.2.1 e' (by omega) b'
        rw [upd2_i (by omega)]; exact h2 e' a b' c' ca cb
      have fin2 : ∀ c', 0 ≤ c' → c' < c + 1 → upd2 J (l + 12) (e * 10 + c) (bhS P e c) (l + 12) (e * 10 + c') = bhS P e c' := fun c' a b' => by
        by_cases hcc : c' = c
        · subst hcc; exact upd2_at
        · rw [upd2_i (by omega)]; exact h3 c' a (by omega)
      by_cases hel : e = pE P - 1
      · have hv : (0 : Int) = bhS P e c := (bhS_l hel).symm
        refine ⟨(upd2 J (l + 12) (e * 10 + c) (bhS P e c), some (.int (iI 0))), ?_, by omega, h1.upd, fin, fin2⟩
        show rn _ _ _ _ (mk g J) = rn _ _ _ _ _
        refine (w_39_3 (by first | assumption | omega) (by first | assumption | omega)).trans ?_
        simp (maxSteps := 2000000) (disch := first | assumption | omega) only [aft_v, aft_n, aft_t, Nat.add_assoc, Nat.reduceAdd, if_true, if_false, not_true_eq_false, not_false_eq_true, Classical.not_not, Int.reduceAdd, Int.reduceSub, Int.reduceMul, Int.reduceNeg, Int.reduceLT, Int.reduceLE, Int.reduceEq, Int.add_zero, Int.zero_add, Int.sub_zero, w_39_4, w_39_5, w_39_6, w_39_8, w_39_9, w_39_10, s_row_get, s_row_put, hcn, if_neg (show ¬ cntS P e ≤ c by omega), s_placeOfChoice, hJe, if_neg (show ¬ ¬ e = pE P - 1 by omega)]
        rw [hv]
      · have hcp : J (l + 2) (e + 1) = cntS P (e + 1) := by rw [e2]; exact (hc (e + 1) (by omega) (by omega)).1
        have np := hbd.2.2.1 (e + 1) (by omega) (by omega)
        have hO := fun i (i0 : 0 ≤ i) (i1 : i < J (l + 2) (e + 1)) => (show J (l + 6) ((e + 1) * 10 + i) = ownS P 0 (e + 1) i by rw [e6]; exact ((hc (e + 1) (by omega) (by omega)).2 i i0 (by omega)).2)
        have hB := fun i (i0 : 0 ≤ i) (i1 : i < J (l + 2) (e + 1)) => (show J (l + 12) ((e + 1) * 10 + i) = bhS P (e + 1) i from h2 (e + 1) (by omega) (by omega) i i0 (by omega))
        have hS := fun i (i0 : 0 ≤ i) (i1 : i < J (l + 2) (e + 1)) => (show J (l + 8) ((e * 10 + c) * 10 + i) = stepS P e c i by rw [e8]; exact hst e (by omega) (by omega) c i c00 clt i0 (by omega))
        have hi := s_leastOutOf (g := g) (I := J) (e := e) (c := c) (A := 1200000) hl' (by omega) (by omega) (by omega) (by decide)
          (fun i i0 i1 => by rw [hO i i0 i1]; have := hbd.2.2.2.1 0 (e + 1) i (by omega) (by omega); omega) (fun i i0 i1 => by rw [hB i i0 i1]; exact bhS_b hbd (by omega) (by omega)) (fun i i0 i1 => by rw [hS i i0 i1]; have := hbd.2.2.2.2.1 e (pRe P e) c i (by omega) (by omega) (hbd.2.2.2.2.2 _ (by omega) (by omega)).1; unfold stepS; omega)
        have hmn : mnI (fun n => sumS (J (l + 8) ((e * 10 + c) * 10 + n)) (sumS (J (l + 6) ((e + 1) * 10 + n)) (J (l + 12) ((e + 1) * 10 + n)))) (J (l + 2) (e + 1)) = bhS P e c := by
          rw [bhS_s (by omega), ← hcp]
          exact mnI_congr (fun i i0 i1 => by rw [hO i i0 i1, hB i i0 i1, hS i i0 i1]) (by omega)
        rw [hmn] at hi
        refine ⟨(upd2 J (l + 12) (e * 10 + c) (bhS P e c), some (.int (iI (bhS P e c)))), ?_, by omega, h1.upd, fin, fin2⟩
        show rn _ _ _ _ (mk g J) = rn _ _ _ _ _
        refine (w_39_3 (by first | assumption | omega) (by first | assumption | omega)).trans ?_
        simp (maxSteps := 2000000) (disch := first | assumption | omega) only [aft_v, aft_n, aft_t, Nat.add_assoc, Nat.reduceAdd, if_true, if_false, not_true_eq_false, not_false_eq_true, Classical.not_not, Int.reduceAdd, Int.reduceSub, Int.reduceMul, Int.reduceNeg, Int.reduceLT, Int.reduceLE, Int.reduceEq, Int.add_zero, Int.zero_add, Int.sub_zero, w_39_4, w_39_5, w_39_7, w_39_8, w_39_9, w_39_10, s_row_get, s_row_put, hcn, if_neg (show ¬ cntS P e ≤ c by omega), s_placeOfChoice, hJe, if_pos (show ¬ e = pE P - 1 by omega), hi]) 0 (J, o3) n0.2.1 ⟨Int.le_refl _, h1, h2, fun c' a b => by omega⟩
    obtain ⟨⟨J', p3⟩, e1, -, k1, k2, k3⟩ := inner
    have e1 : rn 39 3 [some (.ref l), some (.int (iI e)), some (.int (iI 0)), o3] [] (mk g J) = rn 39 3 [some (.ref l), some (.int (iI e)), some (.int (iI (cntS P e))), p3] [] (mk g J') := e1
    have k1 : onl (l + 12) I J' := k1
    have k2 : ∀ e', e < e' → e' < pE P → BhF P l J' e' := k2
    have k3 : ∀ c', 0 ≤ c' → c' < cntS P e → J' (l + 12) (e * 10 + c') = bhS P e c' := k3
    have hcn : J' (l + 2) e = cntS P e := by rw [k1 _ (by omega)]; exact (hc e (by omega) (by omega)).1
    refine ⟨(J', some (.int (iI (cntS P e))), p3), ?_, by omega, k1, fun e' a b' => ?_⟩
    · show rn _ _ [_, some (.int (iI (pE P - 1 - i))), _, _] _ (mk g J) = rn _ _ [_, some (.int (iI (pE P - 1 - (i + 1)))), _, _] _ _
      rw [show pE P - 1 - (i + 1) = e + -1 by omega, ← he]
      refine (w_39_1 (by first | assumption | omega) (by first | assumption | omega)).trans ?_
      refine (if_neg (by omega)).trans ?_
      simp (maxSteps := 2000000) (disch := first | assumption | omega) only [aft_v, aft_n, aft_t, Nat.add_assoc, Nat.reduceAdd, if_true, if_false, not_true_eq_false, not_false_eq_true, Classical.not_not, Int.reduceAdd, Int.reduceSub, Int.reduceMul, Int.reduceNeg, Int.reduceLT, Int.reduceLE, Int.reduceEq, Int.add_zero, Int.zero_add, Int.sub_zero, w_39_2]
      rw [e1]
      refine (w_39_3 (by first | assumption | omega) (by first | assumption | omega)).trans ?_
      simp (maxSteps := 2000000) (disch := first | assumption | omega) only [aft_v, aft_n, aft_t, Nat.add_assoc, Nat.reduceAdd, if_true, if_false, not_true_eq_false, not_false_eq_true, Classical.not_not, Int.reduceAdd, Int.reduceSub, Int.reduceMul, Int.reduceNeg, Int.reduceLT, Int.reduceLE, Int.reduceEq, Int.add_zero, Int.zero_add, Int.sub_zero, w_39_4, w_39_11, s_row_get, hcn, if_pos (Int.le_refl (cntS P e))]
    · by_cases hee : e' = e
      · subst hee; exact k3
      · exact k2 e' (by omega) b') 0 (I, none, none) hbd.2.1.1 ⟨Int.le_refl _, onl.refl, fun e' a b => by omega⟩
  obtain ⟨⟨J, o2, o3⟩, e1, -, k1, k2⟩ := outer
  have e1 : rn 39 1 [some (.ref l), some (.int (iI (pE P - 1 - 0))), none, none] [] (mk g I) = rn 39 1 [some (.ref l), some (.int (iI (pE P - 1 - pE P))), o2, o3] [] (mk g J) := e1
  rw [Int.sub_zero] at e1
  have k1 : onl (l + 12) I J := k1
  refine ⟨J, ?_, k1, fun e e0 e1 => k2 e (by omega) e1⟩
  simp (maxSteps := 2000000) (disch := first | assumption | omega) only [aft_v, aft_n, aft_t, Nat.add_assoc, Nat.reduceAdd, if_true, if_false, not_true_eq_false, not_false_eq_true, Classical.not_not, Int.reduceAdd, Int.reduceSub, Int.reduceMul, Int.reduceNeg, Int.reduceLT, Int.reduceLE, Int.reduceEq, Int.add_zero, Int.zero_add, Int.sub_zero, c_39, w_39_0, hev]
  rw [e1]
  refine (w_39_1 (by first | assumption | omega) (by first | assumption | omega)).trans ?_
  refine (if_pos (by omega)).trans ?_
  simp (maxSteps := 2000000) (disch := first | assumption | omega) only [aft_v, aft_n, aft_t, Nat.add_assoc, Nat.reduceAdd, if_true, if_false, not_true_eq_false, not_false_eq_true, Classical.not_not, Int.reduceAdd, Int.reduceSub, Int.reduceMul, Int.reduceNeg, Int.reduceLT, Int.reduceLE, Int.reduceEq, Int.add_zero, Int.zero_add, Int.sub_zero, w_39_12]
end SO
