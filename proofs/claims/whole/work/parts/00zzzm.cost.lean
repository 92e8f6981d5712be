/-! Costs and faults of told fingers. -/
def tA (P : PT) (F : Int → Int → Int) (e : Int) : Int := cdS (pSz P e) (F e)
def tcE (P : PT) (F : Int → Int → Int) (e : Int) : Int := ecostS P e 0 (fgS (tA P F e))
def tcP (P : PT) (F : Int → Int → Int) (e : Int) : Int := if e ≤ 0 then 0 else passS P (e - 1) (pRe P (e - 1)) (fgS (tA P F (e - 1))) (fgS (tA P F e))
noncomputable def tfL (P : PT) (F : Int → Int → Int) : Int := fnd (fun e => tcE P F e = -1 ∨ tcP P F e = -1) (pE P)
noncomputable def tfV (P : PT) (F : Int → Int → Int) : Int := if tfL P F < 0 then -1 else if tcE P F (tfL P F) = -1 then 10 * tfL P F + 1 else 10 * tfL P F + 2
noncomputable def tcV (P : PT) (F : Int → Int → Int) : Int := if tfL P F < 0 then sumN (fun e => tcE P F e + tcP P F e) (pE P).toNat else -10
section CT
variable {B : Int → Int} {n : Int} {P P' : PT} {F : Int → Int → Int}
theorem gTn_ok : ∀ (m : Nat) (k : Int) (f : Int → Int) (b : Int) (x : (Int → Int) × Int), 0 ≤ k → (∀ i, 0 ≤ i → i < k → 1 ≤ f i ∧ f i ≤ 5) → gTn B n m k f b = .inr x → ∀ i, 0 ≤ i → i < k + m → 1 ≤ x.1 i ∧ x.1 i ≤ 5 := by
  intro m
  induction m with
  | zero => intro k f b x k0 h e; simp only [gTn] at e; have e := Sum.inr.inj e; rw [← e]; exact fun i i0 i1 => h i i0 (by omega)
  | succ m ih =>
    intro k f b x k0 h e
    simp only [gTn] at e
    by_cases hk : tkK B n b = 0
    · rw [if_pos hk] at e; cases e
    rw [if_neg hk] at e
    obtain ⟨y, y1, y2⟩ := bnd_inr e
    have hy := gNu_ok y1
    have := ih (k + 1) _ y.2 x (by omega) (fun i i0 i1 => by
      by_cases hi : i = k
      · rw [if_pos hi]; exact ⟨hy.1, hy.2.1⟩
      · rw [if_neg hi]; exact h i i0 (by omega)) y2
    exact fun i i0 i1 => this i i0 (by omega)
theorem gTe_ok {sz : Int → Int} : ∀ (m : Nat) (e : Int) (F : Int → Int → Int) (b : Int) (x : (Int → Int → Int) × Int), 0 ≤ e → (∀ i k, 0 ≤ i → i < e → 0 ≤ k → k < sz i → 1 ≤ F i k ∧ F i k ≤ 5) → gTe B n sz m e F b = .inr x → ∀ i k, 0 ≤ i → i < e + m → 0 ≤ k → k < sz i → 1 ≤ x.1 i k ∧ x.1 i k ≤ 5 := by
  intro m
  induction m with
  | zero => intro e F b x e0 h z; simp only [gTe] at z; have z := Sum.inr.inj z; rw [← z]; exact fun i k i0 i1 => h i k i0 (by omega)
  | succ m ih =>
    intro e F b x e0 h z
    simp only [gTe] at z
    obtain ⟨y, y1, y2⟩ := bnd_inr z
    have hy := gTn_ok _ _ _ _ _ (Int.le_refl 0) (fun i i0 i1 => by omega) y1
    have := ih (e + 1) _ y.2 x (by omega) (fun i k i0 i1 k0 k1 => by
      by_cases hi : i = e
      · rw [if_pos hi]; exact hy k k0 (by rw [hi] at k1; omega)
      · rw [if_neg hi]; exact h i k i0 (by omega) k0 k1) y2
    exact fun i k i0 i1 => this i k i0 (by omega)
theorem gTl_ok (h : gTl B n P = .inr F) : ∀ e i, 0 ≤ e → e < pE P → 0 ≤ i → i < pSz P e → 1 ≤ F e i ∧ F e i ≤ 5 := by
  unfold gTl at h
  obtain ⟨y, y1, y2⟩ := bnd_inr h
  have hF : y.1 = F := by
    by_cases hk : tkK B n y.2 = 2
    · rw [if_pos hk] at y2; cases y2
    · rw [if_neg hk] at y2
      obtain ⟨z, _, z2⟩ := bnd_inr y2
      exact Sum.inr.inj z2
  have := gTe_ok _ _ _ _ _ (Int.le_refl 0) (fun i k i0 i1 => by omega) y1
  rw [hF] at this
  exact fun e i e0 e1 => this e i e0 (by omega)
def tOk (P : PT) (F : Int → Int → Int) : Prop := ∀ e i, 0 ≤ e → e < pE P → 0 ≤ i → i < pSz P e → 1 ≤ F e i ∧ F e i ≤ 5
theorem tA_b {e : Int} (hF : tOk P F) (e0 : 0 ≤ e) (e1 : e < pE P) : 0 ≤ tA P F e ∧ tA P F e < 125 := cdS_b (hF e · e0 e1)
theorem tA_f {e k : Int} (hW : Wf P) (hF : tOk P F) (e0 : 0 ≤ e) (e1 : e < pE P) (k0 : 0 ≤ k) (k1 : k < pSz P e) : fgS (tA P F e) k = F e k :=
  cdS_f (hF e · e0 e1) (hW.2.2.1 e e0 e1).1.2 k0 k1
theorem tcE_b {e : Int} (hW : Wf P) (hF : tOk P F) (e0 : 0 ≤ e) (e1 : e < pE P) : -1 ≤ tcE P F e ∧ tcE P F e ≤ 6000 := by
  have b := tA_b hF e0 e1
  exact ecost_W hW e0 e1 (fun k => fgS_b b.1 b.2)
theorem tcP_b {e : Int} (hW : Wf P) (hF : tOk P F) (e0 : 0 ≤ e) (e1 : e < pE P) : -1 ≤ tcP P F e ∧ tcP P F e ≤ 21384 := by
  unfold tcP
  by_cases h : e ≤ 0
  · rw [if_pos h]; decide
  rw [if_neg h]
  have b := tA_b hF e0 e1
  have b' := tA_b hF (show 0 ≤ e - 1 by omega) (show e - 1 < pE P by omega)
  exact pass_W hW (by omega) (by omega) (hW.2.2.1 (e - 1) (by omega) (by omega)).2.1.1 (fun k => fgS_b b'.1 b'.2) (fun k => fgS_b b.1 b.2)
theorem tA_A {e : Int} (hA : Agr P P') (e0 : 0 ≤ e) (e1 : e < pE P) : tA P F e = tA P' F e := by
  unfold tA
  rw [(hA.2.2.1 e e0 e1).1]
theorem tcE_A {e : Int} (hA : Agr P P') (hW : Wf P) (hF : tOk P F) (e0 : 0 ≤ e) (e1 : e < pE P) : tcE P F e = tcE P' F e := by
  unfold tcE
  rw [← tA_A hA e0 e1]
  have b := tA_b hF e0 e1
  exact ecost_A hA e0 e1 (hW.2.2.1 e e0 e1).1.1 (fun k => fgS_b b.1 b.2)
theorem tcP_A {e : Int} (hA : Agr P P') (hW : Wf P) (hF : tOk P F) (e0 : 0 ≤ e) (e1 : e < pE P) : tcP P F e = tcP P' F e := by
  unfold tcP
  by_cases h : e ≤ 0
  · rw [if_pos h, if_pos h]
  rw [if_neg h, if_neg h, ← tA_A hA e0 e1, ← tA_A hA (show 0 ≤ e - 1 by omega) (by omega), ← (hA.2.2.1 (e - 1) (by omega) (by omega)).2.1]
  have b := tA_b hF e0 e1
  have b' := tA_b hF (show 0 ≤ e - 1 by omega) (show e - 1 < pE P by omega)
  exact pass_A hA (by omega) (by omega) (hW.2.2.1 (e - 1) (by omega) (by omega)).1.1 (hW.2.2.1 (e - 1 + 1) (by omega) (by omega)).1.1 (fun k => fgS_b b'.1 b'.2) (fun k => fgS_b b.1 b.2)
theorem fnd_A {p p' : Int → Prop} {n : Int} (h : ∀ i, 0 ≤ i → i < n → (p i ↔ p' i)) (hn : 0 ≤ n) : fnd p n = fnd p' n := by
  rcases fnd_spec (p := p) hn with ⟨a, b⟩ | ⟨a, b, c, d⟩
  · rcases fnd_spec (p := p') hn with ⟨a', b'⟩ | ⟨a', b', c', d'⟩
    · rw [a, a']
    · exact absurd ((h _ a' b').mpr c') (b _ a' b')
  · exact (fnd_eq a b ((h _ a b).mp c) (fun j j0 j1 => fun z => d j j0 j1 ((h j j0 (by omega)).mpr z))).symm
theorem tfL_A (hA : Agr P P') (hW : Wf P) (hF : tOk P F) : tfL P F = tfL P' F := by
  unfold tfL
  rw [← hA.2.1]
  exact fnd_A (fun i i0 i1 => by rw [tcE_A hA hW hF i0 i1, tcP_A hA hW hF i0 i1]) hW.2.1.1
theorem tf_b (hW : Wf P) : (tfL P F = -1 ∧ ∀ e, 0 ≤ e → e < pE P → ¬ (tcE P F e = -1 ∨ tcP P F e = -1)) ∨ ((0 ≤ tfL P F ∧ tfL P F < pE P) ∧ (tcE P F (tfL P F) = -1 ∨ tcP P F (tfL P F) = -1) ∧ ∀ e, 0 ≤ e → e < tfL P F → ¬ (tcE P F e = -1 ∨ tcP P F e = -1)) := by
  unfold tfL
  rcases fnd_spec (p := fun e => tcE P F e = -1 ∨ tcP P F e = -1) hW.2.1.1 with ⟨a, b⟩ | ⟨a, b, c, d⟩
  · exact Or.inl ⟨a, b⟩
  · exact Or.inr ⟨⟨a, b⟩, c, d⟩
theorem tfV_A (hA : Agr P P') (hW : Wf P) (hF : tOk P F) : tfV P F = tfV P' F := by
  unfold tfV
  rw [← tfL_A hA hW hF]
  rcases tf_b (P := P) (F := F) hW with ⟨a, _⟩ | ⟨a, _⟩
  · rw [a, if_pos (by decide), if_pos (by decide)]
  · rw [tcE_A hA hW hF a.1 a.2]
theorem tcV_A (hA : Agr P P') (hW : Wf P) (hF : tOk P F) : tcV P F = tcV P' F := by
  unfold tcV
  rw [← tfL_A hA hW hF, ← hA.2.1]
  by_cases h : tfL P F < 0
  · rw [if_pos h, if_pos h]
    have := hW.2.1
    exact sumN_congr (fun i i0 i1 => by rw [tcE_A hA hW hF i0 (by omega), tcP_A hA hW hF i0 (by omega)])
  · rw [if_neg h, if_neg h]
end CT
section CH
variable {g : Gm} {I J : Mm} {x : Nat} {P : PT} {F : Int → Int → Int}
/-- told fingers lie in the class's row -/
def tRow (J : Mm) (x : Nat) (P : PT) (F : Int → Int → Int) : Prop := ∀ e i, 0 ≤ e → e < pE P → 0 ≤ i → i < pSz P e → J (x + 78 + 1) (e * 3 + i) = F e i
theorem s_toldEvent {e : Int} (hH : isH g x) (hG : gd J (x + 1)) (hP : P = pv J (x + 1)) (hW : Wf P) (hF : tOk P F) (hR : tRow J x P F) (e0 : 0 ≤ e) (e1 : e < pE P) : cl 139 [.ref x, .int (iI e)] (mk g J) = some (.inl (some (.int (iI (tcE P F e)))), mk g J) := by
  obtain ⟨h_0, h_1, h_18, h_35, h_55, h_75, h_78, h_80, h_82, h_84⟩ := hH
  have he := hW.2.1
  have z := hW.2.2.1 e e0 e1
  have hs : J (x + 1 + 2) e = pSz P e := by rw [hP]; rfl
  have hE : J (x + 1) 1 = pE P := by rw [hP]; rfl
  have q := s_costOfEvent (g := g) (I := J) (q := x + 1) (e := e) (b := 0) (r := e * 3) (R := x + 78) h_1 hG.1 (by omega) (by decide) h_78.1 (by omega) (by omega) (fun k k0 k1 => by rw [hR e k e0 e1 k0 (by omega)]; exact hF e k e0 e1 k0 (by omega)) (hG.2 e e0 (by omega)).2
  rw [show pv J (x + 1) = P from hP.symm] at q
  have ef : ecostS P e 0 (fun k => J (x + 78 + 1) (e * 3 + k)) = tcE P F e := by
    unfold tcE
    exact ecost_F z.1.1 (fun k k0 k1 _ => by rw [hR e k e0 e1 k0 k1, tA_f hW hF e0 e1 k0 k1])
  rw [ef] at q
  have h1 : g.1 (x + 1) = sX0 (x + 1) := h_1.1
  have h78 : g.1 (x + 78) = sX2 (x + 78) := h_78.2.1
  have qp := s_placeOf (g := g) (I := J) (a := e) (b := 0)
  rw [show e * 3 + 0 = e * 3 by omega] at qp
  simp (maxSteps := 2000000) (disch := first | assumption | omega) only [aft_v, aft_n, aft_t, Nat.add_assoc, Nat.reduceAdd, if_true, if_false, not_true_eq_false, not_false_eq_true, Classical.not_not, Int.reduceAdd, Int.reduceSub, Int.reduceMul, Int.reduceNeg, Int.reduceLT, Int.reduceLE, Int.reduceEq, Int.add_zero, Int.zero_add, Int.sub_zero, c_139, w_139_0, w_139_1, w_139_2, qp, q]
theorem s_toldPassage {e : Int} (hH : isH g x) (hG : gd J (x + 1)) (hP : P = pv J (x + 1)) (hW : Wf P) (hF : tOk P F) (hR : tRow J x P F) (e0 : 0 ≤ e) (e1 : e < pE P) : cl 140 [.ref x, .int (iI e)] (mk g J) = some (.inl (some (.int (iI (tcP P F e)))), mk g J) := by
  obtain ⟨h_0, h_1, h_18, h_35, h_55, h_75, h_78, h_80, h_82, h_84⟩ := hH
  have he := hW.2.1
  have h1 : g.1 (x + 1) = sX0 (x + 1) := h_1.1
  have h78 : g.1 (x + 78) = sX2 (x + 78) := h_78.2.1
  by_cases h0 : e = 0
  · have et : tcP P F e = 0 := if_pos (by omega)
    rw [et, h0]
    simp (maxSteps := 2000000) (disch := first | assumption | omega) only [aft_v, aft_n, aft_t, Nat.add_assoc, Nat.reduceAdd, if_true, if_false, not_true_eq_false, not_false_eq_true, Classical.not_not, Int.reduceAdd, Int.reduceSub, Int.reduceMul, Int.reduceNeg, Int.reduceLT, Int.reduceLE, Int.reduceEq, Int.add_zero, Int.zero_add, Int.sub_zero, c_140, w_140_0, w_140_1]
  have et : tcP P F e = passS P (e - 1) (pRe P (e - 1)) (fgS (tA P F (e - 1))) (fgS (tA P F e)) := if_neg (by omega)
  have z := hW.2.2.1 e e0 e1
  have z' := hW.2.2.1 (e - 1) (by omega) (by omega)
  have hs : ∀ i, J (x + 1 + 2) i = pSz P i := fun i => by rw [hP]; rfl
  have hr : J (x + 1 + 4) (e - 1) = pRe P (e - 1) := by rw [hP]; rfl
  have qr := s_row_get (g := g) (I := J) (p := x + 1 + 3) (i := e - 1) h_1.2.2.1.1 (by omega) (by have := h_1.2.2.1.2.2; omega)
  rw [show J (x + 1 + 3 + 1) (e - 1) = pRe P (e - 1) from hr] at qr
  have q := s_costOfPassage (g := g) (I := J) (q := x + 1) (e := e - 1) (w := pRe P (e - 1)) (r := (e - 1) * 3) (r' := e * 3) (R := x + 78) h_1 hG.1 (by omega) z'.2.1 h_78.1 (by omega) (by omega) (by rw [hs]; omega) (by rw [show e - 1 + 1 = e by omega, hs]; omega) (fun k k0 k1 => by rw [hs] at k1; rw [hR (e - 1) k (by omega) (by omega) k0 k1]; exact hF (e - 1) k (by omega) (by omega) k0 k1) (fun k k0 k1 => by rw [show e - 1 + 1 = e by omega, hs] at k1; rw [hR e k e0 e1 k0 k1]; exact hF e k e0 e1 k0 k1)
  rw [show pv J (x + 1) = P from hP.symm] at q
  have ef : passS P (e - 1) (pRe P (e - 1)) (fun k => J (x + 78 + 1) ((e - 1) * 3 + k)) (fun k => J (x + 78 + 1) (e * 3 + k)) = tcP P F e := by
    rw [et]
    exact pass_F hW.1 z'.1.1 (by rw [show e - 1 + 1 = e by omega]; exact z.1.1) (fun k k0 k1 => by rw [hR (e - 1) k (by omega) (by omega) k0 k1, tA_f hW hF (by omega) (by omega) k0 k1]) (fun k k0 k1 => by rw [show e - 1 + 1 = e by omega] at k1; rw [hR e k e0 e1 k0 k1, tA_f hW hF e0 e1 k0 k1])
  rw [ef] at q
  have qp := fun a => s_placeOf (g := g) (I := J) (a := a) (b := 0)
  simp only [Int.add_zero] at qp
  have h4 : g.1 (x + 4) = sX2 (x + 4) := h_1.2.2.1.2.1
  have qr : cl 62 [.ref (x + 4), .int (iI (e - 1))] (mk g J) = some (.inl (some (.int (iI (pRe P (e - 1))))), mk g J) := qr
  simp (maxSteps := 2000000) (disch := first | assumption | omega) only [aft_v, aft_n, aft_t, Nat.add_assoc, Nat.reduceAdd, if_true, if_false, not_true_eq_false, not_false_eq_true, Classical.not_not, Int.reduceAdd, Int.reduceSub, Int.reduceMul, Int.reduceNeg, Int.reduceLT, Int.reduceLE, Int.reduceEq, Int.add_zero, Int.zero_add, Int.sub_zero, c_140, w_140_0, h0]
  refine (w_140_2 (by first | assumption | omega) (by first | assumption | omega) (by first | assumption | omega)).trans ?_
  rw [qr, aft_v]
  simp (maxSteps := 2000000) (disch := first | assumption | omega) only [aft_v, aft_n, aft_t, Nat.add_assoc, Nat.reduceAdd, if_true, if_false, not_true_eq_false, not_false_eq_true, Classical.not_not, Int.reduceAdd, Int.reduceSub, Int.reduceMul, Int.reduceNeg, Int.reduceLT, Int.reduceLE, Int.reduceEq, Int.add_zero, Int.zero_add, Int.sub_zero, w_140_3, w_140_4, w_140_5, w_140_6, qp, q]
end CH
