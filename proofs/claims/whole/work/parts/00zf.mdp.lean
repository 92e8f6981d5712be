/-! The reference: least costs and counts from the end. -/
/-- far where there is none -/
def farS (x : Int) : Int := if x = -1 then 1000000000 else x
/-- least cost behind (far), all, cheapest ones: d events from the last -/
noncomputable def bcN (P : PT) : Nat → Int → Int × Int × Int
  | 0, _ => (0, 1, 1)
  | d + 1, c => itI (fun k x => if stepS P (pE P - 2 - d) c k = -1 ∨ frS P (pE P - 1 - d) k = -1 then x else (min x.1 (stepS P (pE P - 2 - d) c k + frS P (pE P - 1 - d) k), min 1000000000000000 (x.2.1 + (bcN P d k).2.1), if stepS P (pE P - 2 - d) c k + frS P (pE P - 1 - d) k ≤ x.1 then min 1000000000000000 ((if stepS P (pE P - 2 - d) c k + frS P (pE P - 1 - d) k < x.1 then 0 else x.2.2) + (bcN P d k).2.2) else x.2.2)) (1000000000, 0, 0) (cntS P (pE P - 1 - d))
noncomputable def bcS (P : PT) (e c : Int) : Int × Int × Int := bcN P (pE P - 1 - e).toNat c
theorem bcS_l {P : PT} {e c : Int} (h : e = pE P - 1) : bcS P e c = (0, 1, 1) := by
  subst h; unfold bcS; rw [show (pE P - 1 - (pE P - 1)).toNat = 0 by omega]; rfl
theorem bcS_s {P : PT} {e c : Int} (h : e + 1 < pE P) : bcS P e c = itI (fun k x => if stepS P e c k = -1 ∨ frS P (e + 1) k = -1 then x else (min x.1 (stepS P e c k + frS P (e + 1) k), min 1000000000000000 (x.2.1 + (bcS P (e + 1) k).2.1), if stepS P e c k + frS P (e + 1) k ≤ x.1 then min 1000000000000000 ((if stepS P e c k + frS P (e + 1) k < x.1 then 0 else x.2.2) + (bcS P (e + 1) k).2.2) else x.2.2)) (1000000000, 0, 0) (cntS P (e + 1)) := by
  obtain ⟨d, hd⟩ : ∃ d : Nat, pE P - 1 - e = d + 1 := ⟨(pE P - 2 - e).toNat, by omega⟩
  have e1 : pE P - 2 - d = e := by omega
  have e2 : pE P - 1 - d = e + 1 := by omega
  unfold bcS
  rw [show (pE P - 1 - e).toNat = d + 1 by omega, show (pE P - 1 - (e + 1)).toNat = d by omega]
  show itI _ _ (cntS P (pE P - 1 - d)) = _
  rw [e1, e2]
theorem ch_b {v b h y : Int} (hh : 0 ≤ h ∧ h ≤ 1000000000000000) (hy : 0 ≤ y ∧ y ≤ 1000000000000000) : 0 ≤ (if v ≤ b then min 1000000000000000 ((if v < b then 0 else h) + y) else h) ∧ (if v ≤ b then min 1000000000000000 ((if v < b then 0 else h) + y) else h) ≤ 1000000000000000 := by
  (repeat' split) <;> omega
theorem bcS_b {P : PT} (hbd : bdP P) : ∀ (d : Nat) (c : Int), (d : Int) < pE P → (0 ≤ (bcN P d c).1 ∧ (bcN P d c).1 ≤ 1000000000) ∧ (0 ≤ (bcN P d c).2.1 ∧ (bcN P d c).2.1 ≤ 1000000000000000) ∧ (0 ≤ (bcN P d c).2.2 ∧ (bcN P d c).2.2 ≤ 1000000000000000) := by
  intro d
  induction d with
  | zero => intro c _; show (0 ≤ (0 : Int) ∧ (0 : Int) ≤ _) ∧ (0 ≤ (1 : Int) ∧ (1 : Int) ≤ _) ∧ (0 ≤ (1 : Int) ∧ (1 : Int) ≤ _); omega
  | succ d ih =>
    intro c hd
    have n1 := hbd.2.2.1 (pE P - 1 - d) (by omega) (by omega)
    refine itI_ind (fun _ (x : Int × Int × Int) => (0 ≤ x.1 ∧ x.1 ≤ 1000000000) ∧ (0 ≤ x.2.1 ∧ x.2.1 ≤ 1000000000000000) ∧ (0 ≤ x.2.2 ∧ x.2.2 ≤ 1000000000000000)) (by decide) (fun k x k0 k1 hx => ?_) n1.2.1
    have h1 := st_b hbd (e := pE P - 2 - d) (c := c) (n := k) (by omega) (by omega)
    have h2 := fr_ge hbd (e := pE P - 1 - d) (c := k) (by omega) (by omega)
    have h3 := ih k (by omega)
    obtain ⟨x1, x2, x3⟩ := x
    show (0 ≤ (if _ then (x1, x2, x3) else _).1 ∧ _) ∧ _
    by_cases hc : stepS P (pE P - 2 - d) c k = -1 ∨ frS P (pE P - 1 - d) k = -1
    · rw [if_pos hc]; exact hx
    · rw [if_neg hc]
      refine ⟨?_, ?_, ?_⟩
      · show 0 ≤ min _ _ ∧ min _ _ ≤ _; omega
      · show 0 ≤ min _ _ ∧ min _ _ ≤ _; omega
      · exact ch_b hx.2.2 h3.2.2
/-- the least of the far ones -/
theorem mn_far {f : Int → Int} {n : Int} (hn : 0 ≤ n) (h : ∀ i, 0 ≤ i → i < n → -1 ≤ f i ∧ f i < 1000000000) : itI (fun i a => if f i = -1 then a else min a (f i)) 1000000000 n = farS (mnI f n) := by
  have := itI_ind (F := fun i a => if f i = -1 then a else min a (f i)) (a := (1000000000 : Int)) (n := n) (fun m v => v = farS (mnI f m) ∧ -1 ≤ mnI f m ∧ mnI f m < 1000000000) ⟨rfl, by rw [mnI_0]; decide, by rw [mnI_0]; decide⟩ (fun i v i0 i1 hv => by
    have hb := h i i0 i1
    obtain ⟨hv, hm⟩ := hv
    rw [mnI_s i0]
    unfold lesS
    subst hv
    unfold farS
    refine ⟨?_, ?_⟩
    · (repeat' split) <;> omega
    · (repeat' split) <;> omega) hn
  exact this.1
theorem bcS_1 {P : PT} (hbd : bdP P) {e c : Int} (e0 : 0 ≤ e) (e1 : e < pE P) : (bcS P e c).1 = farS (bhS P e c) := by
  by_cases hl : e = pE P - 1
  · rw [bcS_l hl, bhS_l hl]; rfl
  · have n1 := hbd.2.2.1 (e + 1) (by omega) (by omega)
    rw [bcS_s (by omega), bhS_s (by omega)]
    have hb := fun k => sum_b (st_b hbd (e := e) (c := c) (n := k) e0 (by omega)) (fr_ge hbd (e := e + 1) (c := k) (by omega) (by omega)) (by decide) (by decide)
    have h2 := mn_far (f := fun k => sumS (stepS P e c k) (frS P (e + 1) k)) (n := cntS P (e + 1)) n1.2.1 (fun k _ _ => by have := hb k; omega)
    refine Eq.trans ?_ h2
    have key : ∀ n : Nat, (itN (fun k (x : Int × Int × Int) => if stepS P e c k = -1 ∨ frS P (e + 1) k = -1 then x else (min x.1 (stepS P e c k + frS P (e + 1) k), min 1000000000000000 (x.2.1 + (bcS P (e + 1) k).2.1), if stepS P e c k + frS P (e + 1) k ≤ x.1 then min 1000000000000000 ((if stepS P e c k + frS P (e + 1) k < x.1 then 0 else x.2.2) + (bcS P (e + 1) k).2.2) else x.2.2)) (1000000000, 0, 0) n).1 = itN (fun i a => if sumS (stepS P e c i) (frS P (e + 1) i) = -1 then a else min a (sumS (stepS P e c i) (frS P (e + 1) i))) 1000000000 n := by
      intro n
      induction n with
      | zero => rfl
      | succ n ih =>
        simp only [itN]
        have h3 := st_b hbd (e := e) (c := c) (n := n) e0 (by omega)
        have h4 := fr_ge hbd (e := e + 1) (c := n) (by omega) (by omega)
        by_cases hc : stepS P e c n = -1 ∨ frS P (e + 1) n = -1
        · rw [if_pos hc, if_pos (by unfold sumS; rw [if_pos hc]), ih]
        · have hs : sumS (stepS P e c n) (frS P (e + 1) n) = stepS P e c n + frS P (e + 1) n := by unfold sumS; rw [if_neg hc]
          rw [if_neg hc]
          show min _ (stepS P e c n + frS P (e + 1) n) = _
          rw [hs, if_neg (by omega), ih]
    exact key _
theorem gL_gL {g : Gm} {L L' : Nat → Int → Int} : gL (gL g L) L' = gL g L' := rfl
theorem gL_21 {g : Gm} {L : Nat → Int → Int} : (gL g L).2.1 = L := rfl
theorem gL_1 {g : Gm} {L : Nat → Int → Int} : (gL g L).1 = g.1 := rfl
theorem gtL {g : Gm} {L : Nat → Int → Int} {p : Nat} : gt (gL g L) p = gt g p := rfl
theorem gnL {g : Gm} {L : Nat → Int → Int} {p : Nat} : gn (gL g L) p = gn g p := rfl
/-- one more choice behind -/
noncomputable def lfF (P : PT) (e c k : Int) (x : Int × Int × Int) : Int × Int × Int := if stepS P e c k = -1 ∨ frS P (e + 1) k = -1 then x else (min x.1 (stepS P e c k + frS P (e + 1) k), min 1000000000000000 (x.2.1 + (bcS P (e + 1) k).2.1), if stepS P e c k + frS P (e + 1) k ≤ x.1 then min 1000000000000000 ((if stepS P e c k + frS P (e + 1) k < x.1 then 0 else x.2.2) + (bcS P (e + 1) k).2.2) else x.2.2)
theorem lfF_y {P : PT} {e c k : Int} {x : Int × Int × Int} (h : stepS P e c k = -1 ∨ frS P (e + 1) k = -1) : lfF P e c k x = x := if_pos h
theorem lfF_n {P : PT} {e c k : Int} {x : Int × Int × Int} (h : ¬ (stepS P e c k = -1 ∨ frS P (e + 1) k = -1)) : lfF P e c k x = (min x.1 (stepS P e c k + frS P (e + 1) k), min 1000000000000000 (x.2.1 + (bcS P (e + 1) k).2.1), if stepS P e c k + frS P (e + 1) k ≤ x.1 then min 1000000000000000 ((if stepS P e c k + frS P (e + 1) k < x.1 then 0 else x.2.2) + (bcS P (e + 1) k).2.2) else x.2.2) := if_neg h
def tri (x : Int × Int × Int) : Prop := (0 ≤ x.1 ∧ x.1 ≤ 1000000000) ∧ (0 ≤ x.2.1 ∧ x.2.1 ≤ 1000000000000000) ∧ (0 ≤ x.2.2 ∧ x.2.2 ≤ 1000000000000000)
theorem lfF_b {P : PT} (hbd : bdP P) {e c k : Int} (e0 : 0 ≤ e) (e1 : e + 1 < pE P) {x : Int × Int × Int} (hx : tri x) : tri (lfF P e c k x) := by
  have h1 := st_b hbd (e := e) (c := c) (n := k) e0 e1
  have h2 := fr_ge hbd (e := e + 1) (c := k) (by omega) (by omega)
  have h3 := (bcS_b hbd (pE P - 1 - (e + 1)).toNat k (by omega)).2
  have h3 : (0 ≤ (bcS P (e + 1) k).2.1 ∧ (bcS P (e + 1) k).2.1 ≤ 1000000000000000) ∧ (0 ≤ (bcS P (e + 1) k).2.2 ∧ (bcS P (e + 1) k).2.2 ≤ 1000000000000000) := h3
  by_cases hc : stepS P e c k = -1 ∨ frS P (e + 1) k = -1
  · rw [lfF_y hc]; exact hx
  · rw [lfF_n hc]
    obtain ⟨x1, x2, x3⟩ := x
    obtain ⟨a1, a2, a3⟩ := hx
    refine ⟨?_, ?_, ch_b a3 h3.2⟩
    · show 0 ≤ min x1 _ ∧ min x1 _ ≤ _
      have a1 : 0 ≤ x1 ∧ x1 ≤ 1000000000 := a1
      omega
    · show 0 ≤ min _ (x2 + _) ∧ min _ (x2 + _) ≤ _
      have a2 : 0 ≤ x2 ∧ x2 ≤ 1000000000000000 := a2
      omega
section MF
variable {g : Gm} {I : Mm} {m : Nat} {P : PT}
/-- what the reference has laid behind event e -/
def LfM (P : PT) (m : Nat) (g : Gm) (I : Mm) (e : Int) : Prop := ∀ c, 0 ≤ c → c < cntS P e → I (m + 13) (10 * e + c) = farS (frS P e c) ∧ g.2.1 (m + 15) (10 * e + c) = (bcS P e c).2.1 ∧ g.2.1 (m + 16) (10 * e + c) = (bcS P e c).2.2
theorem far_b {x A : Int} (h : -1 ≤ x ∧ x ≤ A) (hA : A ≤ 1000000000) : 0 ≤ farS x ∧ farS x ≤ 1000000000 := by unfold farS; split <;> omega
theorem s_laysFrom {L : Nat → Int → Int} {e c : Int} (hm : isM g m) (hW : Wf P) (hP : P = mv I m) (he : 0 ≤ e ∧ e < pE P) (hc : 0 ≤ c ∧ c < cntS P e) (hS : ∀ e, 0 ≤ e → e < pE P → ShM P m I e) (hL : e + 1 < pE P → LfM P m (gL g L) I (e + 1)) :
    ∃ L', cl 209 [.ref m, .int (iI e), .int (iI (10 * e + c))] (mk (gL g L) I) = some (.inl none, mk (gL g L') (upd2 I (m + 13) (10 * e + c) (farS (frS P e c)))) ∧ (∀ p i, ¬ (p = m + 15 ∧ i = 10 * e + c) → ¬ (p = m + 16 ∧ i = 10 * e + c) → L' p i = L p i) ∧ L' (m + 15) (10 * e + c) = (bcS P e c).2.1 ∧ L' (m + 16) (10 * e + c) = (bcS P e c).2.2 := by
  have hbd := Wf_bd hW
  have w1 := hW.2.1
  have hEP : pE P = I (m + 1) 0 := by rw [hP]; rfl
  have he40 : 0 ≤ e ∧ e < 40 := by omega
  have cb := (hbd.2.2.1 e he.1 he.2).2
  obtain ⟨s, hs⟩ : ∃ s : Int, s = 10 * e + c := ⟨_, rfl⟩
  rw [← hs]
  have hm1 : isM (gL g L) m := hm
  have hOwn : I (m + 10) s = ownS P 0 e c := by rw [hs]; exact ((hS e he.1 he.2).2 c hc.1 hc.2).2
  have bO := hbd.2.2.2.1 0 e c he.1 he.2
  have nO := it_ok hc.1 hc.2
  have hev : ∀ L, cl 182 [.ref m] (mk (gL g L) I) = some (.inl (some (.int (iI (pE P)))), mk (gL g L) I) := fun L => by rw [hEP]; exact s_events (g := gL g L) hm
  by_cases hl : e = pE P - 1
  · obtain ⟨t_0, ⟨t_1, d_1, n_1⟩, ⟨t_2, d_2, n_2⟩, ⟨t_3, d_3, n_3⟩, ⟨t_4, d_4, n_4⟩, ⟨t_5, d_5, n_5⟩, ⟨t_6, n_6⟩, ⟨t_7, d_7, n_7⟩, ⟨t_8, d_8, n_8⟩, ⟨t_9, d_9, n_9⟩, ⟨t_10, d_10, n_10⟩, ⟨t_11, d_11, n_11⟩, ⟨t_12, d_12, n_12⟩, ⟨t_13, d_13, n_13⟩, ⟨t_14, d_14, n_14⟩, ⟨t_15, n_15⟩, ⟨t_16, n_16⟩, ⟨t_17, d_17, n_17⟩, ⟨t_18, d_18, n_18⟩⟩ := hm
    have hfr : frS P e c = ownS P 0 e c := by
      unfold frS; rw [bhS_l hl]; unfold sumS; rw [if_neg (by omega), Int.add_zero]
    refine ⟨upd2 (upd2 L (m + 15) s 1) (m + 16) s 1, ?_, fun p i a b => ?_, ?_, ?_⟩
    · rw [hfr, show farS (ownS P 0 e c) = ownS P 0 e c by unfold farS; rw [if_neg nO]]
      simp (maxSteps := 2000000) (disch := first | assumption | omega | (simp (disch := omega) only [gL_gL, gL_21, gtL, gnL, gL_1, gL_gL, gL_21, upd2_p]; first | assumption | omega)) only [gL_gL, gL_21, aft_v, aft_n, aft_t, Nat.add_assoc, Nat.reduceAdd, if_true, if_false, not_true_eq_false, not_false_eq_true, Classical.not_not, Int.reduceAdd, Int.reduceSub, Int.reduceMul, Int.reduceNeg, Int.reduceLT, Int.reduceLE, Int.reduceEq, Int.add_zero, Int.zero_add, Int.sub_zero, c_209, w_209_0, w_209_1, w_209_2, w_209_3, w_209_4, w_209_5, w_209_6, w_209_7, w_209_8, w_209_9, w_209_10, w_209_11, w_209_12, w_209_13, w_209_14, w_209_15, w_209_16, w_209_17, w_209_18, w_209_19, w_209_20, w_209_21, w_209_22, w_209_23, w_209_24, w_209_25, w_209_26, w_209_27, w_209_28, w_209_29, w_209_30, hev, if_neg (show ¬ ¬ e = pE P - 1 by omega), show ¬ (1 : Int) = 0 by decide, hOwn, show ¬ (0 : Int) = 1000000000 by decide]
    · unfold upd2; rw [if_neg b, if_neg a]
    · rw [bcS_l hl, upd2_p (by omega), upd2_at]
    · rw [bcS_l hl, upd2_at]
  · obtain ⟨t_0, ⟨t_1, d_1, n_1⟩, ⟨t_2, d_2, n_2⟩, ⟨t_3, d_3, n_3⟩, ⟨t_4, d_4, n_4⟩, ⟨t_5, d_5, n_5⟩, ⟨t_6, n_6⟩, ⟨t_7, d_7, n_7⟩, ⟨t_8, d_8, n_8⟩, ⟨t_9, d_9, n_9⟩, ⟨t_10, d_10, n_10⟩, ⟨t_11, d_11, n_11⟩, ⟨t_12, d_12, n_12⟩, ⟨t_13, d_13, n_13⟩, ⟨t_14, d_14, n_14⟩, ⟨t_15, n_15⟩, ⟨t_16, n_16⟩, ⟨t_17, d_17, n_17⟩, ⟨t_18, d_18, n_18⟩⟩ := hm
    have n1 := hbd.2.2.1 (e + 1) (by omega) (by omega)
    have hS1 := hS (e + 1) (by omega) (by omega)
    have hM1 : I (m + 11) (e + 1) = cntS P (e + 1) := hS1.1
    have hsh : I (m + 9) s = itS P e c := by rw [hs]; exact ((hS e he.1 he.2).2 c hc.1 hc.2).1
    have bsh := itS_b (P := P) (e := e) (c := c) (hbd.2.2.1 e he.1 he.2).1
    have hLf := hL (by omega)
    have hbc : bcS P e c = itI (lfF P e c) (1000000000, 0, 0) (cntS P (e + 1)) := bcS_s (by omega)
    have bcb : ∀ k, 0 ≤ k → k < cntS P (e + 1) → (0 ≤ (bcS P (e + 1) k).2.1 ∧ (bcS P (e + 1) k).2.1 ≤ 1000000000000000) ∧ (0 ≤ (bcS P (e + 1) k).2.2 ∧ (bcS P (e + 1) k).2.2 ≤ 1000000000000000) := fun k _ _ => (bcS_b hbd (pE P - 1 - (e + 1)).toNat k (by omega)).2
    obtain ⟨X, hX⟩ : ∃ X : Int → Int × Int × Int, X = fun i => itI (lfF P e c) (1000000000, 0, 0) i := ⟨_, rfl⟩
    have hX0 : X 0 = (1000000000, 0, 0) := by rw [hX]; rfl
    have hXs : ∀ i, 0 ≤ i → X (i + 1) = lfF P e c i (X i) := fun i h => by rw [hX]; exact itI_s h
    have hXb : ∀ i, 0 ≤ i → tri (X i) := fun i i0 => by
      rw [hX]
      exact itI_ind (fun _ (x : Int × Int × Int) => tri x) (by unfold tri; decide) (fun k x k0 k1 hx => lfF_b hbd he.1 (by omega) hx) i0
    have loop := loop_up (σ := (Nat → Int → Int) × Option Value) (head := fun i s9 => rn 209 14 [some (.ref m), some (.int (iI e)), some (.int (iI s)), some (.int (iI 0)), some (.int (iI (X i).1)), some (.int (iI (10 * (e + 1) + i))), s9.2] [] (mk (gL g s9.1) I)) (Inv := fun i s9 => 0 ≤ i ∧ (∀ p i, ¬ (p = m + 15 ∧ i = 10 * e + c) → ¬ (p = m + 16 ∧ i = 10 * e + c) → s9.1 p i = L p i) ∧ s9.1 (m + 15) s = (X i).2.1 ∧ s9.1 (m + 16) s = (X i).2.2) (n := cntS P (e + 1)) (by
      rintro k ⟨K, o6⟩ k1 ⟨k0, h1, h2, h3⟩
      have h1 : ∀ p i, ¬ (p = m + 15 ∧ i = 10 * e + c) → ¬ (p = m + 16 ∧ i = 10 * e + c) → K p i = L p i := h1
      have h2 : K (m + 15) s = (X k).2.1 := h2
      have h3 : K (m + 16) s = (X k).2.2 := h3
      obtain ⟨y1, y2⟩ := hS1.2 k k0 k1
      obtain ⟨z1, z2, z3⟩ := hLf k k0 k1
      have z2 : K (m + 15) (10 * (e + 1) + k) = (bcS P (e + 1) k).2.1 := by rw [h1 _ _ (by omega) (by omega)]; exact z2
      have z3 : K (m + 16) (10 * (e + 1) + k) = (bcS P (e + 1) k).2.2 := by rw [h1 _ _ (by omega) (by omega)]; exact z3
      have b1 := st_b hbd (e := e) (c := c) (n := k) he.1 (by omega)
      have b2 := fr_ge hbd (e := e + 1) (c := k) (by omega) (by omega)
      have b3 := bcb k k0 k1
      obtain ⟨b4, b5, b6⟩ := hXb k k0
      have bsk := itS_b (P := P) (e := e + 1) (c := k) n1.1
      have hp := s_passage (g := gL g K) (I := I) (e := e) (its := itS P e c) (thn := itS P (e + 1) k) hm1 (by rw [← hP]; exact hW) (by rw [← hP]; omega) bsh bsk
      rw [← hP] at hp
      have hp : cl 205 [.ref m, .int (iI e), .int (iI (itS P e c)), .int (iI (itS P (e + 1) k))] (mk (gL g K) I) = some (.inl (some (.int (iI (stepS P e c k)))), mk (gL g K) I) := hp
      have hXk := hXs k k0
      by_cases c1 : stepS P e c k = -1
      · rw [lfF_y (Or.inl c1)] at hXk
        refine ⟨(K, some (.int (iI (-1)))), ?_, by omega, h1, by rw [hXk]; exact h2, by rw [hXk]; exact h3⟩
        show rn _ _ _ _ (mk (gL g K) I) = rn _ _ [_, _, _, _, some (.int (iI (X (k + 1)).1)), some (.int (iI (10 * (e + 1) + (k + 1)))), _] _ _
        rw [hXk, ← Int.add_assoc]
        rw [c1] at hp
        refine (w_209_14 (by first | assumption | omega | (simp (disch := omega) only [gtL, gnL, gL_1, gL_gL, gL_21, upd2_p]; first | assumption | omega)) (by first | assumption | omega | (simp (disch := omega) only [gtL, gnL, gL_1, gL_gL, gL_21, upd2_p]; first | assumption | omega))).trans ?_
        refine (if_neg (by omega)).trans ?_
        simp (maxSteps := 2000000) (disch := first | assumption | omega | (simp (disch := omega) only [gL_gL, gL_21, gtL, gnL, gL_1, gL_gL, gL_21, upd2_p]; first | assumption | omega)) only [gL_gL, gL_21, aft_v, aft_n, aft_t, Nat.add_assoc, Nat.reduceAdd, if_true, if_false, not_true_eq_false, not_false_eq_true, Classical.not_not, Int.reduceAdd, Int.reduceSub, Int.reduceMul, Int.reduceNeg, Int.reduceLT, Int.reduceLE, Int.reduceEq, Int.add_zero, Int.zero_add, Int.sub_zero, w_209_15, w_209_16, w_209_17, w_209_26, hM1, if_neg (show ¬ 10 * (e + 1) + cntS P (e + 1) ≤ 10 * (e + 1) + k by omega), hsh, y1, hp]
      by_cases c2 : frS P (e + 1) k = -1
      · have z1 : I (m + 13) (10 * (e + 1) + k) = 1000000000 := by rw [z1, c2]; rfl
        rw [lfF_y (Or.inr c2)] at hXk
        refine ⟨(K, some (.int (iI (stepS P e c k)))), ?_, by omega, h1, by rw [hXk]; exact h2, by rw [hXk]; exact h3⟩
        show rn _ _ _ _ (mk (gL g K) I) = rn _ _ [_, _, _, _, some (.int (iI (X (k + 1)).1)), some (.int (iI (10 * (e + 1) + (k + 1)))), _] _ _
        rw [hXk, ← Int.add_assoc]
        refine (w_209_14 (by first | assumption | omega | (simp (disch := omega) only [gtL, gnL, gL_1, gL_gL, gL_21, upd2_p]; first | assumption | omega)) (by first | assumption | omega | (simp (disch := omega) only [gtL, gnL, gL_1, gL_gL, gL_21, upd2_p]; first | assumption | omega))).trans ?_
        refine (if_neg (by omega)).trans ?_
        simp (maxSteps := 2000000) (disch := first | assumption | omega | (simp (disch := omega) only [gL_gL, gL_21, gtL, gnL, gL_1, gL_gL, gL_21, upd2_p]; first | assumption | omega)) only [gL_gL, gL_21, aft_v, aft_n, aft_t, Nat.add_assoc, Nat.reduceAdd, if_true, if_false, not_true_eq_false, not_false_eq_true, Classical.not_not, Int.reduceAdd, Int.reduceSub, Int.reduceMul, Int.reduceNeg, Int.reduceLT, Int.reduceLE, Int.reduceEq, Int.add_zero, Int.zero_add, Int.sub_zero, w_209_15, w_209_16, w_209_17, w_209_18, w_209_19, w_209_26, hM1, if_neg (show ¬ 10 * (e + 1) + cntS P (e + 1) ≤ 10 * (e + 1) + k by omega), hsh, y1, hp, c1, z1]
      · have hnn : ¬ (stepS P e c k = -1 ∨ frS P (e + 1) k = -1) := fun z => by rcases z with z | z; exact c1 z; exact c2 z
        rw [lfF_n hnn] at hXk
        have z1 : I (m + 13) (10 * (e + 1) + k) = frS P (e + 1) k := by rw [z1]; unfold farS; rw [if_neg c2]
        obtain ⟨W, hWy⟩ : ∃ W : Int, W = stepS P e c k := ⟨_, rfl⟩
        obtain ⟨Fr, hFr⟩ : ∃ Fr : Int, Fr = frS P (e + 1) k := ⟨_, rfl⟩
        rw [← hWy] at hXk hp c1 b1
        rw [← hFr] at hXk z1 c2 b2
        obtain ⟨T, hT⟩ : ∃ T : Int, T = 10 * (e + 1) + k := ⟨_, rfl⟩
        rw [← hT] at y1 y2 z1 z2 z3
        obtain ⟨Sm, hSm⟩ : ∃ Sm : Int, Sm = (bcS P (e + 1) k).2.1 := ⟨_, rfl⟩
        obtain ⟨Ch, hCh⟩ : ∃ Ch : Int, Ch = (bcS P (e + 1) k).2.2 := ⟨_, rfl⟩
        rw [← hSm] at hXk z2 b3
        rw [← hCh] at hXk z3 b3
        obtain ⟨xb, hxb⟩ : ∃ xb : Int, xb = (X k).1 := ⟨_, rfl⟩
        obtain ⟨xs, hxs⟩ : ∃ xs : Int, xs = (X k).2.1 := ⟨_, rfl⟩
        obtain ⟨xc, hxc⟩ : ∃ xc : Int, xc = (X k).2.2 := ⟨_, rfl⟩
        rw [← hxb, ← hxs, ← hxc] at hXk
        rw [← hxb] at b4
        rw [← hxs] at b5 h2
        rw [← hxc] at b6 h3
        have e1 : (X (k + 1)).1 = min xb (W + Fr) := by rw [hXk]
        have e2 : (X (k + 1)).2.1 = min 1000000000000000 (xs + Sm) := by rw [hXk]
        have e3 : (X (k + 1)).2.2 = if W + Fr ≤ xb then min 1000000000000000 ((if W + Fr < xb then 0 else xc) + Ch) else xc := by rw [hXk]
        have hT0 : 0 ≤ T ∧ T < 400 := by omega
        have hsT : ¬ T = s := by omega
        have go1 : rn 209 14 [some (.ref m), some (.int (iI e)), some (.int (iI s)), some (.int (iI 0)), some (.int (iI xb)), some (.int (iI T)), o6] [] (mk (gL g K) I) = if xb < W + Fr then rn 209 25 [some (.ref m), some (.int (iI e)), some (.int (iI s)), some (.int (iI 0)), some (.int (iI xb)), some (.int (iI T)), some (.int (iI W))] [] (mk (gL g (upd2 K (m + 15) s (min 1000000000000000 (xs + Sm)))) I) else rn 209 21 [some (.ref m), some (.int (iI e)), some (.int (iI s)), some (.int (iI 0)), some (.int (iI xb)), some (.int (iI T)), some (.int (iI W))] [] (mk (gL g (upd2 K (m + 15) s (min 1000000000000000 (xs + Sm)))) I) := by
          refine (w_209_14 (by first | assumption | omega | (simp (disch := omega) only [gtL, gnL, gL_1, gL_gL, gL_21, upd2_p]; first | assumption | omega)) (by first | assumption | omega | (simp (disch := omega) only [gtL, gnL, gL_1, gL_gL, gL_21, upd2_p]; first | assumption | omega))).trans ?_
          refine (if_neg (by omega)).trans ?_
          simp (maxSteps := 2000000) (disch := first | assumption | omega | (simp (disch := omega) only [gL_gL, gL_21, gtL, gnL, gL_1, gL_gL, gL_21, upd2_p]; first | assumption | omega)) only [gL_gL, gL_21, aft_v, aft_n, aft_t, Nat.add_assoc, Nat.reduceAdd, if_true, if_false, not_true_eq_false, not_false_eq_true, Classical.not_not, Int.reduceAdd, Int.reduceSub, Int.reduceMul, Int.reduceNeg, Int.reduceLT, Int.reduceLE, Int.reduceEq, Int.add_zero, Int.zero_add, Int.sub_zero, w_209_15, w_209_16, w_209_17, w_209_18, w_209_20, hM1, if_neg (show ¬ 10 * (e + 1) + cntS P (e + 1) ≤ T by omega), hsh, y1, hp, c1, z1, if_pos (show Fr < 1000000000 by omega), h2, z2]
        have fin : ∀ K', rn 209 25 [some (.ref m), some (.int (iI e)), some (.int (iI s)), some (.int (iI 0)), some (.int (iI xb)), some (.int (iI T)), some (.int (iI W))] [] (mk (gL g K') I) = rn 209 14 [some (.ref m), some (.int (iI e)), some (.int (iI s)), some (.int (iI 0)), some (.int (iI (min xb (W + Fr)))), some (.int (iI (T + 1))), some (.int (iI W))] [] (mk (gL g K') I) := by
          intro K'
          simp (maxSteps := 2000000) (disch := first | assumption | omega | (simp (disch := omega) only [gL_gL, gL_21, gtL, gnL, gL_1, gL_gL, gL_21, upd2_p]; first | assumption | omega)) only [gL_gL, gL_21, aft_v, aft_n, aft_t, Nat.add_assoc, Nat.reduceAdd, if_true, if_false, not_true_eq_false, not_false_eq_true, Classical.not_not, Int.reduceAdd, Int.reduceSub, Int.reduceMul, Int.reduceNeg, Int.reduceLT, Int.reduceLE, Int.reduceEq, Int.add_zero, Int.zero_add, Int.sub_zero, w_209_25, w_209_26, z1]
        by_cases c3 : xb < W + Fr
        · rw [if_neg (show ¬ W + Fr ≤ xb by omega)] at e3
          refine ⟨(upd2 K (m + 15) s (min 1000000000000000 (xs + Sm)), some (.int (iI W))), ?_, by omega, fun p i a b => ?_, ?_, ?_⟩
          · show rn _ _ [_, _, _, _, some (.int (iI (X k).1)), some (.int (iI (10 * (e + 1) + k))), _] _ (mk (gL g K) I) = rn _ _ [_, _, _, _, some (.int (iI (X (k + 1)).1)), some (.int (iI (10 * (e + 1) + (k + 1)))), _] _ _
            rw [e1, ← Int.add_assoc, ← hxb, ← hT, go1, if_pos c3]
            exact fin _
          · show upd2 _ _ _ _ p i = _
            unfold upd2; rw [if_neg (by rw [hs]; exact a)]; exact h1 p i a b
          · rw [e2]; exact upd2_at
          · rw [e3]; show upd2 _ _ _ _ (m + 16) s = _; rw [upd2_p (by omega)]; exact h3
        · rw [if_pos (show W + Fr ≤ xb by omega)] at e3
          have u1 : upd2 K (m + 15) s (min 1000000000000000 (xs + Sm)) (m + 16) s = xc := by rw [upd2_p (by omega)]; exact h3
          have u2 : upd2 K (m + 15) s (min 1000000000000000 (xs + Sm)) (m + 16) T = Ch := by rw [upd2_p (by omega)]; exact z3
          refine ⟨(upd2 (upd2 K (m + 15) s (min 1000000000000000 (xs + Sm))) (m + 16) s (min 1000000000000000 ((if W + Fr < xb then 0 else xc) + Ch)), some (.int (iI W))), ?_, by omega, fun p i a b => ?_, ?_, ?_⟩
          · show rn _ _ [_, _, _, _, some (.int (iI (X k).1)), some (.int (iI (10 * (e + 1) + k))), _] _ (mk (gL g K) I) = rn _ _ [_, _, _, _, some (.int (iI (X (k + 1)).1)), some (.int (iI (10 * (e + 1) + (k + 1)))), _] _ _
            rw [e1, ← Int.add_assoc, ← hxb, ← hT, go1, if_neg c3]
            generalize upd2 K (m + 15) s (min 1000000000000000 (xs + Sm)) = K1 at u1 u2 ⊢
            by_cases c4 : xb ≤ W + Fr
            · rw [if_neg (show ¬ W + Fr < xb by omega)]
              simp (maxSteps := 2000000) (disch := first | assumption | omega | (simp (disch := omega) only [gL_gL, gL_21, gtL, gnL, gL_1, gL_gL, gL_21, upd2_p]; first | assumption | omega)) only [gL_gL, gL_21, aft_v, aft_n, aft_t, Nat.add_assoc, Nat.reduceAdd, if_true, if_false, not_true_eq_false, not_false_eq_true, Classical.not_not, Int.reduceAdd, Int.reduceSub, Int.reduceMul, Int.reduceNeg, Int.reduceLT, Int.reduceLE, Int.reduceEq, Int.add_zero, Int.zero_add, Int.sub_zero, w_209_21, w_209_23, w_209_24, z1, if_pos c4, u1, u2, fin]
            · rw [if_pos (show W + Fr < xb by omega)]
              simp (maxSteps := 2000000) (disch := first | assumption | omega | (simp (disch := omega) only [gL_gL, gL_21, gtL, gnL, gL_1, gL_gL, gL_21, upd2_p]; first | assumption | omega)) only [gL_gL, gL_21, aft_v, aft_n, aft_t, Nat.add_assoc, Nat.reduceAdd, if_true, if_false, not_true_eq_false, not_false_eq_true, Classical.not_not, Int.reduceAdd, Int.reduceSub, Int.reduceMul, Int.reduceNeg, Int.reduceLT, Int.reduceLE, Int.reduceEq, Int.add_zero, Int.zero_add, Int.sub_zero, w_209_21, w_209_22, w_209_24, z1, if_neg c4, u1, u2, fin]
          · show upd2 _ _ _ _ p i = _
            unfold upd2; rw [if_neg (by rw [hs]; exact b), if_neg (by rw [hs]; exact a)]; exact h1 p i a b
          · rw [e2]; show upd2 _ _ _ _ (m + 15) s = _; rw [upd2_p (by omega)]; exact upd2_at
          · rw [e3]; exact upd2_at) 0 (upd2 (upd2 L (m + 15) s 0) (m + 16) s 0, none) n1.2.1 ⟨Int.le_refl _, fun p i a b => by
          show upd2 _ _ _ _ p i = _
          unfold upd2; rw [if_neg (by rw [hs]; exact b), if_neg (by rw [hs]; exact a)], by
          show upd2 _ _ _ _ (m + 15) s = _
          rw [upd2_p (by omega), upd2_at, hX0], by
          show upd2 _ _ _ _ (m + 16) s = _
          rw [upd2_at, hX0]⟩
    obtain ⟨⟨L1, p6⟩, e1, -, k1, k2, k3⟩ := loop
    have e1 : rn 209 14 [some (.ref m), some (.int (iI e)), some (.int (iI s)), some (.int (iI 0)), some (.int (iI (X 0).1)), some (.int (iI (10 * (e + 1) + 0))), none] [] (mk (gL g (upd2 (upd2 L (m + 15) s 0) (m + 16) s 0)) I) = rn 209 14 [some (.ref m), some (.int (iI e)), some (.int (iI s)), some (.int (iI 0)), some (.int (iI (X (cntS P (e + 1))).1)), some (.int (iI (10 * (e + 1) + cntS P (e + 1)))), p6] [] (mk (gL g L1) I) := e1
    rw [hX0, Int.add_zero] at e1
    have hXl : X (cntS P (e + 1)) = bcS P e c := by rw [hX, hbc]
    have hb1 : (X (cntS P (e + 1))).1 = farS (bhS P e c) := by rw [hXl]; exact bcS_1 hbd he.1 he.2
    rw [hb1] at e1
    have hbb := bhS_b hbd (e := e) (c := c) he.1 he.2
    refine ⟨L1, ?_, fun p i a b => k1 p i (by rw [← hs]; exact a) (by rw [← hs]; exact b), by rw [← hXl]; exact k2, by rw [← hXl]; exact k3⟩
    simp (maxSteps := 2000000) (disch := first | assumption | omega | (simp (disch := omega) only [gL_gL, gL_21, gtL, gnL, gL_1, gL_gL, gL_21, upd2_p]; first | assumption | omega)) only [gL_gL, gL_21, aft_v, aft_n, aft_t, Nat.add_assoc, Nat.reduceAdd, if_true, if_false, not_true_eq_false, not_false_eq_true, Classical.not_not, Int.reduceAdd, Int.reduceSub, Int.reduceMul, Int.reduceNeg, Int.reduceLT, Int.reduceLE, Int.reduceEq, Int.add_zero, Int.zero_add, Int.sub_zero, c_209, w_209_0, w_209_1, w_209_2, w_209_3, w_209_4, w_209_5, w_209_6, w_209_7, w_209_8, w_209_9, w_209_10, w_209_11, w_209_12, w_209_13, hev, if_pos (show ¬ e = pE P - 1 by omega)]
    rw [e1]
    by_cases cb9 : bhS P e c = -1
    · have f1 : farS (bhS P e c) = 1000000000 := by rw [cb9]; rfl
      have f2 : farS (frS P e c) = 1000000000 := by unfold frS sumS; rw [if_pos (Or.inr cb9)]; rfl
      rw [f1, f2]
      refine (w_209_14 (by first | assumption | omega | (simp (disch := omega) only [gtL, gnL, gL_1, gL_gL, gL_21, upd2_p]; first | assumption | omega)) (by first | assumption | omega | (simp (disch := omega) only [gtL, gnL, gL_1, gL_gL, gL_21, upd2_p]; first | assumption | omega))).trans ?_
      refine (if_neg (by omega)).trans ?_
      simp (maxSteps := 2000000) (disch := first | assumption | omega | (simp (disch := omega) only [gL_gL, gL_21, gtL, gnL, gL_1, gL_gL, gL_21, upd2_p]; first | assumption | omega)) only [gL_gL, gL_21, aft_v, aft_n, aft_t, Nat.add_assoc, Nat.reduceAdd, if_true, if_false, not_true_eq_false, not_false_eq_true, Classical.not_not, Int.reduceAdd, Int.reduceSub, Int.reduceMul, Int.reduceNeg, Int.reduceLT, Int.reduceLE, Int.reduceEq, Int.add_zero, Int.zero_add, Int.sub_zero, w_209_15, w_209_27, w_209_28, w_209_29, w_209_30, hM1, if_pos (show 10 * (e + 1) + cntS P (e + 1) ≤ 10 * (e + 1) + cntS P (e + 1) by omega)]
    · have f1 : farS (bhS P e c) = bhS P e c := by unfold farS; rw [if_neg cb9]
      have f2 : farS (frS P e c) = bhS P e c + ownS P 0 e c := by
        unfold frS sumS; rw [if_neg (fun z => by rcases z with z | z; exact nO z; exact cb9 z)]; unfold farS; rw [if_neg (by omega)]; omega
      rw [f1, f2]
      refine (w_209_14 (by first | assumption | omega | (simp (disch := omega) only [gtL, gnL, gL_1, gL_gL, gL_21, upd2_p]; first | assumption | omega)) (by first | assumption | omega | (simp (disch := omega) only [gtL, gnL, gL_1, gL_gL, gL_21, upd2_p]; first | assumption | omega))).trans ?_
      refine (if_neg (by omega)).trans ?_
      simp (maxSteps := 2000000) (disch := first | assumption | omega | (simp (disch := omega) only [gL_gL, gL_21, gtL, gnL, gL_1, gL_gL, gL_21, upd2_p]; first | assumption | omega)) only [gL_gL, gL_21, aft_v, aft_n, aft_t, Nat.add_assoc, Nat.reduceAdd, if_true, if_false, not_true_eq_false, not_false_eq_true, Classical.not_not, Int.reduceAdd, Int.reduceSub, Int.reduceMul, Int.reduceNeg, Int.reduceLT, Int.reduceLE, Int.reduceEq, Int.add_zero, Int.zero_add, Int.sub_zero, w_209_15, w_209_27, w_209_28, w_209_29, w_209_30, hM1, if_pos (show 10 * (e + 1) + cntS P (e + 1) ≤ 10 * (e + 1) + cntS P (e + 1) by omega), if_pos (show ¬ bhS P e c = 1000000000 by omega), hOwn]
end MF
