/-! How many fingerings: the class and the reference count the same. -/
/-- the reference's answer -/
noncomputable def mqS (P : PT) (ch : Int) : Int := if pE P = 0 then 1 else itI (fun c a => min 1000000000000000 (a + (if ch = 0 then (bcS P 0 c).2.1 else if frS P 0 c = lsS P 0 ∧ ¬ lsS P 0 = -1 then (bcS P 0 c).2.2 else 0))) 0 (cntS P 0)
section CT
variable {P : PT}
theorem sumN_z {f : Int → Int} {n : Nat} (h : ∀ i : Int, 0 ≤ i → i < n → f i = 0) : sumN f n = 0 := by rw [sumN_congr (g := fun _ => 0) h]; exact sumN_0
theorem sumI_z {f : Int → Int} {n : Int} (h : ∀ i : Int, 0 ≤ i → i < n → f i = 0) : sumI f n = 0 := sumN_z (fun i a b => h i a (by omega))
theorem mn_none {f : Int → Int} {n : Int} (hn : 0 ≤ n) (h : ∀ i, 0 ≤ i → i < n → -1 ≤ f i) (e : mnI f n = -1) : ∀ i, 0 ≤ i → i < n → f i = -1 := fun i i0 i1 => by
  refine Classical.byContradiction fun hc => ?_
  have := h i i0 i1
  have := mn_le hn h i0 i1 (by omega)
  omega
theorem fw_ah (hbd : bdP P) : ∀ (e : Nat) (c : Int), (e : Int) < pE P → 0 ≤ c → c < cntS P e → ahN P 0 e c = -1 → fwG (cntS P) (fun e c k => ¬ stepS P e c k = -1) e c = 0 := by
  intro e
  induction e with
  | zero => intro c he c0 c1 h; exact absurd h (it_ok c0 c1)
  | succ e ih =>
    intro c he c0 c1 h
    have hO := it_ok c0 c1
    have n0 := hbd.2.2.1 e (by omega) (by omega)
    have h : sumS (mnI (fun c' => sumS (ahN P 0 e c') (stepS P e c' c)) (cntS P e)) (ownS P 0 (e + 1 : Nat) c) = -1 := h
    have bO := hbd.2.2.2.1 0 (e + 1 : Nat) c (by omega) (by omega)
    have hb := fun i => sum_b (ah_b hbd (b := 0) e i (by omega)) (st_b hbd (e := e) (c := i) (n := c) (by omega) (by omega)) (by omega) (by decide)
    have hm : mnI (fun c' => sumS (ahN P 0 e c') (stepS P e c' c)) (cntS P e) = -1 := by
      refine Classical.byContradiction fun hc => ?_
      have := mn_ge (f := fun c' => sumS (ahN P 0 e c') (stepS P e c' c)) n0.2.1 (fun i _ _ => (hb i).1)
      rw [sum_of (by omega) (by omega)] at h
      omega
    have hall := mn_none (f := fun c' => sumS (ahN P 0 e c') (stepS P e c' c)) n0.2.1 (fun i _ _ => (hb i).1) hm
    refine sumI_z (fun i i0 i1 => ?_)
    show ind (¬ stepS P e i c = -1) * fwG (cntS P) (fun e c k => ¬ stepS P e c k = -1) e i = 0
    by_cases hs : stepS P e i c = -1
    · rw [ind_n (fun z => z hs), Int.zero_mul]
    · have ha : ahN P 0 e i = -1 := by
        have hi : sumS (ahN P 0 e i) (stepS P e i c) = -1 := hall i i0 i1
        have b1 := ah_b hbd (b := 0) e i (by omega)
        have b2 := st_b hbd (e := e) (c := i) (n := c) (by omega) (by omega)
        refine Classical.byContradiction fun hc => ?_
        rw [sum_of (by omega) (by omega)] at hi
        omega
      rw [ih i (by omega) i0 i1 ha, Int.mul_zero]
theorem wy_all (hbd : bdP P) : ∀ (e : Nat) (c : Int), (e : Int) < pE P → 0 ≤ c → c < cntS P e → wyN P 0 e c = min 1000000000000000 (fwG (cntS P) (fun e c k => ¬ stepS P e c k = -1) e c) := by
  intro e
  induction e with
  | zero => intro c _ _ _; rfl
  | succ e ih =>
    intro c he c0 c1
    have n0 := hbd.2.2.1 e (by omega) (by omega)
    have hO := it_ok c0 c1
    have bO := hbd.2.2.2.1 0 (e + 1 : Nat) c (by omega) (by omega)
    show min (sumI _ (cntS P e)) 1000000000000000 = min 1000000000000000 (sumI (fun c' => ind (¬ stepS P e c' c = -1) * fwG (cntS P) (fun e c k => ¬ stepS P e c k = -1) e c') (cntS P e))
    rw [← min_sum (by decide) n0.2.1 (fun i _ _ => Int.mul_nonneg ind_b.1 (fw_nn e i))]
    congr 1
    refine sumI_congr (fun i i0 i1 => ?_)
    have b1 := ahS_b hbd (b := 0) (e := e) (c := i) (by omega) (by omega)
    have b2 := st_b hbd (e := e) (c := i) (n := c) (by omega) (by omega)
    have hA : ahS P 0 e i = ahN P 0 e i := by unfold ahS; rw [show ((e : Int)).toNat = e by omega]
    by_cases hs : stepS P e i c = -1
    · have hz : sumS (sumS (ahS P 0 e i) (stepS P e i c)) (ownS P 0 (e + 1 : Nat) c) = -1 := by unfold sumS; rw [if_pos (c := ahS P 0 e i = -1 ∨ _) (Or.inr hs), if_pos (Or.inl rfl)]
      rw [if_neg (fun z => z.1 hz), ind_n (fun z => z hs), Int.zero_mul]; decide
    · rw [ind_y hs, Int.one_mul]
      by_cases ha : ahN P 0 e i = -1
      · have hz : sumS (sumS (ahS P 0 e i) (stepS P e i c)) (ownS P 0 (e + 1 : Nat) c) = -1 := by unfold sumS; rw [if_pos (c := ahS P 0 e i = -1 ∨ _) (Or.inl (hA.trans ha)), if_pos (Or.inl rfl)]
        rw [if_neg (fun z => z.1 hz), fw_ah hbd e i (by omega) i0 i1 ha]; decide
      · have hz : ¬ sumS (sumS (ahS P 0 e i) (stepS P e i c)) (ownS P 0 (e + 1 : Nat) c) = -1 := by rw [sum_of (a := ahS P 0 e i) (by omega) (by omega), sum_of (by omega) (by omega)]; omega
        rw [if_pos ⟨hz, Or.inl rfl⟩]
        exact ih i (by omega) i0 i1
theorem bw_bh (hbd : bdP P) : ∀ (d : Nat) (c : Int), (d : Int) < pE P → bhN P d c = -1 → bwG (pE P) (cntS P) (fun e c k => ¬ stepS P e c k = -1) d c = 0 := by
  intro d
  induction d with
  | zero => intro c _ h; exact absurd h (by show ¬ (0 : Int) = -1; decide)
  | succ d ih =>
    intro c hd h
    have n0 := hbd.2.2.1 (pE P - 1 - d) (by omega) (by omega)
    have h : mnI (fun k => sumS (stepS P (pE P - 2 - d) c k) (sumS (ownS P 0 (pE P - 1 - d) k) (bhN P d k))) (cntS P (pE P - 1 - d)) = -1 := h
    have hb := fun k => sum_b (st_b hbd (e := pE P - 2 - d) (c := c) (n := k) (by omega) (by omega)) (sum_b (hbd.2.2.2.1 0 (pE P - 1 - d) k (by omega) (by omega)) (bh_b hbd d k (by omega)) (by decide) (by omega)) (by decide) (by omega)
    have hall := mn_none (f := fun k => sumS (stepS P (pE P - 2 - d) c k) (sumS (ownS P 0 (pE P - 1 - d) k) (bhN P d k))) n0.2.1 (fun k _ _ => (hb k).1) h
    refine sumI_z (fun k k0 k1 => ?_)
    show ind (¬ stepS P (pE P - 2 - d) c k = -1) * bwG (pE P) (cntS P) (fun e c k => ¬ stepS P e c k = -1) d k = 0
    by_cases hs : stepS P (pE P - 2 - d) c k = -1
    · rw [ind_n (fun z => z hs), Int.zero_mul]
    · have ha : bhN P d k = -1 := by
        have hi : sumS (stepS P (pE P - 2 - d) c k) (sumS (ownS P 0 (pE P - 1 - d) k) (bhN P d k)) = -1 := hall k k0 k1
        have b1 := bh_b hbd d k (by omega)
        have b2 := st_b hbd (e := pE P - 2 - d) (c := c) (n := k) (by omega) (by omega)
        have b3 := hbd.2.2.2.1 0 (pE P - 1 - d) k (by omega) (by omega)
        have nO := it_ok k0 k1
        refine Classical.byContradiction fun hc => ?_
        rw [sum_of (a := ownS P 0 (pE P - 1 - d) k) (by omega) (by omega), sum_of (by omega) (by omega)] at hi
        omega
      rw [ih k (by omega) ha, Int.mul_zero]
/-- the fold of the reference, for the counts -/
theorem bc_all (hbd : bdP P) : ∀ (d : Nat) (c : Int), (d : Int) < pE P → (bcN P d c).2.1 = min 1000000000000000 (bwG (pE P) (cntS P) (fun e c k => ¬ stepS P e c k = -1) d c) := by
  intro d
  induction d with
  | zero => intro c _; rfl
  | succ d ih =>
    intro c hd
    have n0 := hbd.2.2.1 (pE P - 1 - d) (by omega) (by omega)
    obtain ⟨N, hN⟩ : ∃ N : Nat, (N : Int) = cntS P (pE P - 1 - d) := ⟨(cntS P (pE P - 1 - d)).toNat, by omega⟩
    have key : ∀ k : Nat, (k : Int) ≤ cntS P (pE P - 1 - d) → (itN (fun k (x : Int × Int × Int) => if stepS P (pE P - 2 - d) c k = -1 ∨ frS P (pE P - 1 - d) k = -1 then x else (min x.1 (stepS P (pE P - 2 - d) c k + frS P (pE P - 1 - d) k), min 1000000000000000 (x.2.1 + (bcN P d k).2.1), if stepS P (pE P - 2 - d) c k + frS P (pE P - 1 - d) k ≤ x.1 then min 1000000000000000 ((if stepS P (pE P - 2 - d) c k + frS P (pE P - 1 - d) k < x.1 then 0 else x.2.2) + (bcN P d k).2.2) else x.2.2)) (1000000000, 0, 0) k).2.1 = min 1000000000000000 (sumN (fun k => ind (¬ stepS P (pE P - 2 - d) c k = -1) * bwG (pE P) (cntS P) (fun e c k => ¬ stepS P e c k = -1) d k) k) ∧ 0 ≤ sumN (fun k => ind (¬ stepS P (pE P - 2 - d) c k = -1) * bwG (pE P) (cntS P) (fun e c k => ¬ stepS P e c k = -1) d k) k := by
      intro k
      induction k with
      | zero => intro _; simp only [itN, sumN]; decide
      | succ k ihk =>
        intro hk
        obtain ⟨i1, i2⟩ := ihk (by omega)
        have hw := bw_nn (n := pE P) (cnt := cntS P) (gb := fun e c k => ¬ stepS P e c k = -1) d k
        have hbd1 : bhS P (pE P - 1 - d) k = bhN P d k := by unfold bhS; rw [show (pE P - 1 - (pE P - 1 - d)).toNat = d by omega]
        have nO := it_ok (P := P) (e := pE P - 1 - d) (c := k) (by omega) (by omega)
        have bO := hbd.2.2.2.1 0 (pE P - 1 - d) k (by omega) (by omega)
        have bB := bh_b hbd d k (by omega)
        have hfr : frS P (pE P - 1 - d) k = -1 ↔ bhN P d k = -1 := by
          unfold frS; rw [hbd1]; unfold sumS; split <;> omega
        simp only [itN, sumN]
        by_cases hs : stepS P (pE P - 2 - d) c k = -1
        · rw [if_pos (Or.inl hs), ind_n (fun z => z hs), Int.zero_mul, Int.add_zero]; exact ⟨i1, i2⟩
        · rw [ind_y hs, Int.one_mul]
          by_cases hf : frS P (pE P - 1 - d) k = -1
          · rw [if_pos (Or.inr hf), bw_bh hbd d k (by omega) (hfr.mp hf), Int.add_zero]; exact ⟨i1, i2⟩
          · rw [if_neg (fun z => by rcases z with z | z; exact hs z; exact hf z)]
            refine ⟨?_, by omega⟩
            show min 1000000000000000 (_ + (bcN P d k).2.1) = _
            rw [i1, ih k (by omega)]
            omega
    have := (key N (by omega)).1
    show (itN _ _ (cntS P (pE P - 1 - d)).toNat : Int × Int × Int).2.1 = min 1000000000000000 (sumN _ (cntS P (pE P - 1 - d)).toNat)
    rw [show (cntS P (pE P - 1 - d)).toNat = N by omega]
    exact this
theorem many_all (hbd : bdP P) : wyS P 0 = mqS P 0 := by
  unfold wyS mqS
  by_cases hz : pE P = 0
  · rw [if_pos hz, if_pos hz]
  have w1 := hbd.2.1
  rw [if_neg hz, if_neg hz]
  have n0 := hbd.2.2.1 0 (by omega) (by omega)
  have nl := hbd.2.2.1 (pE P - 1) (by omega) (by omega)
  have L : sumI (fun c => if (0 : Int) = 0 ∨ ahS P 0 (pE P - 1) c = lsS P 0 then wyN P 0 (pE P - 1).toNat c else 0) (cntS P (pE P - 1)) = sumI (fun c => min 1000000000000000 (fwG (cntS P) (fun e c k => ¬ stepS P e c k = -1) (pE P - 1).toNat c)) (cntS P (pE P - 1)) :=
    sumI_congr (fun c c0 c1 => by rw [if_pos (Or.inl rfl), wy_all hbd _ _ (by omega) c0 (by rw [show (((pE P - 1).toNat : Nat) : Int) = pE P - 1 by omega]; exact c1)])
  rw [L, min_sum (by decide) nl.2.1 (fun c _ _ => fw_nn _ c)]
  have R : itI (fun c a => min 1000000000000000 (a + (if (0 : Int) = 0 then (bcS P 0 c).2.1 else if frS P 0 c = lsS P 0 ∧ ¬ lsS P 0 = -1 then (bcS P 0 c).2.2 else 0))) 0 (cntS P 0) = itI (fun c a => min 1000000000000000 (a + min 1000000000000000 (bwG (pE P) (cntS P) (fun e c k => ¬ stepS P e c k = -1) (pE P - 1 - 0).toNat c))) 0 (cntS P 0) :=
    itI_congr (fun c a c0 c1 => by rw [if_pos rfl]; unfold bcS; rw [bc_all hbd _ _ (by omega)]) n0.2.1
  rw [R, fold_sum (by decide) n0.2.1 (fun c _ _ => bw_nn _ c)]
  congr 1
  have D := dual_all (n := pE P) (cnt := cntS P) (gf := fun e c k => ¬ stepS P e c k = -1) (gb := fun e c k => ¬ stepS P e c k = -1) (on := fun _ _ => True) (fun e c k _ _ _ _ _ => Iff.rfl) (pE P - 1).toNat (by omega)
  rw [show (((pE P - 1).toNat : Nat) : Int) = pE P - 1 by omega] at D
  refine Eq.trans ?_ (D.trans ?_)
  · refine sumI_congr (fun c _ _ => ?_)
    rw [ind_y True.intro, Int.one_mul, show (pE P - 1 - (pE P - 1)).toNat = 0 by omega]
    show _ = fwG _ _ _ _ * 1
    rw [Int.mul_one]
  · refine sumI_congr (fun c _ _ => ?_)
    rw [ind_y True.intro, Int.one_mul]
    show 1 * _ = _
    rw [Int.one_mul]
    rfl
/- the cheapest ones -/
def gfC (P : PT) (e c' c : Int) : Prop := ¬ sumS (sumS (ahS P 0 e c') (stepS P e c' c)) (ownS P 0 (e + 1) c) = -1 ∧ sumS (sumS (ahS P 0 e c') (stepS P e c' c)) (ownS P 0 (e + 1) c) = ahS P 0 (e + 1) c
def gbC (P : PT) (e c k : Int) : Prop := sumS (stepS P e c k) (frS P (e + 1) k) = bhS P e c ∧ ¬ sumS (stepS P e c k) (frS P (e + 1) k) = -1
def onC (P : PT) (e c : Int) : Prop := sumS (ahS P 0 e c) (bhS P e c) = lsS P 0 ∧ ¬ lsS P 0 = -1
theorem wy_cheap (hbd : bdP P) : ∀ (e : Nat) (c : Int), (e : Int) < pE P → 0 ≤ c → c < cntS P e → wyN P 1 e c = min 1000000000000000 (fwG (cntS P) (gfC P) e c) := by
  intro e
  induction e with
  | zero => intro c _ _ _; rfl
  | succ e ih =>
    intro c he c0 c1
    have n0 := hbd.2.2.1 e (by omega) (by omega)
    show min (sumI _ (cntS P e)) 1000000000000000 = min 1000000000000000 (sumI (fun c' => ind (gfC P e c' c) * fwG (cntS P) (gfC P) e c') (cntS P e))
    rw [← min_sum (by decide) n0.2.1 (fun i _ _ => Int.mul_nonneg ind_b.1 (fw_nn e i))]
    congr 1
    refine sumI_congr (fun i i0 i1 => ?_)
    by_cases hc : ¬ sumS (sumS (ahS P 0 e i) (stepS P e i c)) (ownS P 0 (e + 1 : Nat) c) = -1 ∧ sumS (sumS (ahS P 0 e i) (stepS P e i c)) (ownS P 0 (e + 1 : Nat) c) = ahS P 0 (e + 1 : Nat) c
    · have hc' : gfC P e i c := hc
      rw [if_pos ⟨hc.1, Or.inr hc.2⟩, ind_y hc', Int.one_mul]
      exact ih i (by omega) i0 i1
    · have hc' : ¬ gfC P e i c := hc
      rw [if_neg (fun z => hc ⟨z.1, by rcases z.2 with h | h; exact absurd h (by decide); exact h⟩), ind_n hc', Int.zero_mul]
      decide
/-- the running least and its count -/
theorem run_min {V y : Int → Int} {n : Int} (hn : 0 ≤ n) (hV : ∀ k, 0 ≤ k → k < n → -1 ≤ V k ∧ V k < 1000000000) (hy : ∀ k, 0 ≤ k → k < n → 0 ≤ y k) :
    (itI (fun k (x : Int × Int) => if V k = -1 then x else (min x.1 (V k), if V k ≤ x.1 then min 1000000000000000 ((if V k < x.1 then 0 else x.2) + min 1000000000000000 (y k)) else x.2)) (1000000000, 0) n) = (farS (mnI V n), min 1000000000000000 (sumI (fun k => ind (V k = mnI V n ∧ ¬ V k = -1) * y k) n)) := by
  have key : ∀ k : Nat, (k : Int) ≤ n → (itN (fun k (x : Int × Int) => if V k = -1 then x else (min x.1 (V k), if V k ≤ x.1 then min 1000000000000000 ((if V k < x.1 then 0 else x.2) + min 1000000000000000 (y k)) else x.2)) (1000000000, 0) k) = (farS (mnI V k), min 1000000000000000 (sumN (fun j => ind (V j = mnI V k ∧ ¬ V j = -1) * y j) k)) ∧ 0 ≤ sumN (fun j => ind (V j = mnI V k ∧ ¬ V j = -1) * y j) k := by
    intro k
    induction k with
    | zero => intro _; exact ⟨rfl, Int.le_refl _⟩
    | succ k ih =>
      intro hk
      obtain ⟨i1, i2⟩ := ih (by omega)
      have hv := hV k (by omega) (by omega)
      have hyk := hy k (by omega) (by omega)
      have hs : mnI V ((k + 1 : Nat) : Int) = lesS (mnI V k) (V k) := mnI_s (f := V) (i := (k : Int)) (by omega)
      have hmb := mnI_b (f := V) (n := (k : Int)) (A := 999999999) (by omega) (by decide) (fun i a b => by have := hV i a (by omega); omega)
      have nn : 0 ≤ sumN (fun j => ind (V j = mnI V ((k + 1 : Nat) : Int) ∧ ¬ V j = -1) * y j) (k + 1) := by
        have := sumI_nn (f := fun j => ind (V j = mnI V ((k + 1 : Nat) : Int) ∧ ¬ V j = -1) * y j) (n := ((k + 1 : Nat) : Int)) (fun i a b => Int.mul_nonneg ind_b.1 (hy i a (by omega)))
        unfold sumI at this
        rw [show (((k + 1 : Nat) : Int)).toNat = k + 1 by omega] at this
        exact this
      refine ⟨?_, nn⟩
      simp only [itN, sumN]
      rw [i1]
      by_cases h1 : V k = -1
      · have hm : mnI V ((k + 1 : Nat) : Int) = mnI V k := by rw [hs, h1]; unfold lesS; split <;> omega
        rw [if_pos h1, hm, ind_n (fun z => z.2 h1), Int.zero_mul, Int.add_zero]
      · rw [if_neg h1]
        by_cases h2 : mnI V k = -1
        · have hm : mnI V ((k + 1 : Nat) : Int) = V k := by rw [hs, h2]; unfold lesS; rw [if_pos rfl]
          have hz : sumN (fun j => ind (V j = V k ∧ ¬ V j = -1) * y j) k = 0 := sumN_z (fun j j0 j1 => by
            have := mn_none (f := V) (n := (k : Int)) (by omega) (fun i a b => (hV i a (by omega)).1) h2 j j0 j1
            rw [ind_n (fun z => z.2 this), Int.zero_mul])
          have f1 : farS (mnI V k) = 1000000000 := by rw [h2]; rfl
          have f2 : farS (V k) = V k := by unfold farS; rw [if_neg h1]
          rw [hm, hz, ind_y ⟨rfl, h1⟩, Int.one_mul, f1, f2]
          show (min 1000000000 (V k), if V k ≤ 1000000000 then min 1000000000000000 ((if V k < 1000000000 then 0 else _) + min 1000000000000000 (y k)) else _) = _
          rw [if_pos (by omega), if_pos (by omega)]
          refine Prod.ext ?_ ?_
          · show min 1000000000 (V k) = V k; omega
          · show min _ (0 + min _ (y k)) = min _ (0 + y k); omega
        · have f1 : farS (mnI V k) = mnI V k := by unfold farS; rw [if_neg h2]
          rw [f1]
          by_cases h3 : V k < mnI V k
          · have hm : mnI V ((k + 1 : Nat) : Int) = V k := by rw [hs]; unfold lesS; rw [if_neg h2, if_neg h1]; omega
            have hz : sumN (fun j => ind (V j = V k ∧ ¬ V j = -1) * y j) k = 0 := sumN_z (fun j j0 j1 => by
              have hj := hV j j0 (by omega)
              by_cases q : V j = -1
              · rw [ind_n (fun z => z.2 q), Int.zero_mul]
              · have := mn_le (f := V) (n := (k : Int)) (by omega) (fun i a b => (hV i a (by omega)).1) j0 j1 (by omega)
                rw [ind_n (fun z => by have := z.1; omega), Int.zero_mul])
            have f2 : farS (V k) = V k := by unfold farS; rw [if_neg h1]
            rw [hm, hz, ind_y ⟨rfl, h1⟩, Int.one_mul, f2]
            show (min (mnI V k) (V k), if V k ≤ mnI V k then min 1000000000000000 ((if V k < mnI V k then 0 else _) + min 1000000000000000 (y k)) else _) = _
            rw [if_pos (by omega), if_pos h3]
            refine Prod.ext ?_ ?_
            · show min (mnI V k) (V k) = V k; omega
            · show min _ (0 + min _ (y k)) = min _ (0 + y k); omega
          · have hm : mnI V ((k + 1 : Nat) : Int) = mnI V k := by rw [hs]; unfold lesS; rw [if_neg h2, if_neg h1]; omega
            rw [hm, f1]
            show (min (mnI V k) (V k), if V k ≤ mnI V k then min 1000000000000000 ((if V k < mnI V k then 0 else min 1000000000000000 (sumN (fun j => ind (V j = mnI V k ∧ ¬ V j = -1) * y j) k)) + min 1000000000000000 (y k)) else min 1000000000000000 (sumN (fun j => ind (V j = mnI V k ∧ ¬ V j = -1) * y j) k)) = _
            by_cases h4 : V k = mnI V k
            · rw [if_pos (by omega), if_neg h3, ind_y (p := V k = mnI V k ∧ ¬ V k = -1) ⟨h4, h1⟩, Int.one_mul]
              refine Prod.ext ?_ ?_
              · show min (mnI V k) (V k) = _; omega
              · show min _ (min _ _ + min _ (y k)) = min _ (_ + y k); omega
            · rw [if_neg (by omega), ind_n (p := V k = mnI V k ∧ ¬ V k = -1) (fun z => h4 z.1), Int.zero_mul, Int.add_zero]
              refine Prod.ext ?_ rfl
              show min (mnI V k) (V k) = _; omega
  have := (key n.toNat (by omega)).1
  rw [show ((n.toNat : Nat) : Int) = n by omega] at this
  exact this
theorem bc_cheap (hbd : bdP P) : ∀ (d : Nat) (c : Int), (d : Int) < pE P → (bcN P d c).2.2 = min 1000000000000000 (bwG (pE P) (cntS P) (gbC P) d c) := by
  intro d
  induction d with
  | zero => intro c _; rfl
  | succ d ih =>
    intro c hd
    have n0 := hbd.2.2.1 (pE P - 1 - d) (by omega) (by omega)
    have hee : pE P - 2 - d + 1 = pE P - 1 - d := by omega
    obtain ⟨V, hV⟩ : ∃ V : Int → Int, V = fun k => sumS (stepS P (pE P - 2 - d) c k) (frS P (pE P - 1 - d) k) := ⟨_, rfl⟩
    have hVb : ∀ k, 0 ≤ k → k < cntS P (pE P - 1 - d) → -1 ≤ V k ∧ V k < 1000000000 := fun k _ _ => by
      rw [hV]
      have := sum_b (st_b hbd (e := pE P - 2 - d) (c := c) (n := k) (by omega) (by omega)) (fr_ge hbd (e := pE P - 1 - d) (c := k) (by omega) (by omega)) (by decide) (by decide)
      show -1 ≤ sumS _ _ ∧ sumS _ _ < _
      omega
    have R := run_min (V := V) (y := fun k => bwG (pE P) (cntS P) (gbC P) d k) n0.2.1 hVb (fun k _ _ => bw_nn d k)
    have hbh : bhN P (d + 1) c = mnI V (cntS P (pE P - 1 - d)) := by
      rw [hV]
      show mnI (fun k => sumS (stepS P (pE P - 2 - d) c k) (sumS (ownS P 0 (pE P - 1 - d) k) (bhN P d k))) (cntS P (pE P - 1 - d)) = _
      refine mnI_congr (fun k _ _ => ?_) n0.2.1
      unfold frS bhS
      rw [show (pE P - 1 - (pE P - 1 - d)).toNat = d by omega]
    have key : ∀ k : Nat, (k : Int) ≤ cntS P (pE P - 1 - d) → ∃ s : Int, (itN (fun k (x : Int × Int × Int) => if stepS P (pE P - 2 - d) c k = -1 ∨ frS P (pE P - 1 - d) k = -1 then x else (min x.1 (stepS P (pE P - 2 - d) c k + frS P (pE P - 1 - d) k), min 1000000000000000 (x.2.1 + (bcN P d k).2.1), if stepS P (pE P - 2 - d) c k + frS P (pE P - 1 - d) k ≤ x.1 then min 1000000000000000 ((if stepS P (pE P - 2 - d) c k + frS P (pE P - 1 - d) k < x.1 then 0 else x.2.2) + (bcN P d k).2.2) else x.2.2)) (1000000000, 0, 0) k) = ((itN (fun k (x : Int × Int) => if V k = -1 then x else (min x.1 (V k), if V k ≤ x.1 then min 1000000000000000 ((if V k < x.1 then 0 else x.2) + min 1000000000000000 (bwG (pE P) (cntS P) (gbC P) d k)) else x.2)) (1000000000, 0) k).1, s, (itN (fun k (x : Int × Int) => if V k = -1 then x else (min x.1 (V k), if V k ≤ x.1 then min 1000000000000000 ((if V k < x.1 then 0 else x.2) + min 1000000000000000 (bwG (pE P) (cntS P) (gbC P) d k)) else x.2)) (1000000000, 0) k).2) := by
      intro k
      induction k with
      | zero => intro _; exact ⟨0, rfl⟩
      | succ k ihk =>
        intro hk
        obtain ⟨s, hs⟩ := ihk (by omega)
        simp only [itN]
        rw [hs]
        generalize (itN (fun k (x : Int × Int) => if V k = -1 then x else (min x.1 (V k), if V k ≤ x.1 then min 1000000000000000 ((if V k < x.1 then 0 else x.2) + min 1000000000000000 (bwG (pE P) (cntS P) (gbC P) d k)) else x.2)) (1000000000, 0) k) = X
        by_cases hc : stepS P (pE P - 2 - d) c k = -1 ∨ frS P (pE P - 1 - d) k = -1
        · have hv : V k = -1 := by rw [hV]; show sumS _ _ = -1; unfold sumS; rw [if_pos hc]
          rw [if_pos hc, if_pos hv]
          exact ⟨s, rfl⟩
        · have b1 := st_b hbd (e := pE P - 2 - d) (c := c) (n := k) (by omega) (by omega)
          have b2 := fr_ge hbd (e := pE P - 1 - d) (c := k) (by omega) (by omega)
          have hv : V k = stepS P (pE P - 2 - d) c k + frS P (pE P - 1 - d) k := by rw [hV]; show sumS _ _ = _; unfold sumS; rw [if_neg hc]
          rw [if_neg hc, if_neg (show ¬ V k = -1 by omega), hv, ih k (by omega)]
          exact ⟨_, rfl⟩
    obtain ⟨s, hs⟩ := key (cntS P (pE P - 1 - d)).toNat (by omega)
    have e1 : bcN P (d + 1) c = itN (fun k (x : Int × Int × Int) => if stepS P (pE P - 2 - d) c k = -1 ∨ frS P (pE P - 1 - d) k = -1 then x else (min x.1 (stepS P (pE P - 2 - d) c k + frS P (pE P - 1 - d) k), min 1000000000000000 (x.2.1 + (bcN P d k).2.1), if stepS P (pE P - 2 - d) c k + frS P (pE P - 1 - d) k ≤ x.1 then min 1000000000000000 ((if stepS P (pE P - 2 - d) c k + frS P (pE P - 1 - d) k < x.1 then 0 else x.2.2) + (bcN P d k).2.2) else x.2.2)) (1000000000, 0, 0) (cntS P (pE P - 1 - d)).toNat := rfl
    rw [e1, hs]
    have R2 := congrArg Prod.snd R
    refine Eq.trans R2 ?_
    show min _ _ = min _ (sumI (fun k => ind (gbC P (pE P - 2 - d) c k) * bwG (pE P) (cntS P) (gbC P) d k) (cntS P (pE P - 1 - d)))
    congr 1
    refine sumI_congr (fun k _ _ => ?_)
    have hi : (V k = mnI V (cntS P (pE P - 1 - d)) ∧ ¬ V k = -1) ↔ gbC P (pE P - 2 - d) c k := by
      unfold gbC
      rw [hee, ← hbh, hV]
      have e2 : bhS P (pE P - 2 - d) c = bhN P (d + 1) c := by unfold bhS; rw [show (pE P - 1 - (pE P - 2 - d)).toNat = d + 1 by omega]
      rw [e2]
    by_cases hq : gbC P (pE P - 2 - d) c k
    · rw [ind_y hq, ind_y (hi.mpr hq)]
    · rw [ind_n hq, ind_n (fun z => hq (hi.mp z))]
theorem tG_ls (hbd : bdP P) (h1 : 1 ≤ pE P) {e : Nat} (he : (e : Int) < pE P) : lsS P 0 = mnI (fun c => sumS (ahS P 0 e c) (bhS P e c)) (cntS P e) := by
  have hG := bd_G hbd 0
  have hl : lsS P 0 = tG (pE P) (cntS P) (ownS P 0) (stepS P) 0 := by
    rw [ls_fr hbd h1]
    unfold tG
    refine mnI_congr (fun i _ _ => ?_) (hbd.2.2.1 _ (by omega) (by omega)).2.1
    unfold frS bhS bhN
    rw [show pE P - 1 - ((0 : Nat) : Int) = pE P - 1 - 0 by omega]
    rfl
  rw [hl, ← tG_all hG e he]
  unfold tG ahS bhS ahN bhN
  rw [show ((e : Int)).toNat = e by omega]
theorem many_cheap (hbd : bdP P) : wyS P 1 = mqS P 1 := by
  unfold wyS mqS
  by_cases hz : pE P = 0
  · rw [if_pos hz, if_pos hz]
  have w1 := hbd.2.1
  rw [if_neg hz, if_neg hz]
  have n0 := hbd.2.2.1 0 (by omega) (by omega)
  have nl := hbd.2.2.1 (pE P - 1) (by omega) (by omega)
  have hbl : ∀ c, bhS P (pE P - 1) c = 0 := fun c => bhS_l rfl
  have L : sumI (fun c => if (1 : Int) = 0 ∨ ahS P 0 (pE P - 1) c = lsS P 0 then wyN P 1 (pE P - 1).toNat c else 0) (cntS P (pE P - 1)) = sumI (fun c => min 1000000000000000 (ind (onC P (pE P - 1) c) * fwG (cntS P) (gfC P) (pE P - 1).toNat c)) (cntS P (pE P - 1)) := by
    refine sumI_congr (fun c c0 c1 => ?_)
    have ba := ahS_b hbd (b := 0) (e := pE P - 1) (c := c) (by omega) (by omega)
    have hs : sumS (ahS P 0 (pE P - 1) c) (bhS P (pE P - 1) c) = ahS P 0 (pE P - 1) c := by rw [hbl]; unfold sumS; split <;> omega
    have hwy := wy_cheap hbd (pE P - 1).toNat c (by omega) c0 (by rw [show (((pE P - 1).toNat : Nat) : Int) = pE P - 1 by omega]; exact c1)
    by_cases h1 : ahS P 0 (pE P - 1) c = lsS P 0
    · rw [if_pos (Or.inr h1)]
      by_cases h2 : lsS P 0 = -1
      · rw [ind_n (fun z => z.2 h2), Int.zero_mul]
        -- nothing is counted where there is none
        by_cases h3 : pE P - 1 = 0
        · exfalso
          have := it_ok (P := P) (e := pE P - 1) c0 c1
          rw [h3, ahS_0] at h1
          rw [h3] at this
          omega
        · obtain ⟨k, hk⟩ : ∃ k : Nat, (pE P - 1).toNat = k + 1 := ⟨(pE P - 2).toNat, by omega⟩
          rw [hk]
          have hk2 : pE P - 1 = (k + 1 : Nat) := by omega
          show min (sumI _ (cntS P k)) _ = _
          rw [sumI_z (fun i i0 i1 => ?_)]
          · decide
          · refine if_neg (fun z => ?_)
            have q : sumS (sumS (ahS P 0 k i) (stepS P k i c)) (ownS P 0 (k + 1 : Nat) c) = ahS P 0 (k + 1 : Nat) c := by
              rcases z.2 with h | h
              · exact absurd h (by decide)
              · exact h
            apply z.1
            rw [q, ← hk2, h1, h2]
      · rw [ind_y ⟨hs.trans h1, h2⟩, Int.one_mul]; exact hwy
    · rw [if_neg (fun z => by rcases z with z | z; exact absurd z (by decide); exact h1 z), ind_n (fun z => h1 (hs.symm.trans z.1)), Int.zero_mul]; decide
  rw [L, min_sum (by decide) nl.2.1 (fun c _ _ => Int.mul_nonneg ind_b.1 (fw_nn _ c))]
  have ah0 : ∀ c, ahS P 0 0 c = ownS P 0 0 c := fun c => rfl
  have R : itI (fun c a => min 1000000000000000 (a + (if (1 : Int) = 0 then (bcS P 0 c).2.1 else if frS P 0 c = lsS P 0 ∧ ¬ lsS P 0 = -1 then (bcS P 0 c).2.2 else 0))) 0 (cntS P 0) = itI (fun c a => min 1000000000000000 (a + min 1000000000000000 (ind (onC P 0 c) * bwG (pE P) (cntS P) (gbC P) (pE P - 1 - 0).toNat c))) 0 (cntS P 0) := by
    refine itI_congr (fun c a c0 c1 => ?_) n0.2.1
    rw [if_neg (by decide)]
    have hbc : (bcS P 0 c).2.2 = min 1000000000000000 (bwG (pE P) (cntS P) (gbC P) (pE P - 1 - 0).toNat c) := bc_cheap hbd _ _ (by omega)
    by_cases h1 : frS P 0 c = lsS P 0 ∧ ¬ lsS P 0 = -1
    · rw [if_pos h1, ind_y (p := onC P 0 c) h1, Int.one_mul, hbc]
    · rw [if_neg h1, ind_n (p := onC P 0 c) h1, Int.zero_mul]; rfl
  rw [R, fold_sum (by decide) n0.2.1 (fun c _ _ => Int.mul_nonneg ind_b.1 (bw_nn _ c))]
  congr 1
  have hG := bd_G hbd 0
  have D := dual_all (n := pE P) (cnt := cntS P) (gf := gfC P) (gb := gbC P) (on := onC P) (fun e c k he c0 c1 k0 k1 => by
    have T0 := tG_ls hbd (by omega) (e := e) (by omega)
    have T1 := tG_ls hbd (by omega) (e := e + 1) he
    have nA := (hbd.2.2.1 e (by omega) (by omega)).2.1
    have nB := (hbd.2.2.1 (e + 1 : Nat) (by omega) (by omega)).2.1
    have bA := fun c => ahS_b hbd (b := 0) (e := e) (c := c) (by omega) (by omega)
    have bA1 := fun c => ahS_b hbd (b := 0) (e := (e + 1 : Nat)) (c := c) (by omega) (by omega)
    have bB := fun c => bhS_b hbd (e := e) (c := c) (by omega) (by omega)
    have bB1 := fun c => bhS_b hbd (e := (e + 1 : Nat)) (c := c) (by omega) (by omega)
    have bS := st_b hbd (e := e) (c := c) (n := k) (by omega) (by omega)
    have bO := hbd.2.2.2.1 0 (e + 1 : Nat) k (by omega) (by omega)
    have nO := it_ok (P := P) (e := (e + 1 : Nat)) k0 k1
    have hfr : frS P ((e : Int) + 1) k = sumS (ownS P 0 (e + 1 : Nat) k) (bhS P (e + 1 : Nat) k) := rfl
    have le1 := fun c0 c1 h => mn_le (f := fun c => sumS (ahS P 0 e c) (bhS P e c)) (i := c) nA (fun i _ _ => sum_ge (bA i).1 (bB i).1) c0 c1 h
    have le2 := fun c0 c1 h => mn_le (f := fun c => sumS (ahS P 0 (e + 1 : Nat) c) (bhS P (e + 1 : Nat) c)) (i := k) nB (fun i _ _ => sum_ge (bA1 i).1 (bB1 i).1) c0 c1 h
    have hbhe : bhS P e c = mnI (fun k => sumS (stepS P e c k) (frS P ((e : Int) + 1) k)) (cntS P ((e + 1 : Nat) : Int)) := bhS_s (by omega)
    have hahe : ahS P 0 (e + 1 : Nat) k = sumS (mnI (fun c' => sumS (ahS P 0 e c') (stepS P e c' k)) (cntS P e)) (ownS P 0 (e + 1 : Nat) k) := by
      have := ahS_s (P := P) (b := 0) (e := ((e + 1 : Nat) : Int)) (c := k) (by omega)
      rw [show ((e + 1 : Nat) : Int) - 1 = e by omega] at this
      exact this
    have mA := fun h => mn_le (f := fun c' => sumS (ahS P 0 e c') (stepS P e c' k)) (i := c) nA (fun i _ _ => sum_ge (bA i).1 (st_b hbd (e := e) (c := i) (n := k) (by omega) (by omega)).1) c0 c1 h
    have mB := fun h => mn_le (f := fun k => sumS (stepS P e c k) (frS P ((e : Int) + 1) k)) (i := k) nB (fun i _ _ => sum_ge (st_b hbd (e := e) (c := c) (n := i) (by omega) (by omega)).1 (fr_ge hbd (e := ((e + 1 : Nat) : Int)) (c := i) (by omega) (by omega)).1) k0 k1 h
    have mAg := mn_ge (f := fun c' => sumS (ahS P 0 e c') (stepS P e c' k)) nA (fun i _ _ => sum_ge (bA i).1 (st_b hbd (e := e) (c := i) (n := k) (by omega) (by omega)).1)
    constructor
    · rintro ⟨⟨o1, o2⟩, g1, g2⟩
      have o0 : 0 ≤ lsS P 0 := by have := ls_b hbd (b := 0); omega
      obtain ⟨a0, b0, ab⟩ := sum_nn (bA c).1 (bB c).1 o0 o1
      rw [hfr] at g1 g2
      have gn : 0 ≤ sumS (stepS P e c k) (sumS (ownS P 0 (e + 1 : Nat) k) (bhS P (e + 1 : Nat) k)) := by rw [g1]; exact b0
      obtain ⟨s0, r0, hs⟩ := sum_nn bS.1 (sum_ge bO.1 (bB1 k).1) gn rfl
      obtain ⟨w0, z0, hw⟩ := sum_nn bO.1 (bB1 k).1 r0 rfl
      have m1 := mA (by rw [sum_of a0 s0]; omega)
      rw [sum_of a0 s0] at m1
      have hk1 : ahS P 0 (e + 1 : Nat) k = mnI (fun c' => sumS (ahS P 0 e c') (stepS P e c' k)) (cntS P e) + ownS P 0 (e + 1 : Nat) k := by rw [hahe, sum_of m1.1 w0]
      have l2 := le2 k0 k1 (by rw [sum_of (by omega) z0]; omega)
      rw [← T1, sum_of (by omega) z0] at l2
      have q1 : ahS P 0 (e + 1 : Nat) k = ahS P 0 e c + stepS P e c k + ownS P 0 (e + 1 : Nat) k := by omega
      refine ⟨⟨by rw [sum_of (by omega) z0]; omega, o2⟩, ?_, ?_⟩
      · show ¬ sumS (sumS (ahS P 0 e c) (stepS P e c k)) (ownS P 0 (e + 1 : Nat) k) = -1
        rw [sum_of a0 s0, sum_of (by omega) w0]; omega
      · show sumS (sumS (ahS P 0 e c) (stepS P e c k)) (ownS P 0 (e + 1 : Nat) k) = ahS P 0 (e + 1 : Nat) k
        rw [sum_of a0 s0, sum_of (by omega) w0]; omega
    · rintro ⟨⟨o1, o2⟩, g1, g2⟩
      have o0 : 0 ≤ lsS P 0 := by have := ls_b hbd (b := 0); omega
      obtain ⟨a0, b0, ab⟩ := sum_nn (bA1 k).1 (bB1 k).1 o0 o1
      have g1 : ¬ sumS (sumS (ahS P 0 e c) (stepS P e c k)) (ownS P 0 (e + 1 : Nat) k) = -1 := g1
      have g2 : sumS (sumS (ahS P 0 e c) (stepS P e c k)) (ownS P 0 (e + 1 : Nat) k) = ahS P 0 (e + 1 : Nat) k := g2
      obtain ⟨p0, w0, hp⟩ := sum_nn (sum_ge (bA c).1 bS.1) bO.1 a0 g2
      obtain ⟨c00, s0, hcs⟩ := sum_nn (bA c).1 bS.1 p0 rfl
      have hfv : sumS (stepS P e c k) (frS P ((e : Int) + 1) k) = stepS P e c k + (ownS P 0 (e + 1 : Nat) k + bhS P (e + 1 : Nat) k) := by rw [hfr, sum_of w0 b0, sum_of s0 (by omega)]
      have m2 := mB (by rw [hfv]; omega)
      rw [hfv, ← hbhe] at m2
      have l1 := le1 c0 c1 (by rw [sum_of c00 m2.1]; omega)
      rw [← T0, sum_of c00 m2.1] at l1
      have q1 : bhS P e c = stepS P e c k + (ownS P 0 (e + 1 : Nat) k + bhS P (e + 1 : Nat) k) := by omega
      refine ⟨⟨by rw [sum_of c00 m2.1]; omega, o2⟩, ?_, ?_⟩
      · rw [hfv, q1]
      · rw [hfv]; omega) (pE P - 1).toNat (by omega)
  rw [show (((pE P - 1).toNat : Nat) : Int) = pE P - 1 by omega] at D
  refine Eq.trans ?_ (D.trans ?_)
  · refine sumI_congr (fun c _ _ => ?_)
    rw [show (pE P - 1 - (pE P - 1)).toNat = 0 by omega]
    show _ = _ * (fwG _ _ _ _ * 1)
    rw [Int.mul_one]
  · refine sumI_congr (fun c _ _ => ?_)
    show ind (onC P 0 c) * (1 * _) = _
    rw [Int.one_mul]
    rfl
end CT
