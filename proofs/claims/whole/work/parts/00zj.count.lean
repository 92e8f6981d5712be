/-! How many fingerings, from both ends. -/
noncomputable def ind (p : Prop) : Int := @ite _ p (Classical.propDecidable p) 1 0
theorem ind_y {p : Prop} (h : p) : ind p = 1 := if_pos h
theorem ind_n {p : Prop} (h : ¬ p) : ind p = 0 := if_neg h
theorem ind_b {p : Prop} : 0 ≤ ind p ∧ ind p ≤ 1 := by
  by_cases h : p
  · rw [ind_y h]; decide
  · rw [ind_n h]; decide
theorem sumN_congr {f g : Int → Int} {n : Nat} (h : ∀ i : Int, 0 ≤ i → i < n → f i = g i) : sumN f n = sumN g n := by
  induction n with
  | zero => rfl
  | succ n ih => simp only [sumN]; rw [ih (fun i a b => h i a (by omega)), h n (by omega) (by omega)]
theorem sumI_congr {f g : Int → Int} {n : Int} (h : ∀ i : Int, 0 ≤ i → i < n → f i = g i) : sumI f n = sumI g n :=
  sumN_congr (fun i a b => h i a (by omega))
theorem sumN_mul {f : Int → Int} {a : Int} {n : Nat} : a * sumN f n = sumN (fun i => a * f i) n := by
  induction n with
  | zero => simp [sumN]
  | succ n ih => simp only [sumN]; rw [Int.mul_add, ih]
theorem sumN_add {f g : Int → Int} {n : Nat} : sumN f n + sumN g n = sumN (fun i => f i + g i) n := by
  induction n with
  | zero => rfl
  | succ n ih => simp only [sumN]; rw [← ih]; omega
theorem sumN_0 {n : Nat} : sumN (fun _ => 0) n = 0 := by
  induction n with
  | zero => rfl
  | succ n ih => simp only [sumN]; rw [ih]; rfl
theorem sumN_swap {f : Int → Int → Int} {n m : Nat} : sumN (fun i => sumN (f i) m) n = sumN (fun j => sumN (fun i => f i j) n) m := by
  induction n with
  | zero => simp only [sumN]; exact sumN_0.symm
  | succ n ih => simp only [sumN]; rw [ih, sumN_add]
theorem sumI_mul {f : Int → Int} {a n : Int} : a * sumI f n = sumI (fun i => a * f i) n := sumN_mul
theorem sumI_swap {f : Int → Int → Int} {n m : Int} : sumI (fun i => sumI (f i) m) n = sumI (fun j => sumI (fun i => f i j) n) m := sumN_swap
theorem sumI_nn {f : Int → Int} {n : Int} (h : ∀ i : Int, 0 ≤ i → i < n → 0 ≤ f i) : 0 ≤ sumI f n := by
  unfold sumI
  generalize hk : n.toNat = k
  have h : ∀ i : Int, 0 ≤ i → i < k → 0 ≤ f i := fun i a b => h i a (by omega)
  clear hk
  induction k with
  | zero => exact Int.le_refl _
  | succ k ih => simp only [sumN]; have := ih (fun i a b => h i a (by omega)); have := h k (by omega) (by omega); omega
section CO
variable {cnt : Int → Int} {n : Int}
/-- paths over good edges from the start; to the end (d events from the last) -/
noncomputable def fwG (cnt : Int → Int) (gf : Int → Int → Int → Prop) : Nat → Int → Int
  | 0, _ => 1
  | e + 1, c => sumI (fun c' => ind (gf e c' c) * fwG cnt gf e c') (cnt e)
noncomputable def bwG (n : Int) (cnt : Int → Int) (gb : Int → Int → Int → Prop) : Nat → Int → Int
  | 0, _ => 1
  | d + 1, c => sumI (fun k => ind (gb (n - 2 - d) c k) * bwG n cnt gb d k) (cnt (n - 1 - d))
theorem dual_step {gf gb : Int → Int → Int → Prop} {on : Int → Int → Prop} {e : Nat} (he : (e : Int) + 1 < n) (h : ∀ c k, 0 ≤ c → c < cnt e → 0 ≤ k → k < cnt (e + 1 : Nat) → ((on e c ∧ gb e c k) ↔ (on (e + 1 : Nat) k ∧ gf e c k))) :
    sumI (fun c => ind (on e c) * (fwG cnt gf e c * bwG n cnt gb (n - 1 - e).toNat c)) (cnt e) = sumI (fun k => ind (on (e + 1 : Nat) k) * (fwG cnt gf (e + 1) k * bwG n cnt gb (n - 1 - (e + 1 : Nat)).toNat k)) (cnt (e + 1 : Nat)) := by
  obtain ⟨d, hd⟩ : ∃ d : Nat, (n - 1 - ((e + 1 : Nat) : Int)).toNat = d := ⟨_, rfl⟩
  have hd1 : (n - 1 - (e : Int)).toNat = d + 1 := by omega
  have e1 : n - 2 - (d : Int) = e := by omega
  have e2 : n - 1 - (d : Int) = (e + 1 : Nat) := by omega
  rw [hd, hd1]
  have L : sumI (fun c => ind (on e c) * (fwG cnt gf e c * bwG n cnt gb (d + 1) c)) (cnt e) = sumI (fun c => sumI (fun k => ind (on e c) * (fwG cnt gf e c * (ind (gb e c k) * bwG n cnt gb d k))) (cnt (e + 1 : Nat))) (cnt e) := by
    refine sumI_congr (fun c _ _ => ?_)
    have : bwG n cnt gb (d + 1) c = sumI (fun k => ind (gb e c k) * bwG n cnt gb d k) (cnt (e + 1 : Nat)) := by
      show sumI (fun k => ind (gb (n - 2 - d) c k) * bwG n cnt gb d k) (cnt (n - 1 - d)) = _
      rw [e1, e2]
    rw [this, sumI_mul, sumI_mul]
  have R : sumI (fun k => ind (on (e + 1 : Nat) k) * (fwG cnt gf (e + 1) k * bwG n cnt gb d k)) (cnt (e + 1 : Nat)) = sumI (fun k => sumI (fun c => ind (on (e + 1 : Nat) k) * (bwG n cnt gb d k * (ind (gf e c k) * fwG cnt gf e c))) (cnt e)) (cnt (e + 1 : Nat)) := by
    refine sumI_congr (fun k _ _ => ?_)
    have : fwG cnt gf (e + 1) k = sumI (fun c => ind (gf e c k) * fwG cnt gf e c) (cnt e) := rfl
    rw [this, Int.mul_comm (sumI _ _) (bwG n cnt gb d k), sumI_mul, sumI_mul]
  rw [L, R, sumI_swap]
  refine sumI_congr (fun k k0 k1 => sumI_congr (fun c c0 c1 => ?_))
  have hh := h c k c0 c1 k0 k1
  have key : ind (on e c) * ind (gb e c k) = ind (on (e + 1 : Nat) k) * ind (gf e c k) := by
    by_cases a : on e c ∧ gb e c k
    · obtain ⟨b1, b2⟩ := hh.mp a
      rw [ind_y a.1, ind_y a.2, ind_y b1, ind_y b2]
    · have b : ¬ (on (e + 1 : Nat) k ∧ gf e c k) := fun z => a (hh.mpr z)
      have z1 : ind (on e c) * ind (gb e c k) = 0 := by
        by_cases q : on e c
        · rw [ind_n (fun z => a ⟨q, z⟩), Int.mul_zero]
        · rw [ind_n q, Int.zero_mul]
      have z2 : ind (on (e + 1 : Nat) k) * ind (gf e c k) = 0 := by
        by_cases q : on (e + 1 : Nat) k
        · rw [ind_n (fun z => b ⟨q, z⟩), Int.mul_zero]
        · rw [ind_n q, Int.zero_mul]
      rw [z1, z2]
  have a1 : ind (on e c) * (fwG cnt gf e c * (ind (gb e c k) * bwG n cnt gb d k)) = (ind (on e c) * ind (gb e c k)) * (fwG cnt gf e c * bwG n cnt gb d k) := by
    rw [Int.mul_assoc, ← Int.mul_assoc (ind (gb e c k)), Int.mul_comm (ind (gb e c k)) (fwG cnt gf e c), Int.mul_assoc (fwG cnt gf e c)]
  have a2 : ind (on (e + 1 : Nat) k) * (bwG n cnt gb d k * (ind (gf e c k) * fwG cnt gf e c)) = (ind (on (e + 1 : Nat) k) * ind (gf e c k)) * (fwG cnt gf e c * bwG n cnt gb d k) := by
    rw [Int.mul_assoc, Int.mul_comm (bwG n cnt gb d k), Int.mul_assoc (ind (gf e c k))]
  rw [a1, a2, key]
theorem dual_all {gf gb : Int → Int → Int → Prop} {on : Int → Int → Prop} (h : ∀ (e : Nat) c k, (e : Int) + 1 < n → 0 ≤ c → c < cnt e → 0 ≤ k → k < cnt (e + 1 : Nat) → ((on e c ∧ gb e c k) ↔ (on (e + 1 : Nat) k ∧ gf e c k))) : ∀ (e : Nat), (e : Int) < n →
    sumI (fun c => ind (on e c) * (fwG cnt gf e c * bwG n cnt gb (n - 1 - e).toNat c)) (cnt e) = sumI (fun c => ind (on (0 : Nat) c) * (fwG cnt gf 0 c * bwG n cnt gb (n - 1 - (0 : Nat)).toNat c)) (cnt (0 : Nat)) := by
  intro e
  induction e with
  | zero => intro _; rfl
  | succ e ih =>
    intro he
    rw [← dual_step (by omega) (fun c k a b p q => h e c k (by omega) a b p q)]
    exact ih (by omega)
theorem fw_nn {gf : Int → Int → Int → Prop} : ∀ (e : Nat) (c : Int), 0 ≤ fwG cnt gf e c := by
  intro e
  induction e with
  | zero => intro c; show (0 : Int) ≤ 1; decide
  | succ e ih => intro c; exact sumI_nn (fun i _ _ => Int.mul_nonneg ind_b.1 (ih i))
theorem bw_nn {gb : Int → Int → Int → Prop} : ∀ (d : Nat) (c : Int), 0 ≤ bwG n cnt gb d c := by
  intro d
  induction d with
  | zero => intro c; show (0 : Int) ≤ 1; decide
  | succ d ih => intro c; exact sumI_nn (fun i _ _ => Int.mul_nonneg ind_b.1 (ih i))
end CO
/- sums that are cut at a bound -/
theorem min_sum {M : Int} (hM : 0 ≤ M) {f : Int → Int} {n : Int} (hn : 0 ≤ n) (h : ∀ i, 0 ≤ i → i < n → 0 ≤ f i) : min (sumI (fun i => min M (f i)) n) M = min M (sumI f n) := by
  have key : ∀ k : Nat, (k : Int) ≤ n → min (sumN (fun i => min M (f i)) k) M = min M (sumN f k) ∧ 0 ≤ sumN f k ∧ 0 ≤ sumN (fun i => min M (f i)) k := by
    intro k
    induction k with
    | zero => intro _; simp only [sumN]; omega
    | succ k ih =>
      intro hk
      have ih := ih (by omega)
      have := h k (by omega) (by omega)
      simp only [sumN]
      omega
  exact (key n.toNat (by omega)).1
theorem fold_sum {M : Int} (hM : 0 ≤ M) {f : Int → Int} {n : Int} (hn : 0 ≤ n) (h : ∀ i, 0 ≤ i → i < n → 0 ≤ f i) : itI (fun i a => min M (a + min M (f i))) 0 n = min M (sumI f n) := by
  have key : ∀ k : Nat, (k : Int) ≤ n → itN (fun i a => min M (a + min M (f i))) 0 k = min M (sumN f k) ∧ 0 ≤ sumN f k := by
    intro k
    induction k with
    | zero => intro _; simp only [sumN, itN]; omega
    | succ k ih =>
      intro hk
      have ih := ih (by omega)
      have := h k (by omega) (by omega)
      simp only [sumN, itN]
      rw [ih.1]
      omega
  exact (key n.toNat (by omega)).1
