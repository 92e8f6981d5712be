/-! Least costs from both ends. -/
/-- the least number with a property, -1 if there is none -/
def isMin (p : Int → Prop) (v : Int) : Prop := (v = -1 ∧ ∀ x, 0 ≤ x → ¬ p x) ∨ (0 ≤ v ∧ p v ∧ ∀ x, 0 ≤ x → p x → v ≤ x)
theorem isMin_le {p q : Int → Prop} {v w : Int} (h1 : ∀ x, 0 ≤ x → p x → ∃ y, 0 ≤ y ∧ q y ∧ y ≤ x) (h2 : ∀ x, 0 ≤ x → q x → ∃ y, 0 ≤ y ∧ p y ∧ y ≤ x) (hv : isMin p v) (hw : isMin q w) : v = w := by
  rcases hv with ⟨rfl, hv⟩ | ⟨v0, hv, hv'⟩
  · rcases hw with ⟨rfl, _⟩ | ⟨w0, hw, _⟩
    · rfl
    · obtain ⟨y, y0, hy, _⟩ := h2 w w0 hw
      exact absurd hy (hv y y0)
  · rcases hw with ⟨rfl, hw⟩ | ⟨w0, hw, hw'⟩
    · obtain ⟨y, y0, hy, _⟩ := h1 v v0 hv
      exact absurd hy (hw y y0)
    · obtain ⟨y, y0, hy, hyv⟩ := h1 v v0 hv
      obtain ⟨z, z0, hz, hzw⟩ := h2 w w0 hw
      have := hw' y y0 hy
      have := hv' z z0 hz
      omega
theorem isMin_eq {p : Int → Prop} {v w : Int} (hv : isMin p v) (hw : isMin p w) : v = w :=
  isMin_le (fun x h0 h => ⟨x, h0, h, Int.le_refl _⟩) (fun x h0 h => ⟨x, h0, h, Int.le_refl _⟩) hv hw
theorem mnI_min {f : Int → Int} {n : Int} (hn : 0 ≤ n) (h : ∀ i, 0 ≤ i → i < n → -1 ≤ f i) : isMin (fun x => ∃ i, 0 ≤ i ∧ i < n ∧ f i = x) (mnI f n) := by
  have := itI_ind (F := fun i a => lesS a (f i)) (a := -1) (n := n) (fun m v => isMin (fun x => ∃ i, 0 ≤ i ∧ i < m ∧ f i = x) v) (Or.inl ⟨rfl, fun x _ ⟨i, i0, i1, _⟩ => by omega⟩) (fun i v i0 i1 hv => by
    have hb := h i i0 i1
    unfold lesS
    rcases hv with ⟨rfl, hv⟩ | ⟨v0, ⟨j, j0, j1, hj⟩, hv'⟩
    · rw [if_pos rfl]
      by_cases hf : f i = -1
      · refine Or.inl ⟨hf, ?_⟩
        rintro x x0 ⟨k, k0, k1, hk⟩
        by_cases hki : k = i
        · subst hki; omega
        · exact hv x x0 ⟨k, k0, by omega, hk⟩
      · refine Or.inr ⟨by omega, ⟨i, i0, by omega, rfl⟩, ?_⟩
        rintro x x0 ⟨k, k0, k1, hk⟩
        by_cases hki : k = i
        · subst hki; omega
        · exact absurd ⟨k, k0, by omega, hk⟩ (hv x x0)
    · rw [if_neg (by omega)]
      by_cases hf : f i = -1
      · rw [if_pos hf]
        refine Or.inr ⟨v0, ⟨j, j0, by omega, hj⟩, ?_⟩
        rintro x x0 ⟨k, k0, k1, hk⟩
        by_cases hki : k = i
        · subst hki; omega
        · exact hv' x x0 ⟨k, k0, by omega, hk⟩
      · rw [if_neg hf]
        refine Or.inr ⟨by omega, ?_, ?_⟩
        · by_cases hvf : v ≤ f i
          · exact ⟨j, j0, by omega, by omega⟩
          · exact ⟨i, i0, by omega, by omega⟩
        · rintro x x0 ⟨k, k0, k1, hk⟩
          by_cases hki : k = i
          · subst hki; omega
          · have := hv' x x0 ⟨k, k0, by omega, hk⟩; omega) hn
  exact this
theorem sum_ge {a b : Int} (ha : -1 ≤ a) (hb : -1 ≤ b) : -1 ≤ sumS a b := by unfold sumS; split <;> omega
theorem sum_nn {a b x : Int} (ha : -1 ≤ a) (hb : -1 ≤ b) (hx : 0 ≤ x) (h : sumS a b = x) : 0 ≤ a ∧ 0 ≤ b ∧ x = a + b := by
  unfold sumS at h; split at h <;> omega
theorem sum_of {a b : Int} (ha : 0 ≤ a) (hb : 0 ≤ b) : sumS a b = a + b := by unfold sumS; rw [if_neg (by omega)]
section DU
variable {n : Int} {cnt : Int → Int} {own : Int → Int → Int} {stp : Int → Int → Int → Int}
theorem mn_ge {f : Int → Int} {n : Int} (hn : 0 ≤ n) (h : ∀ i, 0 ≤ i → i < n → -1 ≤ f i) : -1 ≤ mnI f n := by
  rcases mnI_min hn h with h | h <;> omega
/-- a value of the least that is a number is attained; it is not above the others -/
theorem mn_at {f : Int → Int} {n x : Int} (hn : 0 ≤ n) (h : ∀ i, 0 ≤ i → i < n → -1 ≤ f i) (hx : 0 ≤ x) (e : mnI f n = x) : ∃ i, 0 ≤ i ∧ i < n ∧ f i = x := by
  rcases mnI_min hn h with ⟨h1, _⟩ | ⟨_, h1, _⟩
  · omega
  · rw [e] at h1; exact h1
theorem mn_le {f : Int → Int} {n i : Int} (hn : 0 ≤ n) (h : ∀ i, 0 ≤ i → i < n → -1 ≤ f i) (i0 : 0 ≤ i) (i1 : i < n) (hf : 0 ≤ f i) : 0 ≤ mnI f n ∧ mnI f n ≤ f i := by
  rcases mnI_min hn h with ⟨_, h1⟩ | ⟨h0, _, h2⟩
  · exact absurd ⟨i, i0, i1, rfl⟩ (h1 _ hf)
  · exact ⟨h0, h2 _ hf ⟨i, i0, i1, rfl⟩⟩
/-- counts, own costs and steps in their bounds, for n events -/
def okG (n : Int) (cnt : Int → Int) (own : Int → Int → Int) (stp : Int → Int → Int → Int) : Prop := (∀ e, 0 ≤ e → e < n → 0 ≤ cnt e) ∧ (∀ e c, 0 ≤ e → e < n → -1 ≤ own e c) ∧ (∀ e c c', 0 ≤ e → e + 1 < n → -1 ≤ stp e c c')
theorem ahG_ge (h : okG n cnt own stp) : ∀ (e : Nat), (e : Int) < n → ∀ c, -1 ≤ ahG cnt own stp e c := by
  intro e
  induction e with
  | zero => intro he c; exact h.2.1 0 c (by omega) (by omega)
  | succ e ih =>
    intro he c
    refine sum_ge (mn_ge (h.1 _ (by omega) (by omega)) (fun i _ _ => sum_ge (ih (by omega) i) (h.2.2 _ _ _ (by omega) (by omega)))) (h.2.1 _ _ (by omega) (by omega))
theorem bhG_ge (h : okG n cnt own stp) : ∀ (d : Nat), (d : Int) < n → ∀ c, -1 ≤ bhG n cnt own stp d c := by
  intro d
  induction d with
  | zero => intro _ c; show (-1 : Int) ≤ 0; decide
  | succ d ih =>
    intro hd c
    exact mn_ge (h.1 _ (by omega) (by omega)) (fun i _ _ => sum_ge (h.2.2 _ _ _ (by omega) (by omega)) (sum_ge (h.2.1 _ _ (by omega) (by omega)) (ih (by omega) i)))
/-- the least cost of all, looked at from event e -/
noncomputable def tG (n : Int) (cnt : Int → Int) (own : Int → Int → Int) (stp : Int → Int → Int → Int) (e : Nat) : Int := mnI (fun c => sumS (ahG cnt own stp e c) (bhG n cnt own stp (n - 1 - e).toNat c)) (cnt e)
theorem tG_step (h : okG n cnt own stp) {e : Nat} (he : (e : Int) + 1 < n) : tG n cnt own stp e = tG n cnt own stp (e + 1) := by
  obtain ⟨d, hd⟩ : ∃ d : Nat, (n - 1 - ((e + 1 : Nat) : Int)).toNat = d := ⟨_, rfl⟩
  have hd1 : (n - 1 - (e : Int)).toNat = d + 1 := by omega
  have e1 : n - 2 - (d : Int) = e := by omega
  have e2 : n - 1 - (d : Int) = (e + 1 : Nat) := by omega
  have hA := ahG_ge h e (by omega)
  have hA1 := ahG_ge h (e + 1) (by omega)
  have hB := bhG_ge h d (by omega)
  have hB1 := bhG_ge h (d + 1) (by omega)
  have cA := h.1 e (by omega) (by omega)
  have cB := h.1 (e + 1 : Nat) (by omega) (by omega)
  have gS : ∀ c c', -1 ≤ stp e c c' := fun c c' => h.2.2 _ _ _ (by omega) (by omega)
  have gO : ∀ c, -1 ≤ own (e + 1 : Nat) c := fun c => h.2.1 _ _ (by omega) (by omega)
  have eB : ∀ c, bhG n cnt own stp (d + 1) c = mnI (fun k => sumS (stp e c k) (sumS (own (e + 1 : Nat) k) (bhG n cnt own stp d k))) (cnt (e + 1 : Nat)) := by
    intro c
    show mnI (fun k => sumS (stp (n - 2 - d) c k) (sumS (own (n - 1 - d) k) (bhG n cnt own stp d k))) (cnt (n - 1 - d)) = _
    rw [e1, e2]
  have eA : ∀ c, ahG cnt own stp (e + 1) c = sumS (mnI (fun c' => sumS (ahG cnt own stp e c') (stp e c' c)) (cnt e)) (own (e + 1 : Nat) c) := fun _ => rfl
  unfold tG
  rw [hd, hd1]
  refine isMin_le ?_ ?_ (mnI_min cA (fun c _ _ => sum_ge (hA c) (hB1 c))) (mnI_min cB (fun c _ _ => sum_ge (hA1 c) (hB c)))
  · rintro x x0 ⟨c, c0, c1, hc⟩
    obtain ⟨a0, b0, hx⟩ := sum_nn (hA c) (hB1 c) x0 hc
    rw [eB] at b0 hx
    obtain ⟨k, k0, k1, hk⟩ := mn_at cB (fun i _ _ => sum_ge (gS c i) (sum_ge (gO i) (hB i))) b0 rfl
    obtain ⟨s0, r0, hs⟩ := sum_nn (gS c k) (sum_ge (gO k) (hB k)) b0 hk
    obtain ⟨o0, z0, hr⟩ := sum_nn (gO k) (hB k) r0 rfl
    have hm := mn_le (f := fun c' => sumS (ahG cnt own stp e c') (stp e c' k)) cA (fun i _ _ => sum_ge (hA i) (gS i k)) c0 c1 (by rw [sum_of a0 s0]; omega)
    rw [sum_of a0 s0] at hm
    refine ⟨ahG cnt own stp (e + 1) k + bhG n cnt own stp d k, ?_, ⟨k, k0, k1, ?_⟩, ?_⟩
    · rw [eA, sum_of hm.1 o0]; omega
    · rw [sum_of (by rw [eA, sum_of hm.1 o0]; omega) z0]
    · rw [eA, sum_of hm.1 o0]; omega
  · rintro x x0 ⟨k, k0, k1, hk⟩
    obtain ⟨a0, b0, hx⟩ := sum_nn (hA1 k) (hB k) x0 hk
    have m0 : -1 ≤ mnI (fun c' => sumS (ahG cnt own stp e c') (stp e c' k)) (cnt e) := mn_ge cA (fun i _ _ => sum_ge (hA i) (gS i k))
    obtain ⟨m1, o0, ha⟩ := sum_nn m0 (gO k) a0 (eA k).symm
    obtain ⟨c, c0, c1, hc⟩ := mn_at cA (fun i _ _ => sum_ge (hA i) (gS i k)) m1 rfl
    obtain ⟨p0, s0, hs⟩ := sum_nn (hA c) (gS c k) m1 hc
    have hm := mn_le (f := fun k => sumS (stp e c k) (sumS (own (e + 1 : Nat) k) (bhG n cnt own stp d k))) cB (fun i _ _ => sum_ge (gS c i) (sum_ge (gO i) (hB i))) k0 k1 (by rw [sum_of o0 b0, sum_of s0 (by omega)]; omega)
    rw [sum_of o0 b0, sum_of s0 (by omega), ← eB] at hm
    refine ⟨ahG cnt own stp e c + bhG n cnt own stp (d + 1) c, by omega, ⟨c, c0, c1, sum_of p0 hm.1⟩, by omega⟩
theorem tG_all (h : okG n cnt own stp) : ∀ (e : Nat), (e : Int) < n → tG n cnt own stp e = tG n cnt own stp 0 := by
  intro e
  induction e with
  | zero => intro _; rfl
  | succ e ih => intro he; rw [← tG_step h (by omega)]; exact ih (by omega)
end DU
