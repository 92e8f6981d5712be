/-! The reference: least costs and counts from the end. -/
/-- far where there is none -/
def farS (x : Int) : Int := if x = -1 then 1000000000 else x
/-- least cost behind (far), all, cheapest ones: d events from the last -/
noncomputable def bcN (P : PT) : Nat → Int → Int × Int × Int
  | 0, _ => (0, 1, 1)
  | d + 1, c => itI (fun k x => if stepS P (pE P - 2 - d) c k = -1 ∨ frS P (pE P - 1 - d) k = -1 then x else (min x.1 (stepS P (pE P - 2 - d) c k + frS P (pE P - 1 - d) k), min 1000000000000000 (x.2.1 + (bcN P d k).2.1), if stepS P (pE P - 2 - d) c k + frS P (pE P - 1 - d) k ≤ x.1 then min 1000000000000000 ((if stepS P (pE P - 2 - d) c k + frS P (pE P - 1 - d) k < x.1 then 0 else x.2.2) + (bcN P d k).2.2) else x.2.2)) (1000000000, 0, 0) (cntS P (pE P - 1 - d))
noncomputable def bcS (P : PT) (e c : Int) : Int × Int × Int := bcN P (pE P - 1 - e).toNat c
theorem bcS_l {P : PT} {e c : Int} (h : e = pE P - 1) : bcS P e c = (0, 1, 1) := by
  subst h; unfold bcS; rw [show (pE P - 1 - (pE P - 1)).toNat = 0 by omega]; rfl
theorem bcS_s {P : PT} {e c : Int} (h : e + 1 < pE P) : bcS P e c = itI (fun k x => if stepS P e c k = -1 ∨ frS P (e + 1) k = -1 then x else (min x.1 (stepS P e c k + frS P (e + 1) k), min 1000000000000000 (x.2.1 + (bcS P (e + 1) k).2.1), if stepS P e c k + frS P (e + 1) k ≤ x.1 then min 1000000000000000 ((if stepS P e c k + frS P (e + 1) k < x.1 then 0 else x.2.2) + (bcS P (e + 1) k).2.2) else x.2.2)) (1000000000, 0, 0) (cntS P (e + 1)) := by
  obtain ⟨d, hd⟩ : ∃ d : Nat, pE P - 1 - e = d + 1 := ⟨(pE P - 2 - e).toNat, by omega⟩
  have e1 : pE P - 2 - d = e := by omega
  have e2 : pE P - 1 - d = e + 1 := by omega
  unfold bcS
  rw [show (pE P - 1 - e).toNat = d + 1 by omega, show (pE P - 1 - (e + 1)).toNat = d by omega]
  show itI _ _ (cntS P (pE P - 1 - d)) = _
  rw [e1, e2]
theorem bcS_b {P : PT} (hbd : bdP P) : ∀ (d : Nat) (c : Int), (d : Int) < pE P → (0 ≤ (bcN P d c).1 ∧ (bcN P d c).1 ≤ 1000000000) ∧ (0 ≤ (bcN P d c).2.1 ∧ (bcN P d c).2.1 ≤ 1000000000000000) ∧ (0 ≤ (bcN P d c).2.2 ∧ (bcN P d c).2.2 ≤ 1000000000000000) := by
  intro d
  induction d with
  | zero => intro c _; show (0 ≤ (0 : Int) ∧ (0 : Int) ≤ _) ∧ (0 ≤ (1 : Int) ∧ (1 : Int) ≤ _) ∧ (0 ≤ (1 : Int) ∧ (1 : Int) ≤ _); omega
  | succ d ih =>
    intro c hd
    have n1 := hbd.2.2.1 (pE P - 1 - d) (by omega) (by omega)
    refine itI_ind (fun _ x => (0 ≤ x.1 ∧ x.1 ≤ 1000000000) ∧ (0 ≤ x.2.1 ∧ x.2.1 ≤ 1000000000000000) ∧ (0 ≤ x.2.2 ∧ x.2.2 ≤ 1000000000000000)) (by decide) (fun k x k0 k1 hx => ?_) n1.2.1
    have h1 := st_b hbd (e := pE P - 2 - d) (c := c) (n := k) (by omega) (by omega)
    have h2 := fr_ge hbd (e := pE P - 1 - d) (c := k) (by omega) (by omega)
    have h3 := ih k (by omega)
    obtain ⟨x1, x2, x3⟩ := x
    show (0 ≤ (if _ then (x1, x2, x3) else _).1 ∧ _) ∧ _
    by_cases hc : stepS P (pE P - 2 - d) c k = -1 ∨ frS P (pE P - 1 - d) k = -1
    · rw [if_pos hc]; exact hx
    · rw [if_neg hc]
      refine ⟨?_, ?_, ?_⟩
      · show 0 ≤ min _ _ ∧ min _ _ ≤ _; omega
      · show 0 ≤ min _ _ ∧ min _ _ ≤ _; omega
      · show 0 ≤ (if _ then _ else _) ∧ (if _ then _ else _) ≤ _
        split
        · split <;> omega
        · exact hx.2.2
/-- the least of the far ones -/
theorem mn_far {f : Int → Int} {n : Int} (hn : 0 ≤ n) (h : ∀ i, 0 ≤ i → i < n → -1 ≤ f i ∧ f i < 1000000000) : itI (fun i a => if f i = -1 then a else min a (f i)) 1000000000 n = farS (mnI f n) := by
  have := itI_ind (F := fun i a => if f i = -1 then a else min a (f i)) (a := (1000000000 : Int)) (n := n) (fun m v => v = farS (mnI f m) ∧ -1 ≤ mnI f m ∧ mnI f m < 1000000000) ⟨rfl, by decide, by decide⟩ (fun i v i0 i1 hv => by
    have hb := h i i0 i1
    obtain ⟨hv, hm⟩ := hv
    rw [mnI_s i0]
    unfold lesS
    subst hv
    unfold farS
    refine ⟨?_, ?_⟩
    · (repeat' split) <;> omega
    · (repeat' split) <;> omega) hn
  exact this.1
theorem bc_1 {P : PT} (hbd : bdP P) {e c : Int} (e0 : 0 ≤ e) (e1 : e < pE P) : (bcS P e c).1 = farS (bhS P e c) := by
  by_cases hl : e = pE P - 1
  · rw [bcS_l hl, bhS_l hl]; rfl
  · have n1 := hbd.2.2.1 (e + 1) (by omega) (by omega)
    rw [bcS_s (by omega), bhS_s (by omega)]
    have hb := fun k => sum_b (st_b hbd (e := e) (c := c) (n := k) e0 (by omega)) (fr_ge hbd (e := e + 1) (c := k) (by omega) (by omega)) (by decide) (by decide)
    have h2 := mn_far (f := fun k => sumS (stepS P e c k) (frS P (e + 1) k)) (n := cntS P (e + 1)) n1.2.1 (fun k _ _ => by have := hb k; omega)
    refine Eq.trans ?_ h2
    have key : ∀ n : Nat, (itN (fun k (x : Int × Int × Int) => if stepS P e c k = -1 ∨ frS P (e + 1) k = -1 then x else (min x.1 (stepS P e c k + frS P (e + 1) k), min 1000000000000000 (x.2.1 + (bcS P (e + 1) k).2.1), if stepS P e c k + frS P (e + 1) k ≤ x.1 then min 1000000000000000 ((if stepS P e c k + frS P (e + 1) k < x.1 then 0 else x.2.2) + (bcS P (e + 1) k).2.2) else x.2.2)) (1000000000, 0, 0) n).1 = itN (fun i a => if sumS (stepS P e c i) (frS P (e + 1) i) = -1 then a else min a (sumS (stepS P e c i) (frS P (e + 1) i))) 1000000000 n := by
      intro n
      induction n with
      | zero => rfl
      | succ n ih =>
        simp only [itN]
        have h3 := st_b hbd (e := e) (c := c) (n := n) e0 (by omega)
        have h4 := fr_ge hbd (e := e + 1) (c := n) (by omega) (by omega)
        by_cases hc : stepS P e c n = -1 ∨ frS P (e + 1) n = -1
        · rw [if_pos hc, if_pos (by unfold sumS; rw [if_pos hc]), ih]
        · have hs : sumS (stepS P e c n) (frS P (e + 1) n) = stepS P e c n + frS P (e + 1) n := by unfold sumS; rw [if_neg hc]
          rw [if_neg hc, hs, if_neg (by omega), ih]
    exact key _
