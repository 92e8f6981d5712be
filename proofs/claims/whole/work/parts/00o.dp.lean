/-! What the fingerings of a piece cost: words of both sides. -/
/-- those numbers below n that are good, in their order -/
noncomputable def flt (ok : Nat → Prop) : Nat → List Nat
  | 0 => []
  | n + 1 => @ite _ (ok n) (Classical.propDecidable _) (flt ok n ++ [n]) (flt ok n)
theorem flt_y {ok : Nat → Prop} {n : Nat} (h : ok n) : flt ok (n + 1) = flt ok n ++ [n] := if_pos h
theorem flt_n {ok : Nat → Prop} {n : Nat} (h : ¬ ok n) : flt ok (n + 1) = flt ok n := if_neg h
theorem flt_le {ok ok' : Nat → Prop} {n : Nat} (h : ∀ i, i < n → ok i → ok' i) : (flt ok n).length ≤ (flt ok' n).length := by
  induction n with
  | zero => exact Nat.le_refl _
  | succ n ih =>
    have ih := ih (fun i hi => h i (by omega))
    by_cases h1 : ok n
    · rw [flt_y h1, flt_y (h n (by omega) h1)]
      simp only [List.length_append, List.length_cons, List.length_nil]; omega
    · rw [flt_n h1]
      by_cases h2 : ok' n
      · rw [flt_y h2]; simp only [List.length_append, List.length_cons, List.length_nil]; omega
      · rw [flt_n h2]; exact ih
theorem flt_mono {ok : Nat → Prop} {n m : Nat} (h : n ≤ m) : (flt ok n).length ≤ (flt ok m).length := by
  induction h with
  | refl => exact Nat.le_refl _
  | step _ ih =>
    rename_i m _
    refine Nat.le_trans ih ?_
    by_cases h1 : ok m
    · rw [flt_y h1]; simp only [List.length_append, List.length_cons, List.length_nil]; omega
    · rw [flt_n h1]; exact Nat.le_refl _
theorem flt_mem {ok : Nat → Prop} {n : Nat} : ∀ x ∈ flt ok n, ok x ∧ x < n := by
  induction n with
  | zero => intro x hx; cases hx
  | succ n ih =>
    intro x hx
    by_cases h1 : ok n
    · rw [flt_y h1] at hx
      rcases List.mem_append.mp hx with h | h
      · exact ⟨(ih x h).1, by have := (ih x h).2; omega⟩
      · rw [List.mem_singleton] at h; subst h; exact ⟨h1, by omega⟩
    · rw [flt_n h1] at hx
      exact ⟨(ih x hx).1, by have := (ih x hx).2; omega⟩
def fltB (ok : Nat → Bool) : Nat → Nat
  | 0 => 0
  | n + 1 => if ok n then fltB ok n + 1 else fltB ok n
theorem flt_B {ok : Nat → Bool} {n : Nat} : (flt (fun i => ok i = true) n).length = fltB ok n := by
  induction n with
  | zero => rfl
  | succ n ih =>
    by_cases h : ok n = true
    · rw [flt_y h]; simp only [List.length_append, List.length_cons, List.length_nil, fltB, h, if_true, ih]
    · rw [flt_n h]; simp only [fltB, h]; exact ih
/-- how far shapes of n notes are apart, and how many there are -/
def stpN (n : Int) : Int := if n = 1 then 25 else if n = 2 then 5 else 1
def mN (n : Int) : Nat := if n = 1 then 5 else if n = 2 then 25 else 125
/-- shape number m of event e costs something -/
def okm (P : PT) (e : Int) (m : Nat) : Prop := ¬ ecostS P e 0 (fgS (m * stpN (pSz P e))) = -1
noncomputable def shp (P : PT) (e : Int) : List Nat := flt (okm P e) (mN (pSz P e))
noncomputable def cntS (P : PT) (e : Int) : Int := (shp P e).length
noncomputable def itS (P : PT) (e c : Int) : Int := ((shp P e).getD c.toNat 0 : Nat) * stpN (pSz P e)
noncomputable def fgP (P : PT) (e c : Int) : Int → Int := fgS (itS P e c)
noncomputable def ownS (P : PT) (b e c : Int) : Int := ecostS P e b (fgP P e c)
noncomputable def stepW (P : PT) (r e c n : Int) : Int := passS P e r (fgP P e c) (fgP P (e + 1) n)
noncomputable def stepS (P : PT) (e c n : Int) : Int := stepW P (pRe P e) e c n
/-- folds -/
def itN {α : Type} (F : Int → α → α) (a : α) : Nat → α
  | 0 => a
  | n + 1 => F n (itN F a n)
def itI {α : Type} (F : Int → α → α) (a : α) (n : Int) : α := itN F a n.toNat
theorem itI_0 {α : Type} {F : Int → α → α} {a : α} : itI F a 0 = a := rfl
theorem itI_s {α : Type} {F : Int → α → α} {a : α} {i : Int} (h : 0 ≤ i) : itI F a (i + 1) = F i (itI F a i) := by
  unfold itI
  rw [show (i + 1).toNat = i.toNat + 1 by omega]
  simp only [itN]
  rw [show ((i.toNat : Nat) : Int) = i by omega]
theorem itI_ind {α : Type} {F : Int → α → α} {a : α} {n : Int} (Q : Int → α → Prop) (h0 : Q 0 a) (hs : ∀ i x, 0 ≤ i → i < n → Q i x → Q (i + 1) (F i x)) (hn : 0 ≤ n) : Q n (itI F a n) := by
  have key : ∀ k : Nat, (k : Int) ≤ n → Q k (itN F a k) := by
    intro k
    induction k with
    | zero => intro _; exact h0
    | succ k ih => intro hk; exact hs k _ (by omega) (by omega) (ih (by omega))
  have := key n.toNat (by omega)
  rw [show ((n.toNat : Nat) : Int) = n by omega] at this
  exact this
theorem itI_congr {α : Type} {F G : Int → α → α} {a : α} {n : Int} (h : ∀ i x, 0 ≤ i → i < n → F i x = G i x) (hn : 0 ≤ n) : itI F a n = itI G a n := by
  refine itI_ind (fun i x => x = itI G a i) rfl ?_ hn
  rintro i x h0 h1 rfl
  rw [itI_s h0, h i _ h0 h1]
/-- the least of some costs -/
noncomputable def mnI (f : Int → Int) (n : Int) : Int := itI (fun i a => lesS a (f i)) (-1) n
/-- the least costs up to a choice; behind it, d events from the last -/
noncomputable def ahG (cnt : Int → Int) (own : Int → Int → Int) (stp : Int → Int → Int → Int) : Nat → Int → Int
  | 0, c => own 0 c
  | e + 1, c => sumS (mnI (fun c' => sumS (ahG cnt own stp e c') (stp e c' c)) (cnt e)) (own (e + 1 : Nat) c)
noncomputable def bhG (n : Int) (cnt : Int → Int) (own : Int → Int → Int) (stp : Int → Int → Int → Int) : Nat → Int → Int
  | 0, _ => 0
  | d + 1, c => mnI (fun k => sumS (stp (n - 2 - d) c k) (sumS (own (n - 1 - d) k) (bhG n cnt own stp d k))) (cnt (n - 1 - d))
noncomputable def ahN (P : PT) (b : Int) : Nat → Int → Int := ahG (cntS P) (ownS P b) (stepS P)
noncomputable def ahS (P : PT) (b e c : Int) : Int := ahN P b e.toNat c
noncomputable def bhN (P : PT) : Nat → Int → Int := bhG (pE P) (cntS P) (ownS P 0) (stepS P)
noncomputable def bhS (P : PT) (e c : Int) : Int := bhN P (pE P - 1 - e).toNat c
noncomputable def frS (P : PT) (e c : Int) : Int := sumS (ownS P 0 e c) (bhS P e c)
noncomputable def lsS (P : PT) (b : Int) : Int := if pE P = 0 then 0 else mnI (ahS P b (pE P - 1)) (cntS P (pE P - 1))
/-- the first number below n with a property, 0 if there is none -/
noncomputable def fnd (p : Int → Prop) (n : Int) : Int := itI (fun i a => @ite _ (a < 0 ∧ p i) (Classical.propDecidable _) i a) (-1) n
/-- the choice of event e behind a choice, if so much is left -/
noncomputable def fsC (P : PT) (e prev left : Int) : Int := max 0 (fnd (fun c => (if e = 0 then frS P 0 c else sumS (stepS P (e - 1) prev c) (frS P e c)) = left) (cntS P e))
/-- the first cheapest fingering: event e's choice, and what is left behind it -/
noncomputable def fsN (P : PT) : Nat → Int × Int
  | 0 => (fsC P 0 0 (lsS P 0), bhS P 0 (fsC P 0 0 (lsS P 0)))
  | e + 1 => (fsC P (e + 1 : Nat) (fsN P e).1 (fsN P e).2, bhS P (e + 1 : Nat) (fsC P (e + 1 : Nat) (fsN P e).1 (fsN P e).2))
noncomputable def fsS (P : PT) (e : Int) : Int := (fsN P e.toNat).1
/- shapes in order -/
def ordB (r n : Int) (m : Nat) : Bool := if n = 1 then true else if n = 2 then (if r = 0 then decide (fgS (m * 5) 1 < fgS (m * 5) 0) else decide (fgS (m * 5) 0 < fgS (m * 5) 1)) else (if r = 0 then decide (fgS m 1 < fgS m 0 ∧ fgS m 2 < fgS m 1) else decide (fgS m 0 < fgS m 1 ∧ fgS m 1 < fgS m 2))
theorem ord_ok {P : PT} {e : Int} {m : Nat} (hr : pR P = 0 ∨ pR P = 1) (hn : 1 ≤ pSz P e ∧ pSz P e ≤ 3) (h : okm P e m) : ordB (pR P) (pSz P e) m = true := by
  unfold okm ecostS stpN at h
  unfold ordB
  have hs : pSz P e = 1 ∨ pSz P e = 2 ∨ pSz P e = 3 := by omega
  rcases hs with hs | hs | hs
  · rw [if_pos hs]
  · rw [if_neg (by omega), if_pos hs]
    rw [if_neg (show ¬ pSz P e = 1 by omega), if_pos hs] at h
    rcases hr with hr | hr
    · rw [if_pos hr]
      apply decide_eq_true
      refine Classical.byContradiction fun hc => h ?_
      (repeat' split) <;> first | rfl | omega
    · rw [if_neg (by omega)]
      apply decide_eq_true
      refine Classical.byContradiction fun hc => h ?_
      (repeat' split) <;> first | rfl | omega
  · rw [if_neg (by omega), if_neg (by omega)]
    rw [if_neg (show ¬ pSz P e = 1 by omega), if_neg (show ¬ pSz P e = 2 by omega)] at h
    simp only [Int.mul_one] at h
    rcases hr with hr | hr
    · rw [if_pos hr]
      apply decide_eq_true
      refine Classical.byContradiction fun hc => h ?_
      (repeat' split) <;> first | rfl | omega
    · rw [if_neg (by omega)]
      apply decide_eq_true
      refine Classical.byContradiction fun hc => h ?_
      (repeat' split) <;> first | rfl | omega
theorem ord_10 {r n : Int} (hr : r = 0 ∨ r = 1) (hn : 1 ≤ n ∧ n ≤ 3) : fltB (ordB r n) (mN n) ≤ 10 := by
  have hs : n = 1 ∨ n = 2 ∨ n = 3 := by omega
  rcases hr with rfl | rfl <;> rcases hs with rfl | rfl | rfl <;> decide +kernel
/-- at most ten shapes; another one only where there are fewer -/
theorem shp_le {P : PT} {e : Int} (hr : pR P = 0 ∨ pR P = 1) (hn : 1 ≤ pSz P e ∧ pSz P e ≤ 3) {m : Nat} (hm : m ≤ mN (pSz P e)) : (flt (okm P e) m).length ≤ 10 := by
  refine Nat.le_trans (flt_le (ok' := fun i => ordB (pR P) (pSz P e) i = true) (fun i _ h => ord_ok hr hn h)) (Nat.le_trans (flt_mono hm) ?_)
  rw [flt_B]
  exact ord_10 hr hn
theorem cnt_b {P : PT} {e : Int} (hr : pR P = 0 ∨ pR P = 1) (hn : 1 ≤ pSz P e ∧ pSz P e ≤ 3) : 0 ≤ cntS P e ∧ cntS P e ≤ 10 := by
  have := shp_le hr hn (Nat.le_refl _)
  unfold cntS shp
  omega
theorem fgS_b {its k : Int} (h0 : 0 ≤ its) (h1 : its < 125) : 1 ≤ fgS its k ∧ fgS its k ≤ 5 := by
  unfold fgS
  (repeat' split) <;> omega
theorem itS_b {P : PT} {e c : Int} (hn : 1 ≤ pSz P e ∧ pSz P e ≤ 3) : 0 ≤ itS P e c ∧ itS P e c < 125 := by
  have hs : pSz P e = 1 ∨ pSz P e = 2 ∨ pSz P e = 3 := by omega
  have key : ((shp P e).getD c.toNat 0) < mN (pSz P e) := by
    by_cases hc : c.toNat < (shp P e).length
    · have : (shp P e).getD c.toNat 0 ∈ shp P e := by
        rw [List.getD_eq_getElem?_getD, List.getElem?_eq_getElem hc]
        exact List.getElem_mem hc
      exact (flt_mem _ this).2
    · rw [List.getD_eq_getElem?_getD, List.getElem?_eq_none (by omega)]
      rcases hs with hs | hs | hs <;> rw [hs] <;> decide
  unfold itS
  rcases hs with hs | hs | hs
  · rw [hs, show mN 1 = 5 from rfl] at key; rw [hs, show stpN 1 = 25 from rfl]; omega
  · rw [hs, show mN 2 = 25 from rfl] at key; rw [hs, show stpN 2 = 5 from rfl]; omega
  · rw [hs, show mN 3 = 125 from rfl] at key; rw [hs, show stpN 3 = 1 from rfl]; omega
theorem fgP_b {P : PT} {e c k : Int} (hn : 1 ≤ pSz P e ∧ pSz P e ≤ 3) : 1 ≤ fgP P e c k ∧ fgP P e c k ≤ 5 := fgS_b (itS_b hn).1 (itS_b hn).2
theorem it_ok {P : PT} {e c : Int} (h0 : 0 ≤ c) (h1 : c < cntS P e) : ¬ ownS P 0 e c = -1 := by
  have hc : c.toNat < (shp P e).length := by unfold cntS at h1; omega
  have : (shp P e).getD c.toNat 0 ∈ shp P e := by
    rw [List.getD_eq_getElem?_getD, List.getElem?_eq_getElem hc]
    exact List.getElem_mem hc
  exact (flt_mem _ this).1
/- only the fingers of the notes count -/
theorem ecost_F {P : PT} {e b : Int} {F G : Int → Int} (hs : 1 ≤ pSz P e) (h : ∀ k, 0 ≤ k → k < pSz P e → k < 3 → F k = G k) : ecostS P e b F = ecostS P e b G := by
  unfold ecostS
  have h0 := h 0 (by omega) (by omega) (by omega)
  rw [h0]
  by_cases c1 : pSz P e ≤ 1
  · simp only [if_pos c1]
  have h1 := h 1 (by omega) (by omega) (by omega)
  rw [h1]
  by_cases c2 : pSz P e ≤ 2
  · simp only [if_pos c2]
  have h2 := h 2 (by omega) (by omega) (by omega)
  rw [h2]
theorem pass_F {P : PT} {e r : Int} {F G F' G' : Int → Int} (hr : pR P = 0 ∨ pR P = 1) (hs : 1 ≤ pSz P e) (hs' : 1 ≤ pSz P (e + 1)) (h : ∀ k, 0 ≤ k → k < pSz P e → F k = G k) (h' : ∀ k, 0 ≤ k → k < pSz P (e + 1) → F' k = G' k) : passS P e r F F' = passS P e r G G' := by
  have b : ∀ e n, 1 ≤ pSz P e → 0 ≤ endS P e n ∧ endS P e n < pSz P e := by
    intro e n hs; unfold endS; split <;> omega
  unfold passS
  rw [h _ (b e 0 hs).1 (b e 0 hs).2, h _ (b e 1 hs).1 (b e 1 hs).2, h' _ (b (e + 1) 0 hs').1 (b (e + 1) 0 hs').2, h' _ (b (e + 1) 1 hs').1 (b (e + 1) 1 hs').2]
theorem cross_F {P : PT} {e : Int} {F G F' G' : Int → Int} (hs : 1 ≤ pSz P e) (hs' : 1 ≤ pSz P (e + 1)) (h : ∀ k, 0 ≤ k → k < pSz P e → F k = G k) (h' : ∀ k, 0 ≤ k → k < pSz P (e + 1) → F' k = G' k) : crossS P e F F' = crossS P e G G' := by
  have b : ∀ e n, 1 ≤ pSz P e → 0 ≤ endS P e n ∧ endS P e n < pSz P e := by
    intro e n hs; unfold endS; split <;> omega
  unfold crossS
  rw [h _ (b e 0 hs).1 (b e 0 hs).2, h _ (b e 1 hs).1 (b e 1 hs).2, h' _ (b (e + 1) 0 hs').1 (b (e + 1) 0 hs').2, h' _ (b (e + 1) 1 hs').1 (b (e + 1) 1 hs').2]
