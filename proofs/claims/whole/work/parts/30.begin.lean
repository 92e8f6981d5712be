/-! The memory that the law begins with: what was there, and the shapes of what will be. -/
def pcS (q j : Nat) : Sh := if j = 0 then sX0 q else if j % 2 = 1 then sX2 (q + j) else .inl (0, [40, 40, 120, 120, 10, 25, 25, 25].getD (j / 2 - 1) 0)
def plS (q j : Nat) : Sh := if j = 0 then sX1 q else if j = 19 then .inl (1, 400) else if j % 2 = 1 then sX2 (q + j) else .inl (0, [40, 1200, 400, 4000, 400, 400, 40, 400, 12].getD (j / 2 - 1) 0)
def shO (L p : Nat) : Nat × Nat := if p = 0 then (7, 10) else if p = 1 then (7, 50) else if p = 2 then (7, L) else if p < 21 then (8, 0) else if p < 23 then (10, 0) else if p < 41 then (9, (txW (p - 20)).length) else (10, 0)
def shN (p : Nat) : Sh :=
  if p = 64 then sX5 64
  else if p < 82 then pcS 65 (p - 65)
  else if p < 99 then pcS 82 (p - 82)
  else if p < 119 then plS 99 (p - 99)
  else if p < 139 then plS 119 (p - 119)
  else if p = 139 then sX4 139 else if p = 140 then sX2 140 else if p = 141 then .inl (0, 600)
  else if p = 142 then sX2 142 else if p = 143 then .inl (0, 120) else if p = 144 then sX2 144 else if p = 145 then .inl (0, 200)
  else if p = 146 then sX3 146 else if p = 147 then .inl (4, 8) else if p = 148 then sX3 148 else if p = 149 then .inl (4, 2)
  else if p = 150 then sX6 150
  else if p = 156 then .inl (3, 2) else if p = 165 then .inl (1, 400) else if p = 166 then .inl (1, 400)
  else if p < 169 then .inl (0, [362, 362, 362, 2896, 724, 0, 600, 3, 400, 400, 40, 40, 400, 400, 0, 0, 40, 250].getD (p - 151) 0)
  else if p = 169 then .inl (1, 1) else if p = 170 then .inl (2, 1)
  else pcS (171 + 17 * ((p - 171) / 17)) ((p - 171) % 17)
def shG (L p : Nat) : Sh := if p < 64 then .inl (shO L p) else shN p
def g0 (L : Nat) : Gm := (shG L, fun _ _ => 0, fun _ _ => 0, fun _ _ => none, 64, 0, 0)
def spL : List Int := [1, 2, 1, 5, 8, 1, 3, 3, 7, 10, 1, 4, 5, 9, 12, 1, 5, 7, 11, 14, 2, 3, 1, 2, 5, 2, 4, 3, 4, 7, 2, 5, 5, 7, 10, 3, 4, 1, 2, 4, 3, 5, 3, 4, 7, 4, 5, 1, 2, 5]
def bI (xs : Nat → Int32) : Mm := fun p i => if p = 0 then fW i else if p = 1 then spL.getD i.toNat 0 else if p = 2 then (xs i.toNat).toInt else if 23 ≤ p ∧ p < 41 then (txW (p - 20)).getD i.toNat 0 else 0
section BG
variable {g : Gm} {L : Nat} {xs : Nat → Int32}
theorem gt_at {p t n : Nat} (h : g.1 p = .inl (t, n)) : gt g p = t ∧ gn g p = n := by
  unfold gt gn; rw [h]; exact ⟨rfl, rfl⟩
theorem isR_at {p n : Nat} (h1 : g.1 p = sX2 p) (h2 : g.1 (p + 1) = .inl (0, n)) (hn : n < 2147483648) : isR g p ∧ g.1 p = sX2 p ∧ gn g (p + 1) = n := ⟨⟨h1, (gt_at h2).1, by rw [(gt_at h2).2]; exact hn⟩, h1, (gt_at h2).2⟩
theorem isPc_at {q : Nat} (h : ∀ j, j ≤ 16 → g.1 (q + j) = pcS q j) : isPc g q :=
  ⟨h 0 (by decide), isR_at (h 1 (by decide)) (h 2 (by decide)) (by decide), isR_at (h 3 (by decide)) (h 4 (by decide)) (by decide), isR_at (h 5 (by decide)) (h 6 (by decide)) (by decide), isR_at (h 7 (by decide)) (h 8 (by decide)) (by decide), isR_at (h 9 (by decide)) (h 10 (by decide)) (by decide), isR_at (h 11 (by decide)) (h 12 (by decide)) (by decide), isR_at (h 13 (by decide)) (h 14 (by decide)) (by decide), isR_at (h 15 (by decide)) (h 16 (by decide)) (by decide)⟩
theorem isPl_at {q : Nat} (h : ∀ j, j ≤ 19 → g.1 (q + j) = plS q j) : isPl g q :=
  ⟨h 0 (by decide), isR_at (h 1 (by decide)) (h 2 (by decide)) (by decide), isR_at (h 3 (by decide)) (h 4 (by decide)) (by decide), isR_at (h 5 (by decide)) (h 6 (by decide)) (by decide), isR_at (h 7 (by decide)) (h 8 (by decide)) (by decide), isR_at (h 9 (by decide)) (h 10 (by decide)) (by decide), isR_at (h 11 (by decide)) (h 12 (by decide)) (by decide), isR_at (h 13 (by decide)) (h 14 (by decide)) (by decide), isR_at (h 15 (by decide)) (h 16 (by decide)) (by decide), isR_at (h 17 (by decide)) (h 18 (by decide)) (by decide), gt_at (h 19 (by decide))⟩
theorem shG_n {p : Nat} (h : 64 ≤ p) : (g0 L).1 p = shN p := if_neg (by omega)
theorem shG_o {p : Nat} (h : p < 64) : (g0 L).1 p = .inl (shO L p) := if_pos h
theorem pc_far (k : Nat) : isPc (g0 L) (171 + 17 * k) := isPc_at (fun j hj => by
  rw [shG_n (by omega)]
  unfold shN
  rw [if_neg (by omega), if_neg (by omega), if_neg (by omega), if_neg (by omega), if_neg (by omega), if_neg (by omega), if_neg (by omega), if_neg (by omega), if_neg (by omega), if_neg (by omega), if_neg (by omega), if_neg (by omega), if_neg (by omega), if_neg (by omega), if_neg (by omega), if_neg (by omega), if_neg (by omega), if_neg (by omega), if_neg (by omega), if_neg (by omega), if_neg (by omega), if_neg (by omega), if_neg (by omega)]
  rw [show (171 + 17 * k + j - 171) / 17 = k by omega, show (171 + 17 * k + j - 171) % 17 = j by omega])
theorem pc_65 : isPc (g0 L) 65 := isPc_at (fun j hj => by
  rw [shG_n (by omega)]
  unfold shN
  rw [if_neg (by omega), if_pos (by omega), show 65 + j - 65 = j by omega])
theorem pc_82 : isPc (g0 L) 82 := isPc_at (fun j hj => by
  rw [shG_n (by omega)]
  unfold shN
  rw [if_neg (by omega), if_neg (by omega), if_pos (by omega), show 82 + j - 82 = j by omega])
theorem pl_99 : isPl (g0 L) 99 := isPl_at (fun j hj => by
  rw [shG_n (by omega)]
  unfold shN
  rw [if_neg (by omega), if_neg (by omega), if_neg (by omega), if_pos (by omega), show 99 + j - 99 = j by omega])
theorem pl_119 : isPl (g0 L) 119 := isPl_at (fun j hj => by
  rw [shG_n (by omega)]
  unfold shN
  rw [if_neg (by omega), if_neg (by omega), if_neg (by omega), if_neg (by omega), if_pos (by omega), show 119 + j - 119 = j by omega])
theorem h_64 : isH (g0 L) 64 :=
  ⟨(shG_n (by decide)).trans rfl, pc_65, pc_82, pl_99, pl_119, ⟨(shG_n (p := 139) (by decide)).trans rfl, isR_at (p := 140) ((shG_n (p := 140) (by decide)).trans rfl) ((shG_n (p := 141) (by decide)).trans rfl) (by decide)⟩, isR_at (p := 142) ((shG_n (p := 142) (by decide)).trans rfl) ((shG_n (p := 143) (by decide)).trans rfl) (by decide), isR_at (p := 144) ((shG_n (p := 144) (by decide)).trans rfl) ((shG_n (p := 145) (by decide)).trans rfl) (by decide), ⟨(shG_n (p := 146) (by decide)).trans rfl, gt_at ((shG_n (p := 147) (by decide)).trans rfl)⟩, ⟨(shG_n (p := 148) (by decide)).trans rfl, gt_at ((shG_n (p := 149) (by decide)).trans rfl)⟩⟩
theorem ar_at {p n : Nat} (h : g.1 p = .inl (0, n)) : gt g p = 0 ∧ (gt g p = 0 ∨ gt g p = 7) ∧ gn g p = n := ⟨(gt_at h).1, Or.inl (gt_at h).1, (gt_at h).2⟩
theorem m_150 : isM (g0 L) 150 :=
  ⟨(shG_n (by decide)).trans rfl, ar_at ((shG_n (p := 151) (by decide)).trans rfl), ar_at ((shG_n (p := 152) (by decide)).trans rfl), ar_at ((shG_n (p := 153) (by decide)).trans rfl), ar_at ((shG_n (p := 154) (by decide)).trans rfl), ar_at ((shG_n (p := 155) (by decide)).trans rfl), gt_at ((shG_n (p := 156) (by decide)).trans rfl), ar_at ((shG_n (p := 157) (by decide)).trans rfl), ar_at ((shG_n (p := 158) (by decide)).trans rfl), ar_at ((shG_n (p := 159) (by decide)).trans rfl), ar_at ((shG_n (p := 160) (by decide)).trans rfl), ar_at ((shG_n (p := 161) (by decide)).trans rfl), ar_at ((shG_n (p := 162) (by decide)).trans rfl), ar_at ((shG_n (p := 163) (by decide)).trans rfl), ar_at ((shG_n (p := 164) (by decide)).trans rfl), gt_at ((shG_n (p := 165) (by decide)).trans rfl), gt_at ((shG_n (p := 166) (by decide)).trans rfl), ar_at ((shG_n (p := 167) (by decide)).trans rfl), ar_at ((shG_n (p := 168) (by decide)).trans rfl)⟩
theorem shO_t {p : Nat} (h : 3 ≤ p) (h1 : p ≤ 20) : shO L p = (8, 0) := by
  unfold shO
  rw [if_neg (by omega), if_neg (by omega), if_neg (by omega), if_pos (by omega)]
theorem shO_b {p : Nat} (h : 23 ≤ p) (h1 : p < 41) : shO L p = (9, (txW (p - 20)).length) := by
  unfold shO
  rw [if_neg (by omega), if_neg (by omega), if_neg (by omega), if_neg (by omega), if_neg (by omega), if_pos (by omega)]
theorem st_0 : isSt (g0 L) (bI xs) := ⟨(gt_at (shG_o (p := 0) (by decide))).1, (gt_at (shG_o (p := 0) (by decide))).2, (gt_at (shG_o (p := 1) (by decide))).1, (gt_at (shG_o (p := 1) (by decide))).2, fun _ _ _ => rfl, fun _ _ _ => rfl⟩
theorem ts_0 {p : Nat} (h : 3 ≤ p) (h1 : p ≤ 20) : isTs (g0 L) (bI xs) p := by
  have a : (g0 L).1 p = .inl (8, 0) := by rw [shG_o (by omega), shO_t h h1]
  have b : (g0 L).1 (p + 20) = .inl (9, (txW p).length) := by rw [shG_o (by omega), shO_b (by omega) (by omega), show p + 20 - 20 = p by omega]
  refine ⟨(gt_at a).1, (gt_at b).1, (gt_at b).2, fun i _ _ => ?_⟩
  unfold bI
  rw [if_neg (by omega), if_neg (by omega), if_neg (by omega), if_pos (by omega), show p + 20 - 20 = p by omega]
theorem bI_z {p : Nat} (h : 64 ≤ p) (i : Int) : bI xs p i = 0 := by
  unfold bI
  rw [if_neg (by omega), if_neg (by omega), if_neg (by omega), if_neg (by omega)]
theorem law_run (hL : L ≤ 3072) : ∃ g' I', cl 291 [.ref 2] (mk (g0 L) (bI xs)) = some (.inl (some (.int (iI 1))), mk g' I') ∧ g'.2.2.2.2.2.1 ≤ 9000 ∧ g'.2.2.2.2.2.2 ≤ 250000 := by
  have h2 := gt_at (shG_o (L := L) (p := 2) (by decide))
  obtain ⟨g', I', e, b1, b2⟩ := law_true (g := g0 L) (I := bI xs) (s := 2) h_64 m_150 st_0 (fun p => ts_0) (Nat.le_refl _) (fun p h i => bI_z h i) (fun _ _ _ => rfl) (fun _ _ _ => rfl) (fun _ _ _ => rfl) ((shG_n (p := 169) (by decide)).trans rfl) ((shG_n (p := 170) (by decide)).trans rfl) pc_far (show 2 < 64 by decide) (Or.inr h2.1) (by rw [h2.2]; exact hL) (fun j => iI_rng _)
  have c1 : (g0 L).2.2.2.2.2.1 = 0 := rfl
  have c2 : (g0 L).2.2.2.2.2.2 = 0 := rfl
  exact ⟨g', I', e, by omega, by omega⟩
/- what was there, as the real machine's world has it -/
theorem rnd_o {I : Mm} {p t n : Nat} (h : g.1 p = .inl (t, n)) (ht : t = 7 ∨ t = 8 ∨ t = 9 ∨ t = 10) : rnd g I p = .inl (t, n, .inl (fun i => iI (I p (i : Int)))) := by
  unfold rnd
  rw [h]
  rcases ht with rfl | rfl | rfl | rfl <;> rfl
theorem tx_b : ∀ i : Fin 18, txW (3 + i.val) = (bytS i.val).map Int32.toInt := by decide
theorem shO_k {p : Nat} : (shO L p).1 = 7 ∨ (shO L p).1 = 8 ∨ (shO L p).1 = 9 ∨ (shO L p).1 = 10 := by
  unfold shO
  (repeat' split) <;> simp
theorem x_ok : xOk (rnd (g0 L) (bI xs)) := by
  have key : ∀ e, e < 64 → rnd (g0 L) (bI xs) e = .inl ((shO L e).1, (shO L e).2, .inl (fun i => iI (bI xs e (i : Int)))) := fun e he => rnd_o (t := (shO L e).1) (n := (shO L e).2) (shG_o he) shO_k
  refine ⟨fun e he => ⟨_, _, _, key e he, shO_k⟩, fun e n x he h => ?_, fun e n x he h => ?_⟩
  · rw [key e he] at h
    have h1 : (shO L e).1 = 8 := congrArg Prod.fst (Sum.inl.inj h)
    have h2 : 3 ≤ e ∧ e < 21 := by
      unfold shO at h1
      (repeat' split at h1) <;> first | omega | (exfalso; revert h1; simp)
    exact ⟨e - 3, by omega, by omega⟩
  · rw [key e he] at h
    have h0 := Sum.inl.inj h
    have h1 : (shO L e).1 = 9 := congrArg Prod.fst h0
    have h2 : 23 ≤ e ∧ e < 41 := by
      unfold shO at h1
      (repeat' split at h1) <;> first | omega | (exfalso; revert h1; simp)
    have hn : (shO L e).2 = n := congrArg (fun z => z.2.1) h0
    have hf := congrArg (fun z => z.2.2) h0
    simp only at hf
    have tx := tx_b ⟨e - 23, by omega⟩
    simp only at tx
    rw [show 3 + (e - 23) = e - 20 by omega] at tx
    refine ⟨e - 23, by omega, by omega, ?_, ?_⟩
    · rw [← hn, shO_b h2.1 h2.2, tx, List.length_map]
    · rw [← hf]
      congr 1
      funext j
      unfold bI
      rw [if_neg (by omega), if_neg (by omega), if_neg (by omega), if_pos (by omega), tx, Int.toNat_natCast, List.getD_eq_getElem?_getD, List.getD_eq_getElem?_getD, List.getElem?_map]
      cases hj : (bytS (e - 23))[j]? with
      | none => rfl
      | some y => exact (iI_of y).symm
end BG
