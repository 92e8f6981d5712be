/-! Pieces that agree cost the same. -/
section AG
variable {P P' : PT}
theorem Agr.symm (h : Agr P P') : Agr P' P := by
  obtain ⟨h1, h2, h3, h4, h5⟩ := h
  refine ⟨h1.symm, h2.symm, fun e a b => ?_, fun w a b => (h4 w a b).symm, fun a b a1 a2 b1 b2 hn => ?_⟩
  · rw [← h2] at b
    obtain ⟨x1, x2, x3⟩ := h3 e a b
    exact ⟨x1.symm, x2.symm, fun k k0 k1 => by rw [← x1] at k1; exact ⟨(x3 k k0 k1).1.symm, (x3 k k0 k1).2.symm⟩⟩
  · obtain ⟨x1, x2, x3⟩ := h5 a b a1 a2 b1 b2 hn
    exact ⟨x1.symm, x2.symm, x3.symm⟩
theorem Agr.trans {P'' : PT} (h : Agr P P') (h' : Agr P' P'') : Agr P P'' := by
  obtain ⟨h1, h2, h3, h4, h5⟩ := h
  obtain ⟨g1, g2, g3, g4, g5⟩ := h'
  refine ⟨h1.trans g1, h2.trans g2, fun e a b => ?_, fun w a b => (h4 w a b).trans (g4 w a b), fun a b a1 a2 b1 b2 hn => ?_⟩
  · obtain ⟨x1, x2, x3⟩ := h3 e a b
    rw [h2] at b
    obtain ⟨y1, y2, y3⟩ := g3 e a b
    exact ⟨x1.trans y1, x2.trans y2, fun k k0 k1 => by
      obtain ⟨u1, u2⟩ := x3 k k0 k1
      rw [x1] at k1
      obtain ⟨v1, v2⟩ := y3 k k0 k1
      exact ⟨u1.trans v1, u2.trans v2⟩⟩
  · obtain ⟨x1, x2, x3⟩ := h5 a b a1 a2 b1 b2 hn
    obtain ⟨y1, y2, y3⟩ := g5 a b a1 a2 b1 b2 hn
    exact ⟨x1.trans y1, x2.trans y2, x3.trans y3⟩
theorem Wf.agr (hW : Wf P) (h : Agr P P') : Wf P' := by
  obtain ⟨h1, h2, h3, h4, h5⟩ := h
  obtain ⟨w0, w1, w2, w3, w4⟩ := hW
  refine ⟨by rw [← h1]; exact w0, by rw [← h2]; exact w1, fun e a b => ?_, fun w a b => by rw [← h4 w a b]; exact w3 w a b, fun a b a1 a2 b1 b2 hn => ?_⟩
  · rw [← h2] at b
    obtain ⟨x1, x2, x3⟩ := h3 e a b
    obtain ⟨z1, z2, z3, z4⟩ := w2 e a b
    rw [← x1, ← x2]
    refine ⟨z1, z2, fun k k0 k1 => ?_, fun k k0 k1 => ?_⟩
    · obtain ⟨u1, u2⟩ := x3 k k0 k1
      rw [← u1, ← u2]; exact z3 k k0 k1
    · rw [← (x3 k k0 (by omega)).1, ← (x3 (k + 1) (by omega) k1).1]; exact z4 k k0 k1
  · obtain ⟨x1, x2, x3⟩ := h5 a b a1 a2 b1 b2 hn
    rw [← x1, ← x2, ← x3]; exact w4 a b a1 a2 b1 b2 hn
theorem stretch_A (h : Agr P P') {d a b : Int} (ha : 1 ≤ a ∧ a ≤ 5) (hb : 1 ≤ b ∧ b ≤ 5) (hn : ¬ a = b) : stretchS P d a b = stretchS P' d a b := by
  obtain ⟨x1, x2, x3⟩ := h.2.2.2.2 a b ha.1 ha.2 hb.1 hb.2 hn
  unfold stretchS
  rw [x1, x2, x3, h.2.2.2.1 0 (by decide) (by decide)]
theorem kind_A (h : Agr P P') {f k f' k' : Int} : kindS P f k f' k' = kindS P' f k f' k' := by
  unfold kindS
  rw [h.1, h.2.2.2.1 9 (by decide) (by decide)]
theorem link_A (h : Agr P P') {f k f' k' : Int} (hf : 1 ≤ f ∧ f ≤ 5) (hf' : 1 ≤ f' ∧ f' ≤ 5) : linkS P f k f' k' = linkS P' f k f' k' := by
  unfold linkS
  rw [kind_A h, h.2.2.2.1 2 (by decide) (by decide), h.2.2.2.1 3 (by decide) (by decide), h.2.2.2.1 4 (by decide) (by decide), h.2.2.2.1 1 (by decide) (by decide)]
  by_cases hn : f = f'
  · have hk2 : ¬ kindS P' f k f' k' = 2 := by
      unfold kindS
      by_cases c0 : k = k'
      · rw [if_pos c0]; decide
      · rw [if_neg c0, if_pos hn]; decide
    rw [if_neg (c := kindS P' f k f' k' = 2) hk2, if_neg (c := kindS P' f k f' k' = 2) hk2]
  · rw [stretch_A h hf hf' hn]
theorem nc_A (h : Agr P P') {k f : Int} : ncS P k f = ncS P' k f := by
  unfold ncS
  rw [h.2.2.2.1 6 (by decide) (by decide), h.2.2.2.1 5 (by decide) (by decide)]
theorem ecost_A (h : Agr P P') {e b : Int} {F : Int → Int} (e0 : 0 ≤ e) (e1 : e < pE P) (hs : 1 ≤ pSz P e) (hF : ∀ k, 1 ≤ F k ∧ F k ≤ 5) : ecostS P e b F = ecostS P' e b F := by
  obtain ⟨x1, _, x3⟩ := h.2.2.1 e e0 e1
  obtain ⟨k0, s0⟩ := x3 0 (by decide) (by omega)
  unfold ecostS
  rw [← x1, ← s0, ← k0, ← h.1, nc_A h]
  by_cases c1 : pSz P e ≤ 1
  · rw [if_pos c1, if_pos c1]
  rw [if_neg c1, if_neg c1]
  obtain ⟨k1, s1⟩ := x3 1 (by decide) (by omega)
  rw [← s1, ← k1, nc_A h (k := pKy P e 1 + b)]
  by_cases c2 : (if pR P = 0 then F 1 < F 0 else F 0 < F 1)
  · rw [stretch_A h (a := F 0) (b := F 1) (hF 0) (hF 1) (by split at c2 <;> omega)]
    by_cases c3 : pSz P e ≤ 2
    · rw [if_pos (c := pSz P e ≤ 2) c3, if_pos (c := pSz P e ≤ 2) c3]
    rw [if_neg (c := pSz P e ≤ 2) c3, if_neg (c := pSz P e ≤ 2) c3]
    obtain ⟨k2, s2⟩ := x3 2 (by decide) (by omega)
    rw [← s2, ← k2, nc_A h (k := pKy P e 2 + b)]
    by_cases c4 : (if pR P = 0 then F 2 < F 1 else F 1 < F 2)
    · rw [stretch_A h (a := F 1) (b := F 2) (hF 1) (hF 2) (by split at c4 <;> omega)]
    · rw [if_pos (c := ¬ (if pR P = 0 then F 2 < F 1 else F 1 < F 2)) c4, if_pos (c := ¬ (if pR P = 0 then F 2 < F 1 else F 1 < F 2)) c4]
  · rw [if_pos (c := ¬ (if pR P = 0 then F 1 < F 0 else F 0 < F 1)) c2, if_pos (c := ¬ (if pR P = 0 then F 1 < F 0 else F 0 < F 1)) c2]
theorem end_A (h : Agr P P') {e n : Int} (e0 : 0 ≤ e) (e1 : e < pE P) : endS P e n = endS P' e n := by
  unfold endS
  rw [h.1, (h.2.2.1 e e0 e1).1]
theorem pass_A (h : Agr P P') {e r : Int} {F F' : Int → Int} (e0 : 0 ≤ e) (e1 : e + 1 < pE P) (hs : 1 ≤ pSz P e) (hs' : 1 ≤ pSz P (e + 1)) (hF : ∀ k, 1 ≤ F k ∧ F k ≤ 5) (hF' : ∀ k, 1 ≤ F' k ∧ F' k ≤ 5) : passS P e r F F' = passS P' e r F F' := by
  have a0 := end_bM (P := P) (e := e) (n := 0) hs
  have a1 := end_bM (P := P) (e := e) (n := 1) hs
  have b0 := end_bM (P := P) (e := e + 1) (n := 0) hs'
  have b1 := end_bM (P := P) (e := e + 1) (n := 1) hs'
  obtain ⟨x1, _, x3⟩ := h.2.2.1 e e0 (by omega)
  obtain ⟨y1, _, y3⟩ := h.2.2.1 (e + 1) (by omega) e1
  unfold passS
  rw [← end_A h e0 (by omega), ← end_A h (n := 1) e0 (by omega), ← end_A h (e := e + 1) (by omega) e1, ← end_A h (e := e + 1) (n := 1) (by omega) e1,
    ← (x3 _ a0.1 a0.2).1, ← (x3 _ a1.1 a1.2).1, ← (y3 _ b0.1 b0.2).1, ← (y3 _ b1.1 b1.2).1, link_A h (hF _) (hF' _), link_A h (f := F (endS P e 1)) (hF _) (hF' _), h.2.2.2.1 8 (by decide) (by decide), h.2.2.2.1 7 (by decide) (by decide), x1, y1]
theorem cross_A (h : Agr P P') {e : Int} {F F' : Int → Int} (e0 : 0 ≤ e) (e1 : e + 1 < pE P) (hs : 1 ≤ pSz P e) (hs' : 1 ≤ pSz P (e + 1)) : crossS P e F F' = crossS P' e F F' := by
  have a0 := end_bM (P := P) (e := e) (n := 0) hs
  have a1 := end_bM (P := P) (e := e) (n := 1) hs
  have b0 := end_bM (P := P) (e := e + 1) (n := 0) hs'
  have b1 := end_bM (P := P) (e := e + 1) (n := 1) hs'
  obtain ⟨x1, x2, x3⟩ := h.2.2.1 e e0 (by omega)
  obtain ⟨y1, _, y3⟩ := h.2.2.1 (e + 1) (by omega) e1
  unfold crossS
  rw [← end_A h e0 (by omega), ← end_A h (n := 1) e0 (by omega), ← end_A h (e := e + 1) (by omega) e1, ← end_A h (e := e + 1) (n := 1) (by omega) e1,
    ← (x3 _ a0.1 a0.2).1, ← (x3 _ a1.1 a1.2).1, ← (y3 _ b0.1 b0.2).1, ← (y3 _ b1.1 b1.2).1, kind_A h, kind_A h (f := F (endS P e 1)), h.2.2.2.1 8 (by decide) (by decide), x2, x1, y1]
theorem flt_congr {ok ok' : Nat → Prop} {n : Nat} (h : ∀ i, i < n → (ok i ↔ ok' i)) : flt ok n = flt ok' n := by
  induction n with
  | zero => rfl
  | succ n ih =>
    have ih := ih (fun i hi => h i (by omega))
    by_cases h1 : ok n
    · rw [flt_y h1, flt_y ((h n (by omega)).mp h1), ih]
    · rw [flt_n h1, flt_n (fun z => h1 ((h n (by omega)).mpr z)), ih]
theorem shp_A (h : Agr P P') (hW : Wf P) {e : Int} (e0 : 0 ≤ e) (e1 : e < pE P) : shp P e = shp P' e := by
  have x1 := (h.2.2.1 e e0 e1).1
  have z := (hW.2.2.1 e e0 e1).1
  unfold shp
  rw [← x1]
  refine flt_congr (fun i hi => ?_)
  unfold okm
  rw [← x1]
  have hb : 0 ≤ (i : Int) * stpN (pSz P e) ∧ (i : Int) * stpN (pSz P e) < 125 := by
    have : pSz P e = 1 ∨ pSz P e = 2 ∨ pSz P e = 3 := by omega
    rcases this with e9 | e9 | e9 <;> rw [e9] at hi ⊢
    · rw [show mN 1 = 5 from rfl] at hi; rw [show stpN 1 = 25 from rfl]; omega
    · rw [show mN 2 = 25 from rfl] at hi; rw [show stpN 2 = 5 from rfl]; omega
    · rw [show mN 3 = 125 from rfl] at hi; rw [show stpN 3 = 1 from rfl]; omega
  rw [ecost_A h e0 e1 z.1 (fun k => fgS_b hb.1 hb.2)]
theorem cnt_A (h : Agr P P') (hW : Wf P) {e : Int} (e0 : 0 ≤ e) (e1 : e < pE P) : cntS P e = cntS P' e := by
  unfold cntS; rw [shp_A h hW e0 e1]
theorem it_A (h : Agr P P') (hW : Wf P) {e c : Int} (e0 : 0 ≤ e) (e1 : e < pE P) : itS P e c = itS P' e c := by
  unfold itS; rw [shp_A h hW e0 e1, (h.2.2.1 e e0 e1).1]
theorem fg_A (h : Agr P P') (hW : Wf P) {e c : Int} (e0 : 0 ≤ e) (e1 : e < pE P) : fgP P e c = fgP P' e c := by
  unfold fgP; rw [it_A h hW e0 e1]
theorem own_A (h : Agr P P') (hW : Wf P) {b e c : Int} (e0 : 0 ≤ e) (e1 : e < pE P) : ownS P b e c = ownS P' b e c := by
  have z := (hW.2.2.1 e e0 e1).1
  unfold ownS
  rw [← fg_A h hW e0 e1]
  exact ecost_A h e0 e1 z.1 (fun k => fgP_b z)
theorem stepW_A (h : Agr P P') (hW : Wf P) {r e c n : Int} (e0 : 0 ≤ e) (e1 : e + 1 < pE P) : stepW P r e c n = stepW P' r e c n := by
  have z := (hW.2.2.1 e e0 (by omega)).1
  have z' := (hW.2.2.1 (e + 1) (by omega) e1).1
  unfold stepW
  rw [← fg_A h hW e0 (by omega), ← fg_A h hW (e := e + 1) (by omega) e1]
  exact pass_A h e0 e1 z.1 z'.1 (fun k => fgP_b z) (fun k => fgP_b z')
theorem step_A (h : Agr P P') (hW : Wf P) {e c n : Int} (e0 : 0 ≤ e) (e1 : e + 1 < pE P) : stepS P e c n = stepS P' e c n := by
  unfold stepS
  rw [← (h.2.2.1 e e0 (by omega)).2.1]
  exact stepW_A h hW e0 e1
theorem ahN_A (h : Agr P P') (hW : Wf P) {b : Int} : ∀ (e : Nat) (c : Int), (e : Int) < pE P → ahN P b e c = ahN P' b e c := by
  intro e
  induction e with
  | zero => intro c he; exact own_A h hW (by omega) (by omega)
  | succ e ih =>
    intro c he
    show sumS (mnI (fun c' => sumS (ahN P b e c') (stepS P e c' c)) (cntS P e)) (ownS P b (e + 1 : Nat) c) = sumS (mnI (fun c' => sumS (ahN P' b e c') (stepS P' e c' c)) (cntS P' e)) (ownS P' b (e + 1 : Nat) c)
    rw [own_A h hW (by omega) (by omega), ← cnt_A h hW (by omega) (by omega)]
    congr 1
    exact mnI_congr (fun i _ _ => by rw [ih i (by omega), step_A h hW (by omega) (by omega)]) ((Wf_bd hW).2.2.1 e (by omega) (by omega)).2.1
theorem ah_A (h : Agr P P') (hW : Wf P) {b e c : Int} (e0 : 0 ≤ e) (e1 : e < pE P) : ahS P b e c = ahS P' b e c := ahN_A h hW _ _ (by omega)
theorem bhN_A (h : Agr P P') (hW : Wf P) : ∀ (d : Nat) (c : Int), (d : Int) < pE P → bhN P d c = bhN P' d c := by
  intro d
  induction d with
  | zero => intro c _; exact (show bhN P 0 c = 0 from rfl).trans (show bhN P' 0 c = 0 from rfl).symm
  | succ d ih =>
    intro c hd
    show mnI (fun k => sumS (stepS P (pE P - 2 - d) c k) (sumS (ownS P 0 (pE P - 1 - d) k) (bhN P d k))) (cntS P (pE P - 1 - d)) = mnI (fun k => sumS (stepS P' (pE P' - 2 - d) c k) (sumS (ownS P' 0 (pE P' - 1 - d) k) (bhN P' d k))) (cntS P' (pE P' - 1 - d))
    rw [← h.2.1, ← cnt_A h hW (by omega) (by omega)]
    exact mnI_congr (fun i _ _ => by rw [ih i (by omega), step_A h hW (by omega) (by omega), own_A h hW (by omega) (by omega)]) ((Wf_bd hW).2.2.1 _ (by omega) (by omega)).2.1
theorem bh_A (h : Agr P P') (hW : Wf P) {e c : Int} (e0 : 0 ≤ e) (e1 : e < pE P) : bhS P e c = bhS P' e c := by
  unfold bhS
  rw [← h.2.1]
  exact bhN_A h hW _ _ (by omega)
theorem fr_A (h : Agr P P') (hW : Wf P) {e c : Int} (e0 : 0 ≤ e) (e1 : e < pE P) : frS P e c = frS P' e c := by
  unfold frS; rw [own_A h hW e0 e1, bh_A h hW e0 e1]
theorem ls_A (h : Agr P P') (hW : Wf P) {b : Int} : lsS P b = lsS P' b := by
  have w1 := hW.2.1
  unfold lsS
  rw [← h.2.1]
  by_cases hz : pE P = 0
  · rw [if_pos hz, if_pos hz]
  · rw [if_neg hz, if_neg hz, ← cnt_A h hW (by omega) (by omega)]
    exact mnI_congr (fun i _ _ => ah_A h hW (by omega) (by omega)) ((Wf_bd hW).2.2.1 _ (by omega) (by omega)).2.1
theorem fnd_congr {p q : Int → Prop} {n : Int} (h : ∀ i, 0 ≤ i → i < n → (p i ↔ q i)) (hn : 0 ≤ n) : fnd p n = fnd q n := by
  rcases fnd_spec (p := p) hn with ⟨h1, h2⟩ | ⟨h1, h2, h3, h4⟩
  · rcases fnd_spec (p := q) hn with ⟨g1, _⟩ | ⟨g1, g2, g3, _⟩
    · rw [h1, g1]
    · exact absurd ((h _ g1 g2).mpr g3) (h2 _ g1 g2)
  · exact (fnd_eq h1 h2 ((h _ h1 h2).mp h3) (fun j j0 j1 z => h4 j j0 j1 ((h j j0 (by omega)).mpr z))).symm
theorem fsC_A (h : Agr P P') (hW : Wf P) {e prev left : Int} (e0 : 0 ≤ e) (e1 : e < pE P) : fsC P e prev left = fsC P' e prev left := by
  unfold fsC
  rw [← cnt_A h hW e0 e1]
  congr 1
  refine fnd_congr (fun c _ _ => ?_) ((Wf_bd hW).2.2.1 e e0 e1).2.1
  by_cases h0 : e = 0
  · rw [if_pos h0, if_pos h0, fr_A h hW (by decide) (by omega)]
  · rw [if_neg h0, if_neg h0, step_A h hW (by omega) (by omega), fr_A h hW e0 e1]
theorem fsN_A (h : Agr P P') (hW : Wf P) : ∀ (e : Nat), (e : Int) < pE P → fsN P e = fsN P' e := by
  intro e
  induction e with
  | zero =>
    intro he
    show (fsC P 0 0 (lsS P 0), bhS P 0 (fsC P 0 0 (lsS P 0))) = (fsC P' 0 0 (lsS P' 0), bhS P' 0 (fsC P' 0 0 (lsS P' 0)))
    rw [← ls_A h hW, ← fsC_A (e := 0) h hW (by decide) (by omega), bh_A (e := 0) h hW (by decide) (by omega)]
  | succ e ih =>
    intro he
    have ih := ih (by omega)
    show (fsC P (e + 1 : Nat) (fsN P e).1 (fsN P e).2, bhS P (e + 1 : Nat) (fsC P (e + 1 : Nat) (fsN P e).1 (fsN P e).2)) = (fsC P' (e + 1 : Nat) (fsN P' e).1 (fsN P' e).2, bhS P' (e + 1 : Nat) (fsC P' (e + 1 : Nat) (fsN P' e).1 (fsN P' e).2))
    rw [← ih, ← fsC_A h hW (by omega) he, bh_A h hW (by omega) he]
theorem fs_A (h : Agr P P') (hW : Wf P) {e : Int} (e0 : 0 ≤ e) (e1 : e < pE P) : fsS P e = fsS P' e := by
  unfold fsS; rw [fsN_A h hW _ (by omega)]
end AG
