/-! Fingers fixed, as both views see it; copies. -/
noncomputable def fxP (P : PT) : PT := (pR P, pE P, pSz P, pRe P, pKy P, fun e k => bitF (fgP P e (fsS P e) k), pW P, pLo P, pHi P, pLi P)
section FX2
variable {I J : Mm} {q m : Nat} {P P' : PT}
theorem fxP_A (h : Agr P P') (hW : Wf P) : Agr (fxP P) (fxP P') := by
  have h' := h
  obtain ⟨h1, h2, h3, h4, h5⟩ := h
  refine ⟨h1, h2, fun i i0 i1 => ?_, h4, h5⟩
  obtain ⟨a, b, c⟩ := h3 i i0 i1
  refine ⟨a, b, fun k k0 k1 => ⟨(c k k0 k1).1, ?_⟩⟩
  show bitF (fgP P i (fsS P i) k) = bitF (fgP P' i (fsS P' i) k)
  rw [fg2_A h' hW i0 i1]
theorem fg_15 {e k : Int} (hW : Wf P) (e0 : 0 ≤ e) (e1 : e < pE P) : 1 ≤ fgP P e (fsS P e) k ∧ fgP P e (fsS P e) k ≤ 5 := by
  have n0 := (Wf_bd hW).2.2.1 e e0 e1
  have ib := itS_b (P := P) (e := e) (c := fsS P e) n0.1
  exact fgS_b ib.1 ib.2
theorem fxP_Wf (hW : Wf P) : Wf (fxP P) := by
  have hW' := hW
  obtain ⟨h1, h2, h3, h4, h5⟩ := hW
  refine ⟨h1, h2, fun i i0 i1 => ?_, h4, h5⟩
  have i1 : i < pE P := i1
  obtain ⟨a, b, c, d⟩ := h3 i i0 i1
  refine ⟨a, b, fun k k0 k1 => ⟨(c k k0 k1).1, ?_⟩, d⟩
  show 0 ≤ bitF (fgP P i (fsS P i) k) ∧ bitF (fgP P i (fsS P i) k) ≤ 31
  have := bit_b (fg_15 (k := k) hW' i0 i1)
  omega
theorem c_fx (hP : pv J q = P) (hW : Wf P) : Agr (pv (fxI J (q + 8) P (pE P * 3 + 0)) q) (fxP P) := by
  have x : ∀ p, ¬ p = q + 8 → fxI J (q + 8) P (pE P * 3 + 0) p = J p := fun p hp => by funext i; exact if_neg (fun z => hp z.1.1)
  have x0 := x q (by omega)
  have x2 := x (q + 2) (by omega)
  have x4 := x (q + 4) (by omega)
  have x6 := x (q + 6) (by omega)
  have x10 := x (q + 10) (by omega)
  have x12 := x (q + 12) (by omega)
  have x14 := x (q + 14) (by omega)
  have x16 := x (q + 16) (by omega)
  have s8 : ∀ i j, 0 ≤ i → i < pE P → 0 ≤ j → j < pSz P i → fxI J (q + 8) P (pE P * 3 + 0) (q + 8) (i * 3 + j) = bitF (fgP P i (fsS P i) j) := fun i j i0 i1 j0 j1 => by
    have z := (hW.2.2.1 i i0 i1).1
    have h1 : (i * 3 + j) % 3 = j := by omega
    have h2 : (i * 3 + j) / 3 = i := by omega
    unfold fxI
    rw [h1, h2]
    exact if_pos ⟨⟨rfl, by omega, by omega⟩, j1⟩
  have e0 : J q 0 = pR P := by rw [← hP]; rfl
  have e1 : J q 1 = pE P := by rw [← hP]; rfl
  have e2 : ∀ i, J (q + 2) i = pSz P i := fun i => by rw [← hP]; rfl
  unfold Agr pv
  rw [x0, x2, x4, x6, x10, x12, x14, x16]
  refine ⟨e0, e1, fun i i0 i1 => ⟨e2 i, by rw [← hP]; rfl, fun j j0 j1 => ⟨by rw [← hP]; rfl, ?_⟩⟩, fun w _ _ => by rw [← hP]; rfl, fun a b _ _ _ _ _ => ⟨by rw [← hP]; rfl, by rw [← hP]; rfl, by rw [← hP]; rfl⟩⟩
  have i1 : i < J q 1 := i1
  have j1 : j < J (q + 2) i := j1
  exact s8 i j i0 (by omega) j0 (by rw [← e2]; exact j1)
theorem m_fx (hP : mv J m = P) (hW : Wf P) : Agr (mv (fxK J m P (8 * pE P + 5 + 0)) m) (fxP P) := by
  have hE := hW.2.1
  have k0 : ∀ i, (i < 42 ∨ (i - 42) % 8 < 5) → fxK J m P (8 * pE P + 5 + 0) (m + 1) i = J (m + 1) i := fun i hi => if_neg (fun z => by omega)
  have k5 : ∀ i j, 0 ≤ i → i < pE P → 0 ≤ j → j < pSz P i → fxK J m P (8 * pE P + 5 + 0) (m + 1) (42 + 8 * i + 5 + j) = bitF (fgP P i (fsS P i) j) := fun i j i0 i1 j0 j1 => by
    have z := (hW.2.2.1 i i0 i1).1
    have h1 : (42 + 8 * i + 5 + j - 42) % 8 = 5 + j := by omega
    have h2 : (42 + 8 * i + 5 + j - 42) / 8 = i := by omega
    have h3 : 5 + j - 5 = j := by omega
    unfold fxK
    rw [h1, h2, h3]
    exact if_pos ⟨⟨rfl, by omega, by omega⟩, by omega, j1⟩
  have e0 : J (m + 1) 0 = pE P := by rw [← hP]; rfl
  have e2 : ∀ i, J (m + 1) (42 + 8 * i) = pSz P i := fun i => by rw [← hP]; rfl
  refine ⟨by show fxK J m P (8 * pE P + 5 + 0) (m + 1) 1 = pR P; rw [k0 1 (by omega), ← hP]; rfl, by show fxK J m P (8 * pE P + 5 + 0) (m + 1) 0 = pE P; rw [k0 0 (by omega)]; exact e0, fun i i0 i1 => ?_, fun w w0 w1 => ?_, fun x y x1 x2 y1 y2 hxy => ?_⟩
  · have i1 : i < fxK J m P (8 * pE P + 5 + 0) (m + 1) 0 := i1
    rw [k0 0 (by omega), e0] at i1
    have z := (hW.2.2.1 i i0 i1).1
    show fxK J m P (8 * pE P + 5 + 0) (m + 1) (42 + 8 * i) = pSz P i ∧ fxK J m P (8 * pE P + 5 + 0) (m + 1) (42 + 8 * i + 1) = pRe P i ∧ ∀ k, 0 ≤ k → k < fxK J m P (8 * pE P + 5 + 0) (m + 1) (42 + 8 * i) → fxK J m P (8 * pE P + 5 + 0) (m + 1) (42 + 8 * i + 2 + k) = pKy P i k ∧ fxK J m P (8 * pE P + 5 + 0) (m + 1) (42 + 8 * i + 5 + k) = bitF (fgP P i (fsS P i) k)
    rw [k0 (42 + 8 * i) (by omega), k0 (42 + 8 * i + 1) (by omega), e2]
    refine ⟨rfl, by rw [← hP]; rfl, fun k a0 a1 => ⟨?_, k5 i k i0 i1 a0 a1⟩⟩
    rw [k0 _ (by omega), ← hP]; rfl
  · show fxK J m P (8 * pE P + 5 + 0) (m + 1) (2 + w) = pW P w
    rw [k0 _ (by omega), ← hP]; rfl
  · have hp := prS_b (a := x) (b := y) (by omega) (by omega) hxy
    show fxK J m P (8 * pE P + 5 + 0) (m + 1) (prS x y) = pLo P x y ∧ fxK J m P (8 * pE P + 5 + 0) (m + 1) (prS x y + 1) = pHi P x y ∧ fxK J m P (8 * pE P + 5 + 0) (m + 1) (prS x y + 2) = pLi P x y
    rw [k0 _ (by omega), k0 _ (by omega), k0 _ (by omega), ← hP]
    exact ⟨rfl, rfl, rfl⟩
end FX2
