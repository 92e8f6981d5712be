/-! An event put in, as the reference sees it; moved pieces; rows. -/
section MI
variable {I J : Mm} {q m : Nat}
theorem m_in {e a b c r E : Int} (hE : J (m + 1) 0 = E) (hW : Wf (mv J m)) (e0 : 0 ≤ e) (e1 : e ≤ E) (hE40 : E < 40) (hk : kyOk a b c) : Agr (mv (plU J m e (nk3 b c) r a b c) m) (inP (mv J m) e (nk3 b c) r (ky3 a b c)) := by
  have hn := (nk3_ok hk).1
  have hEv : pE (mv J m) = E := hE
  obtain ⟨L, hL⟩ : ∃ L, L = plU J m e (nk3 b c) r a b c := ⟨_, rfl⟩
  have lz : L (m + 1) 0 = E + 1 := by rw [hL]; unfold plU; rw [upd2_at, hE]
  have lo : ∀ i, ¬ i = 0 → i < 42 + 8 * e → L (m + 1) i = J (m + 1) i := fun i h0 hi => by
    rw [hL]; unfold plU
    rw [upd2_i h0, upd2_i (by omega), upd2_i (by omega), upd2_i (by omega), upd2_i (by omega), upd2_i (by omega), upd2_i (by omega), upd2_i (by omega), upd2_i (by omega)]
    exact if_neg (by omega)
  have up : ∀ i, 42 + 8 * e + 8 ≤ i → i ≤ 361 → L (m + 1) i = J (m + 1) (i - 8) := fun i h0 hi => by
    rw [hL]; unfold plU
    rw [upd2_i (by omega), upd2_i (by omega), upd2_i (by omega), upd2_i (by omega), upd2_i (by omega), upd2_i (by omega), upd2_i (by omega), upd2_i (by omega), upd2_i (by omega)]
    exact if_pos ⟨rfl, by omega, hi⟩
  have v0 : L (m + 1) (42 + 8 * e) = nk3 b c := by
    rw [hL]; unfold plU
    rw [upd2_i (by omega), upd2_i (by omega), upd2_i (by omega), upd2_i (by omega), upd2_i (by omega), upd2_i (by omega), upd2_i (by omega), upd2_i (by omega), upd2_at]
  have v1 : L (m + 1) (42 + 8 * e + 1) = r := by
    rw [hL]; unfold plU
    rw [upd2_i (by omega), upd2_i (by omega), upd2_i (by omega), upd2_i (by omega), upd2_i (by omega), upd2_i (by omega), upd2_i (by omega), upd2_at]
  have v2 : L (m + 1) (42 + 8 * e + 2) = a := by
    rw [hL]; unfold plU
    rw [upd2_i (by omega), upd2_i (by omega), upd2_i (by omega), upd2_i (by omega), upd2_i (by omega), upd2_i (by omega), upd2_at]
  have v3 : L (m + 1) (42 + 8 * e + 3) = b := by
    rw [hL]; unfold plU
    rw [upd2_i (by omega), upd2_i (by omega), upd2_i (by omega), upd2_i (by omega), upd2_i (by omega), upd2_at]
  have v4 : L (m + 1) (42 + 8 * e + 4) = c := by
    rw [hL]; unfold plU
    rw [upd2_i (by omega), upd2_i (by omega), upd2_i (by omega), upd2_i (by omega), upd2_at]
  have v5 : L (m + 1) (42 + 8 * e + 5) = 31 := by
    rw [hL]; unfold plU
    rw [upd2_i (by omega), upd2_i (by omega), upd2_i (by omega), upd2_at]
  have v6 : L (m + 1) (42 + 8 * e + 6) = 31 := by
    rw [hL]; unfold plU
    rw [upd2_i (by omega), upd2_i (by omega), upd2_at]
  have v7 : L (m + 1) (42 + 8 * e + 7) = 31 := by
    rw [hL]; unfold plU
    rw [upd2_i (by omega), upd2_at]
  rw [← hL]
  refine ⟨lo 1 (by decide) (by omega), by show L (m + 1) 0 = J (m + 1) 0 + 1; rw [lz, hE], fun i i0 i1 => ?_, fun w w0 w1 => lo (2 + w) (by omega) (by omega), fun x y x1 x2 y1 y2 hxy => ?_⟩
  · have i1 : i < L (m + 1) 0 := i1
    rw [lz] at i1
    show L (m + 1) (42 + 8 * i) = (if i < e then J (m + 1) (42 + 8 * i) else if i = e then nk3 b c else J (m + 1) (42 + 8 * (i - 1))) ∧ L (m + 1) (42 + 8 * i + 1) = (if i < e then J (m + 1) (42 + 8 * i + 1) else if i = e then r else J (m + 1) (42 + 8 * (i - 1) + 1)) ∧ ∀ k, 0 ≤ k → k < L (m + 1) (42 + 8 * i) → L (m + 1) (42 + 8 * i + 2 + k) = (if i < e then J (m + 1) (42 + 8 * i + 2 + k) else if i = e then ky3 a b c k else J (m + 1) (42 + 8 * (i - 1) + 2 + k)) ∧ L (m + 1) (42 + 8 * i + 5 + k) = (if i < e then J (m + 1) (42 + 8 * i + 5 + k) else if i = e then 31 else J (m + 1) (42 + 8 * (i - 1) + 5 + k))
    by_cases he : i = e
    · have hi : ¬ i < e := by omega
      simp only [if_neg hi, if_pos he]
      rw [he, v0, v1]
      refine ⟨rfl, rfl, fun k a0 a1 => ?_⟩
      unfold ky3
      rcases (show k = 0 ∨ k = 1 ∨ k = 2 by omega) with rfl | rfl | rfl
      · rw [if_pos rfl]
        exact ⟨by rw [Int.add_zero]; exact v2, by rw [Int.add_zero]; exact v5⟩
      · rw [if_neg (by decide), if_pos rfl]
        exact ⟨by rw [show 42 + 8 * e + 2 + 1 = 42 + 8 * e + 3 by omega]; exact v3, by rw [show 42 + 8 * e + 5 + 1 = 42 + 8 * e + 6 by omega]; exact v6⟩
      · rw [if_neg (by decide), if_neg (by decide)]
        exact ⟨by rw [show 42 + 8 * e + 2 + 2 = 42 + 8 * e + 4 by omega]; exact v4, by rw [show 42 + 8 * e + 5 + 2 = 42 + 8 * e + 7 by omega]; exact v7⟩
    · by_cases hi : i < e
      · have z : J (m + 1) (42 + 8 * i) ≤ 3 := (hW.2.2.1 i i0 (by omega)).1.2
        simp only [if_pos hi]
        rw [lo _ (by omega) (by omega), lo _ (by omega) (by omega)]
        refine ⟨rfl, rfl, fun k a0 a1 => ?_⟩
        rw [lo _ (by omega) (by omega), lo _ (by omega) (by omega)]
        exact ⟨rfl, rfl⟩
      · have z : J (m + 1) (42 + 8 * (i - 1)) ≤ 3 := (hW.2.2.1 (i - 1) (by omega) (by omega)).1.2
        simp only [if_neg hi, if_neg he]
        rw [up _ (by omega) (by omega), up _ (by omega) (by omega), show 42 + 8 * i - 8 = 42 + 8 * (i - 1) by omega, show 42 + 8 * i + 1 - 8 = 42 + 8 * (i - 1) + 1 by omega]
        refine ⟨rfl, rfl, fun k a0 a1 => ?_⟩
        rw [up _ (by omega) (by omega), up _ (by omega) (by omega), show 42 + 8 * i + 2 + k - 8 = 42 + 8 * (i - 1) + 2 + k by omega, show 42 + 8 * i + 5 + k - 8 = 42 + 8 * (i - 1) + 5 + k by omega]
        exact ⟨rfl, rfl⟩
  · have hp := prS_b (a := x) (b := y) (by omega) (by omega) hxy
    exact ⟨lo (prS x y) (by omega) (by omega), lo (prS x y + 1) (by omega) (by omega), lo (prS x y + 2) (by omega) (by omega)⟩
theorem c_sh {d : Int} (hB : pB J q) : Agr (pv (shM J q d (J q 1 * 3 + 0)) q) (shP (pv J q) d) := by
  have x : ∀ p, ¬ p = q + 6 → shM J q d (J q 1 * 3 + 0) p = J p := fun p hp => by funext i; exact if_neg (fun z => hp z.1.1)
  have x0 := x q (by omega)
  have x2 := x (q + 2) (by omega)
  have x4 := x (q + 4) (by omega)
  have x8 := x (q + 8) (by omega)
  have x10 := x (q + 10) (by omega)
  have x12 := x (q + 12) (by omega)
  have x14 := x (q + 14) (by omega)
  have x16 := x (q + 16) (by omega)
  have hs := hB.2.2.1
  unfold Agr pv
  rw [x0, x2, x4, x8, x10, x12, x14, x16]
  refine ⟨rfl, rfl, fun i i0 i1 => ⟨rfl, rfl, fun j j0 j1 => ⟨?_, rfl⟩⟩, fun _ _ _ => rfl, fun _ _ _ _ _ _ _ => ⟨rfl, rfl, rfl⟩⟩
  have i1 : i < J q 1 := i1
  have j1 : j < J (q + 2) i := j1
  have z := hs i
  show shM J q d (J q 1 * 3 + 0) (q + 6) (i * 3 + j) = J (q + 6) (i * 3 + j) + d
  have h1 : (i * 3 + j) % 3 = j := by omega
  have h2 : (i * 3 + j) / 3 = i := by omega
  unfold shM
  rw [h1, h2]
  exact if_pos ⟨⟨rfl, by omega, by omega⟩, j1⟩
/-- rows with the same numbers tell the same piece -/
theorem rv_A {F G : Int → Int} (h : ∀ i, 0 ≤ i → i < 362 → F i = G i) (hW : Wf (rv G)) : Agr (rv F) (rv G) := by
  have hE : pE (rv G) = G 0 := rfl
  have hb := hW.2.1
  rw [hE] at hb
  have f0 := h 0 (by decide) (by decide)
  refine ⟨h 1 (by decide) (by decide), f0, fun i i0 i1 => ?_, fun w w0 w1 => h (2 + w) (by omega) (by omega), fun x y x1 x2 y1 y2 hxy => ?_⟩
  · have i1 : i < F 0 := i1
    rw [f0] at i1
    have z : G (42 + 8 * i) ≤ 3 := (hW.2.2.1 i i0 i1).1.2
    show F (42 + 8 * i) = G (42 + 8 * i) ∧ F (42 + 8 * i + 1) = G (42 + 8 * i + 1) ∧ ∀ k, 0 ≤ k → k < F (42 + 8 * i) → F (42 + 8 * i + 2 + k) = G (42 + 8 * i + 2 + k) ∧ F (42 + 8 * i + 5 + k) = G (42 + 8 * i + 5 + k)
    rw [h (42 + 8 * i) (by omega) (by omega)]
    exact ⟨rfl, h _ (by omega) (by omega), fun k k0 k1 => ⟨h _ (by omega) (by omega), h _ (by omega) (by omega)⟩⟩
  · have hp := prS_b (a := x) (b := y) (by omega) (by omega) hxy
    exact ⟨h (prS x y) (by omega) (by omega), h (prS x y + 1) (by omega) (by omega), h (prS x y + 2) (by omega) (by omega)⟩
end MI
