/-! Changes of a piece, as both views see them. -/
def leP (P : PT) (e k v : Int) : PT := (pR P, pE P, pSz P, pRe P, pKy P, fun i j => if i = e ∧ j = k then v else pSe P i j, pW P, pLo P, pHi P, pLi P)
def dpP (P : PT) (e : Int) : PT := (pR P, pE P - 1, fun i => if i < e then pSz P i else pSz P (i + 1), fun i => if i < e then pRe P i else pRe P (i + 1), fun i j => if i < e then pKy P i j else pKy P (i + 1) j, fun i j => if i < e then pSe P i j else pSe P (i + 1) j, pW P, pLo P, pHi P, pLi P)
section CG
variable {P P' : PT}
theorem Agr.rfl : Agr P P := ⟨Eq.refl _, Eq.refl _, fun _ _ _ => ⟨Eq.refl _, Eq.refl _, fun _ _ _ => ⟨Eq.refl _, Eq.refl _⟩⟩, fun _ _ _ => Eq.refl _, fun _ _ _ _ _ _ _ => ⟨Eq.refl _, Eq.refl _, Eq.refl _⟩⟩
theorem le_A (h : Agr P P') {e k v : Int} : Agr (leP P e k v) (leP P' e k v) := by
  obtain ⟨h1, h2, h3, h4, h5⟩ := h
  refine ⟨h1, h2, fun i i0 i1 => ?_, h4, h5⟩
  obtain ⟨a, b, c⟩ := h3 i i0 i1
  refine ⟨a, b, fun j j0 j1 => ?_⟩
  obtain ⟨c1, c2⟩ := c j j0 j1
  refine ⟨c1, ?_⟩
  show (if i = e ∧ j = k then v else pSe P i j) = if i = e ∧ j = k then v else pSe P' i j
  rw [c2]
theorem le_Wf (hW : Wf P) {e k v : Int} (hv : 0 ≤ v ∧ v ≤ 31) : Wf (leP P e k v) := by
  obtain ⟨h1, h2, h3, h4, h5⟩ := hW
  refine ⟨h1, h2, fun i i0 i1 => ?_, h4, h5⟩
  obtain ⟨a, b, c, d⟩ := h3 i i0 i1
  refine ⟨a, b, fun j j0 j1 => ⟨(c j j0 j1).1, ?_⟩, d⟩
  show 0 ≤ (if i = e ∧ j = k then v else pSe P i j) ∧ (if i = e ∧ j = k then v else pSe P i j) ≤ 31
  by_cases hi : i = e ∧ j = k
  · rw [if_pos hi]; exact hv
  · rw [if_neg hi]; exact (c j j0 j1).2
theorem dp_A (h : Agr P P') {e : Int} (e0 : 0 ≤ e) : Agr (dpP P e) (dpP P' e) := by
  obtain ⟨h1, h2, h3, h4, h5⟩ := h
  refine ⟨h1, by show pE P - 1 = pE P' - 1; rw [h2], fun i i0 i1 => ?_, h4, h5⟩
  have i1 : i < pE P - 1 := i1
  show (if i < e then pSz P i else pSz P (i + 1)) = (if i < e then pSz P' i else pSz P' (i + 1)) ∧ (if i < e then pRe P i else pRe P (i + 1)) = (if i < e then pRe P' i else pRe P' (i + 1)) ∧ ∀ k, 0 ≤ k → k < (if i < e then pSz P i else pSz P (i + 1)) → (if i < e then pKy P i k else pKy P (i + 1) k) = (if i < e then pKy P' i k else pKy P' (i + 1) k) ∧ (if i < e then pSe P i k else pSe P (i + 1) k) = (if i < e then pSe P' i k else pSe P' (i + 1) k)
  by_cases hi : i < e
  · simp only [if_pos hi]
    exact h3 i i0 (by omega)
  · simp only [if_neg hi]
    exact h3 (i + 1) (by omega) (by omega)
theorem dp_Wf (hW : Wf P) {e : Int} (e0 : 0 ≤ e) (e1 : e < pE P) : Wf (dpP P e) := by
  obtain ⟨h1, h2, h3, h4, h5⟩ := hW
  refine ⟨h1, ⟨by show 0 ≤ pE P - 1; omega, by show pE P - 1 ≤ 40; omega⟩, fun i i0 i1 => ?_, h4, h5⟩
  have i1 : i < pE P - 1 := i1
  show (1 ≤ (if i < e then pSz P i else pSz P (i + 1)) ∧ (if i < e then pSz P i else pSz P (i + 1)) ≤ 3) ∧ (0 ≤ (if i < e then pRe P i else pRe P (i + 1)) ∧ (if i < e then pRe P i else pRe P (i + 1)) ≤ 9) ∧ (∀ k, 0 ≤ k → k < (if i < e then pSz P i else pSz P (i + 1)) → (21 ≤ (if i < e then pKy P i k else pKy P (i + 1) k) ∧ (if i < e then pKy P i k else pKy P (i + 1) k) ≤ 108) ∧ (0 ≤ (if i < e then pSe P i k else pSe P (i + 1) k) ∧ (if i < e then pSe P i k else pSe P (i + 1) k) ≤ 31)) ∧ (∀ k, 0 ≤ k → k + 1 < (if i < e then pSz P i else pSz P (i + 1)) → (if i < e then pKy P i k else pKy P (i + 1) k) < (if i < e then pKy P i (k + 1) else pKy P (i + 1) (k + 1)))
  by_cases hi : i < e
  · simp only [if_pos hi]
    exact h3 i i0 (by omega)
  · simp only [if_neg hi]
    exact h3 (i + 1) (by omega) (by omega)
end CG
section CI
variable {I J : Mm} {q m : Nat}
theorem c_rs {e r : Int} : Agr (pv (upd2 J (q + 4) e r) q) (rsP (pv J q) e r) := by
  have x : ∀ p, ¬ p = q + 4 → upd2 J (q + 4) e r p = J p := fun p hp => by funext i; exact upd2_p hp
  have x0 := x q (by omega)
  have x2 := x (q + 2) (by omega)
  have x6 := x (q + 6) (by omega)
  have x8 := x (q + 8) (by omega)
  have x10 := x (q + 10) (by omega)
  have x12 := x (q + 12) (by omega)
  have x14 := x (q + 14) (by omega)
  have x16 := x (q + 16) (by omega)
  unfold Agr pv
  rw [x0, x2, x6, x8, x10, x12, x14, x16]
  refine ⟨rfl, rfl, fun i i0 i1 => ⟨rfl, ?_, fun _ _ _ => ⟨rfl, rfl⟩⟩, fun _ _ _ => rfl, fun _ _ _ _ _ _ _ => ⟨rfl, rfl, rfl⟩⟩
  show upd2 J (q + 4) e r (q + 4) i = if i = e then r else J (q + 4) i
  by_cases h : i = e
  · rw [if_pos h, h, upd2_at]
  · rw [if_neg h, upd2_i h]
theorem c_le {e k v : Int} (hB : pB J q) (hk : 0 ≤ k ∧ k < 3) : Agr (pv (upd2 J (q + 8) (e * 3 + k) v) q) (leP (pv J q) e k v) := by
  have x : ∀ p, ¬ p = q + 8 → upd2 J (q + 8) (e * 3 + k) v p = J p := fun p hp => by funext i; exact upd2_p hp
  have x0 := x q (by omega)
  have x2 := x (q + 2) (by omega)
  have x4 := x (q + 4) (by omega)
  have x6 := x (q + 6) (by omega)
  have x10 := x (q + 10) (by omega)
  have x12 := x (q + 12) (by omega)
  have x14 := x (q + 14) (by omega)
  have x16 := x (q + 16) (by omega)
  have hs := hB.2.2.1
  unfold Agr pv
  rw [x0, x2, x4, x6, x10, x12, x14, x16]
  refine ⟨rfl, rfl, fun i i0 i1 => ⟨rfl, rfl, fun j j0 j1 => ⟨rfl, ?_⟩⟩, fun _ _ _ => rfl, fun _ _ _ _ _ _ _ => ⟨rfl, rfl, rfl⟩⟩
  have j1 : j < J (q + 2) i := j1
  have := hs i
  show upd2 J (q + 8) (e * 3 + k) v (q + 8) (i * 3 + j) = if i = e ∧ j = k then v else J (q + 8) (i * 3 + j)
  by_cases h : i = e ∧ j = k
  · rw [if_pos h, h.1, h.2, upd2_at]
  · rw [if_neg h, upd2_i (by omega)]
theorem c_dp {e E : Int} (hE : J q 1 = E) (hB : pB J q) (e0 : 0 ≤ e) (e1 : e < E) : Agr (pv (clE (upd2 J q 1 (E - 1)) q e (E - 1)) q) (dpP (pv J q) e) := by
  obtain ⟨K, hK⟩ : ∃ K, K = upd2 J q 1 (E - 1) := ⟨_, rfl⟩
  have kp : ∀ p, ¬ p = q → K p = J p := fun p hp => by rw [hK]; funext i; exact upd2_p hp
  have k1 : K q 1 = E - 1 := by rw [hK, upd2_at]
  have k0 : K q 0 = J q 0 := by rw [hK, upd2_i (by decide)]
  rw [← hK]
  have hs := hB.2.2.1
  have cl2 : ∀ i, clE K q e (E - 1) (q + 2) i = if e ≤ i ∧ i < E - 1 then J (q + 2) (i + 1) else J (q + 2) i := fun i => by
    unfold clE
    rw [kp (q + 2) (by omega)]
    by_cases h : e ≤ i ∧ i < E - 1
    · rw [if_pos ⟨Or.inl rfl, h⟩, if_pos h]
    · rw [if_neg (fun z => h z.2), if_neg (by omega), if_neg h]
  have cl4 : ∀ i, clE K q e (E - 1) (q + 4) i = if e ≤ i ∧ i < E - 1 then J (q + 4) (i + 1) else J (q + 4) i := fun i => by
    unfold clE
    rw [kp (q + 4) (by omega)]
    by_cases h : e ≤ i ∧ i < E - 1
    · rw [if_pos ⟨Or.inr rfl, h⟩, if_pos h]
    · rw [if_neg (fun z => h z.2), if_neg (by omega), if_neg h]
  have cl68 : ∀ p i, (p = q + 6 ∨ p = q + 8) → clE K q e (E - 1) p i = if e * 3 ≤ i ∧ i < (E - 1) * 3 then J p (i + 3) else J p i := fun p i hp => by
    unfold clE
    rw [kp p (by omega), if_neg (by omega)]
    by_cases h : e * 3 ≤ i ∧ i < (E - 1) * 3
    · rw [if_pos ⟨hp, h⟩, if_pos h]
    · rw [if_neg (fun z => h z.2), if_neg h]
  have clp : ∀ p, ¬ p = q + 2 → ¬ p = q + 4 → ¬ p = q + 6 → ¬ p = q + 8 → clE K q e (E - 1) p = K p := fun p a b c d => by
    funext i
    unfold clE
    rw [if_neg (by omega), if_neg (by omega)]
  have x0 := clp q (by omega) (by omega) (by omega) (by omega)
  have x10 := clp (q + 10) (by omega) (by omega) (by omega) (by omega)
  have x12 := clp (q + 12) (by omega) (by omega) (by omega) (by omega)
  have x14 := clp (q + 14) (by omega) (by omega) (by omega) (by omega)
  have x16 := clp (q + 16) (by omega) (by omega) (by omega) (by omega)
  unfold Agr pv
  rw [x0, x10, x12, x14, x16, kp (q + 10) (by omega), kp (q + 12) (by omega), kp (q + 14) (by omega), kp (q + 16) (by omega)]
  refine ⟨k0, ?_, fun i i0 i1 => ?_, fun _ _ _ => rfl, fun _ _ _ _ _ _ _ => ⟨rfl, rfl, rfl⟩⟩
  · show K q 1 = J q 1 - 1
    rw [k1, hE]
  · have i1 : i < K q 1 := i1
    rw [k1] at i1
    have z0 := hs i
    have z1 := hs (i + 1)
    show clE K q e (E - 1) (q + 2) i = (if i < e then J (q + 2) i else J (q + 2) (i + 1)) ∧ clE K q e (E - 1) (q + 4) i = (if i < e then J (q + 4) i else J (q + 4) (i + 1)) ∧ ∀ k, 0 ≤ k → k < clE K q e (E - 1) (q + 2) i → clE K q e (E - 1) (q + 6) (i * 3 + k) = (if i < e then J (q + 6) (i * 3 + k) else J (q + 6) ((i + 1) * 3 + k)) ∧ clE K q e (E - 1) (q + 8) (i * 3 + k) = (if i < e then J (q + 8) (i * 3 + k) else J (q + 8) ((i + 1) * 3 + k))
    rw [cl2, cl4]
    by_cases hi : i < e
    · have t1 : ¬ (e ≤ i ∧ i < E - 1) := by omega
      rw [if_neg t1, if_neg t1, if_pos hi, if_pos hi]
      refine ⟨rfl, rfl, fun k a0 a1 => ?_⟩
      have t2 : ¬ (e * 3 ≤ i * 3 + k ∧ i * 3 + k < (E - 1) * 3) := by omega
      rw [cl68 _ _ (Or.inl rfl), cl68 _ _ (Or.inr rfl), if_neg t2, if_neg t2, if_pos hi, if_pos hi]
      exact ⟨rfl, rfl⟩
    · have t1 : e ≤ i ∧ i < E - 1 := by omega
      rw [if_pos t1, if_pos t1, if_neg hi, if_neg hi]
      refine ⟨rfl, rfl, fun k a0 a1 => ?_⟩
      have t2 : e * 3 ≤ i * 3 + k ∧ i * 3 + k < (E - 1) * 3 := by omega
      rw [cl68 _ _ (Or.inl rfl), cl68 _ _ (Or.inr rfl), if_pos t2, if_pos t2, if_neg hi, if_neg hi, show i * 3 + k + 3 = (i + 1) * 3 + k by omega]
      exact ⟨rfl, rfl⟩
theorem m_le {e k v : Int} (hW : Wf (mv J m)) (hk : 0 ≤ k ∧ k < 3) (e0 : 0 ≤ e) : Agr (mv (upd2 J (m + 1) (42 + 8 * e + 5 + k) v) m) (leP (mv J m) e k v) := by
  have x : ∀ i, ¬ i = 42 + 8 * e + 5 + k → upd2 J (m + 1) (42 + 8 * e + 5 + k) v (m + 1) i = J (m + 1) i := fun i hi => upd2_i hi
  refine ⟨x 1 (by omega), x 0 (by omega), fun i i0 i1 => ?_, fun w w0 w1 => x (2 + w) (by omega), fun a b a1 a2 b1 b2 hn => ?_⟩
  · have i1 : i < upd2 J (m + 1) (42 + 8 * e + 5 + k) v (m + 1) 0 := i1
    rw [x 0 (by omega)] at i1
    have z := (hW.2.2.1 i i0 i1).1
    have z' : J (m + 1) (42 + 8 * i) ≤ 3 := z.2
    show upd2 J (m + 1) (42 + 8 * e + 5 + k) v (m + 1) (42 + 8 * i) = J (m + 1) (42 + 8 * i) ∧ upd2 J (m + 1) (42 + 8 * e + 5 + k) v (m + 1) (42 + 8 * i + 1) = J (m + 1) (42 + 8 * i + 1) ∧ ∀ j, 0 ≤ j → j < upd2 J (m + 1) (42 + 8 * e + 5 + k) v (m + 1) (42 + 8 * i) → upd2 J (m + 1) (42 + 8 * e + 5 + k) v (m + 1) (42 + 8 * i + 2 + j) = J (m + 1) (42 + 8 * i + 2 + j) ∧ upd2 J (m + 1) (42 + 8 * e + 5 + k) v (m + 1) (42 + 8 * i + 5 + j) = if i = e ∧ j = k then v else J (m + 1) (42 + 8 * i + 5 + j)
    rw [x _ (by omega), x _ (by omega)]
    refine ⟨rfl, rfl, fun j j0 j1 => ?_⟩
    rw [x _ (by omega)]
    refine ⟨rfl, ?_⟩
    by_cases h : i = e ∧ j = k
    · rw [if_pos h, h.1, h.2, upd2_at]
    · rw [if_neg h, x _ (by omega)]
  · have hp := prS_b (a := a) (b := b) (by omega) (by omega) hn
    exact ⟨x (prS a b) (by omega), x (prS a b + 1) (by omega), x (prS a b + 2) (by omega)⟩
theorem m_dp {e E : Int} (hE : J (m + 1) 0 = E) (hW : Wf (mv J m)) (e0 : 0 ≤ e) (e1 : e < E) : Agr (mv (upd2 (dwU J (m + 1) (42 + 8 * e) 354) (m + 1) 0 (E - 1)) m) (dpP (mv J m) e) := by
  obtain ⟨K, hK⟩ : ∃ K, K = upd2 (dwU J (m + 1) (42 + 8 * e) 354) (m + 1) 0 (E - 1) := ⟨_, rfl⟩
  have hE2 := hW.2.1
  have hE3 : E ≤ 40 := by
    have := hE2.2
    rw [show pE (mv J m) = E from hE] at this
    exact this
  have lo : ∀ i, ¬ i = 0 → (i < 42 + 8 * e ∨ 354 ≤ i) → K (m + 1) i = J (m + 1) i := fun i h0 hi => by
    rw [hK, upd2_i h0]
    exact if_neg (by omega)
  have up : ∀ i, 42 + 8 * e ≤ i → i < 354 → K (m + 1) i = J (m + 1) (i + 8) := fun i h0 hi => by
    rw [hK, upd2_i (by omega)]
    exact if_pos ⟨rfl, h0, hi⟩
  have kz : K (m + 1) 0 = E - 1 := by rw [hK, upd2_at]
  rw [← hK]
  refine ⟨lo 1 (by decide) (by omega), by show K (m + 1) 0 = J (m + 1) 0 - 1; rw [kz, hE], fun i i0 i1 => ?_, fun w w0 w1 => lo (2 + w) (by omega) (by omega), fun a b a1 a2 b1 b2 hn => ?_⟩
  · have i1 : i < K (m + 1) 0 := i1
    rw [kz] at i1
    have z : ∀ i, 0 ≤ i → i < E → J (m + 1) (42 + 8 * i) ≤ 3 := fun i a b => (hW.2.2.1 i a (by rw [show pE (mv J m) = E from hE]; exact b)).1.2
    have z0 := z i i0 (by omega)
    have z1 := z (i + 1) (by omega) (by omega)
    show K (m + 1) (42 + 8 * i) = (if i < e then J (m + 1) (42 + 8 * i) else J (m + 1) (42 + 8 * (i + 1))) ∧ K (m + 1) (42 + 8 * i + 1) = (if i < e then J (m + 1) (42 + 8 * i + 1) else J (m + 1) (42 + 8 * (i + 1) + 1)) ∧ ∀ k, 0 ≤ k → k < K (m + 1) (42 + 8 * i) → K (m + 1) (42 + 8 * i + 2 + k) = (if i < e then J (m + 1) (42 + 8 * i + 2 + k) else J (m + 1) (42 + 8 * (i + 1) + 2 + k)) ∧ K (m + 1) (42 + 8 * i + 5 + k) = (if i < e then J (m + 1) (42 + 8 * i + 5 + k) else J (m + 1) (42 + 8 * (i + 1) + 5 + k))
    by_cases hi : i < e
    · rw [if_pos hi, if_pos hi, lo _ (by omega) (by omega), lo _ (by omega) (by omega)]
      refine ⟨rfl, rfl, fun k a0 a1 => ?_⟩
      rw [if_pos hi, if_pos hi, lo _ (by omega) (by omega), lo _ (by omega) (by omega)]
      exact ⟨rfl, rfl⟩
    · rw [if_neg hi, if_neg hi, up _ (by omega) (by omega), up _ (by omega) (by omega), show 42 + 8 * i + 8 = 42 + 8 * (i + 1) by omega, show 42 + 8 * i + 1 + 8 = 42 + 8 * (i + 1) + 1 by omega]
      refine ⟨rfl, rfl, fun k a0 a1 => ?_⟩
      rw [if_neg hi, if_neg hi, up _ (by omega) (by omega), up _ (by omega) (by omega), show 42 + 8 * i + 2 + k + 8 = 42 + 8 * (i + 1) + 2 + k by omega, show 42 + 8 * i + 5 + k + 8 = 42 + 8 * (i + 1) + 5 + k by omega]
      exact ⟨rfl, rfl⟩
  · have hp := prS_b (a := a) (b := b) (by omega) (by omega) hn
    exact ⟨lo (prS a b) (by omega) (by omega), lo (prS a b + 1) (by omega) (by omega), lo (prS a b + 2) (by omega) (by omega)⟩
end CI
