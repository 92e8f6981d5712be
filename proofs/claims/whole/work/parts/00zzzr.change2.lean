/-! An event put in, as both views see it. -/
def inP (P : PT) (e n r : Int) (ky : Int → Int) : PT := (pR P, pE P + 1, fun i => if i < e then pSz P i else if i = e then n else pSz P (i - 1), fun i => if i < e then pRe P i else if i = e then r else pRe P (i - 1), fun i j => if i < e then pKy P i j else if i = e then ky j else pKy P (i - 1) j, fun i j => if i < e then pSe P i j else if i = e then 31 else pSe P (i - 1) j, pW P, pLo P, pHi P, pLi P)
def ky3 (a b c k : Int) : Int := if k = 0 then a else if k = 1 then b else c
def nk3 (b c : Int) : Int := if b = 0 then 1 else if c = 0 then 2 else 3
section IN
variable {P P' : PT}
theorem in_A (h : Agr P P') {e n r : Int} (e0 : 0 ≤ e) (e1 : e ≤ pE P) {ky : Int → Int} : Agr (inP P e n r ky) (inP P' e n r ky) := by
  obtain ⟨h1, h2, h3, h4, h5⟩ := h
  refine ⟨h1, by show pE P + 1 = pE P' + 1; rw [h2], fun i i0 i1 => ?_, h4, h5⟩
  have i1 : i < pE P + 1 := i1
  show (if i < e then pSz P i else if i = e then n else pSz P (i - 1)) = (if i < e then pSz P' i else if i = e then n else pSz P' (i - 1)) ∧ (if i < e then pRe P i else if i = e then r else pRe P (i - 1)) = (if i < e then pRe P' i else if i = e then r else pRe P' (i - 1)) ∧ ∀ k, 0 ≤ k → k < (if i < e then pSz P i else if i = e then n else pSz P (i - 1)) → (if i < e then pKy P i k else if i = e then ky k else pKy P (i - 1) k) = (if i < e then pKy P' i k else if i = e then ky k else pKy P' (i - 1) k) ∧ (if i < e then pSe P i k else if i = e then 31 else pSe P (i - 1) k) = (if i < e then pSe P' i k else if i = e then 31 else pSe P' (i - 1) k)
  by_cases hi : i < e
  · simp only [if_pos hi]
    exact h3 i i0 (by omega)
  · simp only [if_neg hi]
    by_cases he : i = e
    · simp only [if_pos he]
      exact ⟨trivial, trivial, fun _ _ _ => ⟨trivial, trivial⟩⟩
    · simp only [if_neg he]
      exact h3 (i - 1) (by omega) (by omega)
theorem in_Wf (hW : Wf P) {e n r : Int} {ky : Int → Int} (e0 : 0 ≤ e) (e1 : e ≤ pE P) (hE : pE P < 40) (hn : 1 ≤ n ∧ n ≤ 3) (hr : 0 ≤ r ∧ r ≤ 9) (hk : ∀ k, 0 ≤ k → k < n → 21 ≤ ky k ∧ ky k ≤ 108) (ha : ∀ k, 0 ≤ k → k + 1 < n → ky k < ky (k + 1)) : Wf (inP P e n r ky) := by
  obtain ⟨h1, h2, h3, h4, h5⟩ := hW
  refine ⟨h1, ⟨by show 0 ≤ pE P + 1; omega, by show pE P + 1 ≤ 40; omega⟩, fun i i0 i1 => ?_, h4, h5⟩
  have i1 : i < pE P + 1 := i1
  show (1 ≤ (if i < e then pSz P i else if i = e then n else pSz P (i - 1)) ∧ (if i < e then pSz P i else if i = e then n else pSz P (i - 1)) ≤ 3) ∧ (0 ≤ (if i < e then pRe P i else if i = e then r else pRe P (i - 1)) ∧ (if i < e then pRe P i else if i = e then r else pRe P (i - 1)) ≤ 9) ∧ (∀ k, 0 ≤ k → k < (if i < e then pSz P i else if i = e then n else pSz P (i - 1)) → (21 ≤ (if i < e then pKy P i k else if i = e then ky k else pKy P (i - 1) k) ∧ (if i < e then pKy P i k else if i = e then ky k else pKy P (i - 1) k) ≤ 108) ∧ (0 ≤ (if i < e then pSe P i k else if i = e then 31 else pSe P (i - 1) k) ∧ (if i < e then pSe P i k else if i = e then 31 else pSe P (i - 1) k) ≤ 31)) ∧ (∀ k, 0 ≤ k → k + 1 < (if i < e then pSz P i else if i = e then n else pSz P (i - 1)) → (if i < e then pKy P i k else if i = e then ky k else pKy P (i - 1) k) < (if i < e then pKy P i (k + 1) else if i = e then ky (k + 1) else pKy P (i - 1) (k + 1)))
  by_cases hi : i < e
  · simp only [if_pos hi]
    exact h3 i i0 (by omega)
  · simp only [if_neg hi]
    by_cases he : i = e
    · simp only [if_pos he]
      exact ⟨hn, hr, fun k k0 k1 => ⟨hk k k0 k1, by decide⟩, ha⟩
    · simp only [if_neg he]
      exact h3 (i - 1) (by omega) (by omega)
theorem nk3_ok {a b c : Int} (h : kyOk a b c) : (1 ≤ nk3 b c ∧ nk3 b c ≤ 3) ∧ (∀ k, 0 ≤ k → k < nk3 b c → 21 ≤ ky3 a b c k ∧ ky3 a b c k ≤ 108) ∧ (∀ k, 0 ≤ k → k + 1 < nk3 b c → ky3 a b c k < ky3 a b c (k + 1)) := by
  unfold kyOk at h
  unfold nk3 ky3
  by_cases hb : b = 0
  · simp only [if_pos hb]
    refine ⟨by decide, fun k k0 k1 => ?_, fun k k0 k1 => by omega⟩
    rw [if_pos (show k = 0 by omega)]; omega
  · simp only [if_neg hb]
    by_cases hc : c = 0
    · simp only [if_pos hc]
      refine ⟨by decide, fun k k0 k1 => ?_, fun k k0 k1 => ?_⟩
      · by_cases hk : k = 0
        · rw [if_pos hk]; omega
        · rw [if_neg hk, if_pos (show k = 1 by omega)]; omega
      · have hk : k = 0 := by omega
        have hk1 : ¬ k + 1 = 0 := by omega
        have hk2 : k + 1 = 1 := by omega
        rw [if_pos hk, if_neg hk1, if_pos hk2]; omega
    · simp only [if_neg hc]
      refine ⟨by decide, fun k k0 k1 => ?_, fun k k0 k1 => ?_⟩
      · by_cases hk : k = 0
        · rw [if_pos hk]; omega
        · rw [if_neg hk]
          by_cases hk1 : k = 1
          · rw [if_pos hk1]; omega
          · rw [if_neg hk1]; omega
      · have hk1 : ¬ k + 1 = 0 := by omega
        by_cases hk : k = 0
        · have hk2 : k + 1 = 1 := by omega
          rw [if_pos hk, if_neg hk1, if_pos hk2]; omega
        · have hk2 : k = 1 := by omega
          have hk3 : ¬ k + 1 = 1 := by omega
          rw [if_neg hk, if_pos hk2, if_neg hk1, if_neg hk3]; omega
end IN
section IC
variable {I J : Mm} {q m : Nat}
theorem pnI_2 {e k v i : Int} : pnI I q e k v (q + 2) i = if i = e then k + 1 else I (q + 2) i := by
  unfold pnI
  by_cases h : i = e
  · rw [if_pos h, h, upd2_at]
  · rw [if_neg h, upd2_i h, upd2_p (by omega), upd2_p (by omega)]
theorem pnI_6 {e k v i : Int} : pnI I q e k v (q + 6) i = if i = e * 3 + k then v else I (q + 6) i := by
  unfold pnI
  rw [upd2_p (by omega), upd2_p (by omega)]
  by_cases h : i = e * 3 + k
  · rw [if_pos h, h, upd2_at]
  · rw [if_neg h, upd2_i h]
theorem pnI_8 {e k v i : Int} : pnI I q e k v (q + 8) i = if i = e * 3 + k then 31 else I (q + 8) i := by
  unfold pnI
  rw [upd2_p (by omega)]
  by_cases h : i = e * 3 + k
  · rw [if_pos h, h, upd2_at]
  · rw [if_neg h, upd2_i h, upd2_p (by omega)]
theorem pnI_p {e k v : Int} {p : Nat} (h2 : ¬ p = q + 2) (h6 : ¬ p = q + 6) (h8 : ¬ p = q + 8) : pnI I q e k v p = I p := by
  funext i
  unfold pnI
  rw [upd2_p h2, upd2_p h8, upd2_p h6]
/-- what playing leaves at each place of a piece -/
theorem pl_v {e a b c r E : Int} (hE : J q 1 = E) (hk : b = 0 → c = 0) : (∀ i, plI J q e a b c r (q + 2) i = if i = e then nk3 b c else opE J q e E (q + 2) i) ∧ (∀ i, plI J q e a b c r (q + 4) i = if i = e then r else opE J q e E (q + 4) i) ∧ (∀ i, (i < e * 3 ∨ e * 3 + 3 ≤ i) → plI J q e a b c r (q + 6) i = opE J q e E (q + 6) i ∧ plI J q e a b c r (q + 8) i = opE J q e E (q + 8) i) ∧ (∀ k, 0 ≤ k → k < nk3 b c → plI J q e a b c r (q + 6) (e * 3 + k) = ky3 a b c k ∧ plI J q e a b c r (q + 8) (e * 3 + k) = 31) ∧ plI J q e a b c r q 0 = J q 0 ∧ plI J q e a b c r q 1 = E + 1 ∧ ∀ p, ¬ p = q → ¬ p = q + 2 → ¬ p = q + 4 → ¬ p = q + 6 → ¬ p = q + 8 → plI J q e a b c r p = J p := by
  obtain ⟨O, hO⟩ : ∃ O, O = upd2 (upd2 (upd2 (opE J q e E) (q + 2) e 0) (q + 4) e 0) q 1 (E + 1) := ⟨_, rfl⟩
  have o2 : ∀ i, ¬ i = e → O (q + 2) i = opE J q e E (q + 2) i := fun i hi => by rw [hO, upd2_p (by omega), upd2_p (by omega), upd2_i hi]
  have o4 : ∀ i, ¬ i = e → O (q + 4) i = opE J q e E (q + 4) i := fun i hi => by rw [hO, upd2_p (by omega), upd2_i hi, upd2_p (by omega)]
  have o6 : O (q + 6) = opE J q e E (q + 6) := by rw [hO]; funext i; rw [upd2_p (by omega), upd2_p (by omega), upd2_p (by omega)]
  have o8 : O (q + 8) = opE J q e E (q + 8) := by rw [hO]; funext i; rw [upd2_p (by omega), upd2_p (by omega), upd2_p (by omega)]
  have oo : ∀ p, ¬ p = q + 2 → ¬ p = q + 4 → ¬ p = q + 6 → ¬ p = q + 8 → opE J q e E p = J p := fun p a b c d => by
    funext i
    unfold opE
    rw [if_neg (by omega), if_neg (by omega)]
  have o0 : O q 0 = J q 0 := by rw [hO, upd2_i (by decide), upd2_p (by omega), upd2_p (by omega), oo q (by omega) (by omega) (by omega) (by omega)]
  have o1 : O q 1 = E + 1 := by rw [hO, upd2_at]
  have op : ∀ p, ¬ p = q → ¬ p = q + 2 → ¬ p = q + 4 → ¬ p = q + 6 → ¬ p = q + 8 → O p = J p := fun p z a b c d => by
    rw [hO]; funext i
    rw [upd2_p z, upd2_p b, upd2_p a, oo p a b c d]
  obtain ⟨N, hN⟩ : ∃ N, N = (if c = 0 then (if b = 0 then pnI O q e 0 a else pnI (pnI O q e 0 a) q e 1 b) else pnI (if b = 0 then pnI O q e 0 a else pnI (pnI O q e 0 a) q e 1 b) q e 2 c) := ⟨_, rfl⟩
  have hpl : plI J q e a b c r = upd2 N (q + 4) e r := by rw [hN, hO, ← hE]; rfl
  -- the notes
  have hn : (∀ i, N (q + 2) i = if i = e then nk3 b c else O (q + 2) i) ∧ (∀ i, (i < e * 3 ∨ e * 3 + 3 ≤ i) → N (q + 6) i = O (q + 6) i ∧ N (q + 8) i = O (q + 8) i) ∧ (∀ k, 0 ≤ k → k < nk3 b c → N (q + 6) (e * 3 + k) = ky3 a b c k ∧ N (q + 8) (e * 3 + k) = 31) ∧ ∀ p, ¬ p = q + 2 → ¬ p = q + 6 → ¬ p = q + 8 → N p = O p := by
    by_cases hb : b = 0
    · have hc := hk hb
      rw [if_pos hc, if_pos hb] at hN
      rw [hN, show nk3 b c = 1 from if_pos hb]
      refine ⟨fun i => pnI_2, fun i hi => ?_, fun k k0 k1 => ?_, fun p x y z => pnI_p x y z⟩
      · rw [pnI_6, pnI_8, if_neg (by omega), if_neg (by omega)]; exact ⟨rfl, rfl⟩
      · have h0 : k = 0 := by omega
        have h1 : e * 3 + k = e * 3 + 0 := by omega
        rw [pnI_6, pnI_8, if_pos h1, if_pos h1]
        exact ⟨(if_pos h0).symm, rfl⟩
    · by_cases hc : c = 0
      · rw [if_pos hc, if_neg hb] at hN
        rw [hN, show nk3 b c = 2 by unfold nk3; rw [if_neg hb, if_pos hc]]
        refine ⟨fun i => ?_, fun i hi => ?_, fun k k0 k1 => ?_, fun p x y z => by rw [pnI_p x y z, pnI_p x y z]⟩
        · rw [pnI_2, pnI_2]
          by_cases h : i = e
          · rw [if_pos h, if_pos h]; rfl
          · rw [if_neg h, if_neg h, if_neg h]
        · have h1 : ¬ i = e * 3 + 1 := by omega
          have h0 : ¬ i = e * 3 + 0 := by omega
          rw [pnI_6, pnI_8, pnI_6, pnI_8, if_neg h1, if_neg h1, if_neg h0, if_neg h0]; exact ⟨rfl, rfl⟩
        · rw [pnI_6, pnI_8, pnI_6, pnI_8]
          unfold ky3
          by_cases h0 : k = 0
          · have h1 : ¬ e * 3 + k = e * 3 + 1 := by omega
            have h2 : e * 3 + k = e * 3 + 0 := by omega
            rw [if_neg h1, if_neg h1, if_pos h2, if_pos h2, if_pos h0]; exact ⟨rfl, rfl⟩
          · have h1 : e * 3 + k = e * 3 + 1 := by omega
            have h2 : k = 1 := by omega
            rw [if_pos h1, if_pos h1, if_neg h0, if_pos h2]; exact ⟨rfl, rfl⟩
      · rw [if_neg hc, if_neg hb] at hN
        rw [hN, show nk3 b c = 3 by unfold nk3; rw [if_neg hb, if_neg hc]]
        refine ⟨fun i => ?_, fun i hi => ?_, fun k k0 k1 => ?_, fun p x y z => by rw [pnI_p x y z, pnI_p x y z, pnI_p x y z]⟩
        · rw [pnI_2, pnI_2, pnI_2]
          by_cases h : i = e
          · rw [if_pos h, if_pos h]; rfl
          · rw [if_neg h, if_neg h, if_neg h, if_neg h]
        · have h2 : ¬ i = e * 3 + 2 := by omega
          have h1 : ¬ i = e * 3 + 1 := by omega
          have h0 : ¬ i = e * 3 + 0 := by omega
          rw [pnI_6, pnI_8, pnI_6, pnI_8, pnI_6, pnI_8, if_neg h2, if_neg h2, if_neg h1, if_neg h1, if_neg h0, if_neg h0]; exact ⟨rfl, rfl⟩
        · rw [pnI_6, pnI_8, pnI_6, pnI_8, pnI_6, pnI_8]
          unfold ky3
          by_cases h0 : k = 0
          · have h3 : ¬ e * 3 + k = e * 3 + 2 := by omega
            have h1 : ¬ e * 3 + k = e * 3 + 1 := by omega
            have h2 : e * 3 + k = e * 3 + 0 := by omega
            rw [if_neg h3, if_neg h3, if_neg h1, if_neg h1, if_pos h2, if_pos h2, if_pos h0]; exact ⟨rfl, rfl⟩
          · by_cases h1 : k = 1
            · have h3 : ¬ e * 3 + k = e * 3 + 2 := by omega
              have h2 : e * 3 + k = e * 3 + 1 := by omega
              rw [if_neg h3, if_neg h3, if_pos h2, if_pos h2, if_neg h0, if_pos h1]; exact ⟨rfl, rfl⟩
            · have h3 : e * 3 + k = e * 3 + 2 := by omega
              rw [if_pos h3, if_pos h3, if_neg h0, if_neg h1]; exact ⟨rfl, rfl⟩
  obtain ⟨n2, n6, n7, np⟩ := hn
  rw [hpl]
  have u : ∀ p, ¬ p = q + 4 → upd2 N (q + 4) e r p = N p := fun p hp => by funext i; exact upd2_p hp
  rw [u (q + 2) (by omega), u (q + 6) (by omega), u (q + 8) (by omega), u q (by omega), np q (by omega) (by omega) (by omega)]
  refine ⟨fun i => ?_, fun i => ?_, fun i hi => ?_, n7, o0, o1, fun p z a b c d => by rw [u p b, np p a c d, op p z a b c d]⟩
  · rw [n2]
    by_cases h : i = e
    · rw [if_pos h, if_pos h]
    · rw [if_neg h, if_neg h, o2 i h]
  · by_cases h : i = e
    · rw [if_pos h, h, upd2_at]
    · rw [if_neg h, upd2_i h, np (q + 4) (by omega) (by omega) (by omega), o4 i h]
  · rw [(n6 i hi).1, (n6 i hi).2, o6, o8]; exact ⟨rfl, rfl⟩
theorem c_in {e a b c r E : Int} (hE : J q 1 = E) (hB : pB J q) (e0 : 0 ≤ e) (e1 : e ≤ E) (hk : kyOk a b c) : Agr (pv (plI J q e a b c r) q) (inP (pv J q) e (nk3 b c) r (ky3 a b c)) := by
  obtain ⟨p2, p4, p6, p7, z0, z1, zp⟩ := pl_v (J := J) (q := q) (e := e) (a := a) (b := b) (c := c) (r := r) hE (fun hb => by unfold kyOk at hk; omega)
  have hs := hB.2.2.1
  have hn := (nk3_ok hk).1
  obtain ⟨L, hL⟩ : ∃ L, L = plI J q e a b c r := ⟨_, rfl⟩
  rw [← hL] at p2 p4 p6 p7 z0 z1 zp ⊢
  have op2 : ∀ i, opE J q e E (q + 2) i = if e < i ∧ i ≤ E then J (q + 2) (i - 1) else J (q + 2) i := fun i => by
    unfold opE
    by_cases h : e < i ∧ i ≤ E
    · rw [if_pos ⟨Or.inl rfl, h⟩, if_pos h]
    · rw [if_neg (fun z => h z.2), if_neg (by omega), if_neg h]
  have op4 : ∀ i, opE J q e E (q + 4) i = if e < i ∧ i ≤ E then J (q + 4) (i - 1) else J (q + 4) i := fun i => by
    unfold opE
    by_cases h : e < i ∧ i ≤ E
    · rw [if_pos ⟨Or.inr rfl, h⟩, if_pos h]
    · rw [if_neg (fun z => h z.2), if_neg (by omega), if_neg h]
  have op68 : ∀ p i, (p = q + 6 ∨ p = q + 8) → opE J q e E p i = if e * 3 + 3 ≤ i ∧ i < E * 3 + 3 then J p (i - 3) else J p i := fun p i hp => by
    unfold opE
    rw [if_neg (by omega)]
    by_cases h : e * 3 + 3 ≤ i ∧ i < E * 3 + 3
    · rw [if_pos ⟨hp, h⟩, if_pos h]
    · rw [if_neg (fun z => h z.2), if_neg h]
  unfold Agr pv
  rw [zp (q + 10) (by omega) (by omega) (by omega) (by omega) (by omega), zp (q + 12) (by omega) (by omega) (by omega) (by omega) (by omega), zp (q + 14) (by omega) (by omega) (by omega) (by omega) (by omega), zp (q + 16) (by omega) (by omega) (by omega) (by omega) (by omega)]
  refine ⟨z0, by show L q 1 = J q 1 + 1; rw [z1, hE], fun i i0 i1 => ?_, fun _ _ _ => rfl, fun _ _ _ _ _ _ _ => ⟨rfl, rfl, rfl⟩⟩
  have i1 : i < L q 1 := i1
  rw [z1] at i1
  have s0 := hs i
  have s1 := hs (i - 1)
  show L (q + 2) i = (if i < e then J (q + 2) i else if i = e then nk3 b c else J (q + 2) (i - 1)) ∧ L (q + 4) i = (if i < e then J (q + 4) i else if i = e then r else J (q + 4) (i - 1)) ∧ ∀ k, 0 ≤ k → k < L (q + 2) i → L (q + 6) (i * 3 + k) = (if i < e then J (q + 6) (i * 3 + k) else if i = e then ky3 a b c k else J (q + 6) ((i - 1) * 3 + k)) ∧ L (q + 8) (i * 3 + k) = (if i < e then J (q + 8) (i * 3 + k) else if i = e then 31 else J (q + 8) ((i - 1) * 3 + k))
  rw [p2, p4]
  by_cases he : i = e
  · have hi : ¬ i < e := by omega
    rw [if_pos he, if_pos he, if_neg hi, if_neg hi, if_pos he, if_pos he]
    refine ⟨rfl, rfl, fun k a0 a1 => ?_⟩
    rw [if_neg hi, if_neg hi, if_pos he, if_pos he, he]
    exact p7 k a0 a1
  · simp only [if_neg he, op2, op4]
    by_cases hi : i < e
    · have t1 : ¬ (e < i ∧ i ≤ E) := by omega
      simp only [if_neg t1, if_pos hi]
      refine ⟨trivial, trivial, fun k a0 a1 => ?_⟩
      have t2 : ¬ (e * 3 + 3 ≤ i * 3 + k ∧ i * 3 + k < E * 3 + 3) := by omega
      obtain ⟨y1, y2⟩ := p6 (i * 3 + k) (by omega)
      rw [y1, y2, op68 _ _ (Or.inl rfl), op68 _ _ (Or.inr rfl), if_neg t2, if_neg t2]
      exact ⟨rfl, rfl⟩
    · have t1 : e < i ∧ i ≤ E := by omega
      simp only [if_pos t1, if_neg hi]
      refine ⟨trivial, trivial, fun k a0 a1 => ?_⟩
      have t2 : e * 3 + 3 ≤ i * 3 + k ∧ i * 3 + k < E * 3 + 3 := by omega
      obtain ⟨y1, y2⟩ := p6 (i * 3 + k) (by omega)
      rw [y1, y2, op68 _ _ (Or.inl rfl), op68 _ _ (Or.inr rfl), if_pos t2, if_pos t2, show i * 3 + k - 3 = (i - 1) * 3 + k by omega]
      exact ⟨rfl, rfl⟩
end IC
