/-! The reference: least and greatest key, moves, black notes. -/
theorem key_le {P : PT} (hW : Wf P) {e k : Int} (h0 : 0 ≤ e) (h1 : e < pE P) (k0 : 0 ≤ k) (k1 : k < pSz P e) : pKy P e 0 ≤ pKy P e k := by
  have hw := hW.2.2.1 e h0 h1
  rcases (show k = 0 ∨ k = 1 ∨ k = 2 by omega) with z | z | z
  · rw [z]; exact Int.le_refl _
  · have := hw.2.2.2 0 (by omega) (by omega)
    rw [z]; exact Int.le_of_lt this
  · have a := hw.2.2.2 0 (by omega) (by omega)
    have b := hw.2.2.2 1 (by omega) (by omega)
    have a : pKy P e 0 < pKy P e 1 := a
    have b : pKy P e 1 < pKy P e 2 := b
    rw [z]; omega
theorem lk_rng {P : PT} (hW : Wf P) {i : Int} (h0 : 0 ≤ i) (h1 : i ≤ pE P) : (i = 0 → lkS P i = -1) ∧ (1 ≤ i → 21 ≤ lkS P i ∧ lkS P i ≤ 108) := by
  have := lk_ge hW i.toNat (by omega)
  rw [show ((i.toNat : Nat) : Int) = i by omega] at this
  exact ⟨fun h => this.1 (by omega), fun h => this.2 (by omega)⟩
theorem gk_rng {P : PT} (hW : Wf P) {i : Int} (h0 : 0 ≤ i) (h1 : i ≤ pE P) : (i = 0 → gkS P i = -1) ∧ (1 ≤ i → 21 ≤ gkS P i ∧ gkS P i ≤ 108 ∧ lkS P i ≤ gkS P i) := by
  have := gk_ge hW i.toNat (by omega)
  rw [show ((i.toNat : Nat) : Int) = i by omega] at this
  exact ⟨fun h => this.1 (by omega), fun h => this.2 (by omega)⟩
section MA
variable {g : Gm} {I : Mm} {m : Nat}
theorem s_keysAt0 (hm : isM g m) (hW : Wf (mv I m)) : cl 216 [.ref m, .int (iI 0)] (mk g I) = some (.inl (some (.int (iI (lkS (mv I m) (I (m + 1) 0))))), mk g I) := by
  have lr := fun i => lk_rng hW (i := i)
  have ls : ∀ i : Int, 0 ≤ i → lkS (mv I m) (i + 1) = lesS (lkS (mv I m) i) (pKy (mv I m) i 0) := fun i h => mnI_s (f := fun e => pKy (mv I m) e 0) h
  refine s_keysAt (W := lkS (mv I m)) (V := fun i k => if k = 0 then lkS (mv I m) i else lkS (mv I m) (i + 1)) hm hW (Or.inl rfl) ?_ rfl ?_ ?_ ?_
  · intro i k a b _ _
    have b : i < pE (mv I m) := b
    have h1 := lr i a (by omega)
    have h2 := lr (i + 1) (by omega) (by omega)
    show -1 ≤ (if k = 0 then lkS (mv I m) i else lkS (mv I m) (i + 1)) ∧ (if k = 0 then lkS (mv I m) i else lkS (mv I m) (i + 1)) ≤ 108
    split <;> omega
  · intro i _ _; exact if_pos rfl
  · intro i a b
    have := (hW.2.2.1 i a b).1.1
    have : 1 ≤ I (m + 1) (42 + 8 * i) := this
    exact if_neg (by omega)
  · intro i k a b c d x hx
    have b : i < pE (mv I m) := b
    have d' : k < pSz (mv I m) i := d
    have hk := key_le hW a b c d'
    have hkk := ((hW.2.2.1 i a b).2.2.1 k c d').1
    have hk0 := ((hW.2.2.1 i a b).2.2.1 0 (by omega) (by omega)).1
    have hke : pKy (mv I m) i k = I (m + 1) (42 + 8 * i + 2 + k) := rfl
    have h1 := lr i a (by omega)
    have h2 := lr (i + 1) (by omega) (by omega)
    have h3 := ls i a
    rw [← hke] at hx ⊢
    show (if k + 1 = 0 then lkS (mv I m) i else lkS (mv I m) (i + 1)) = _
    rw [if_neg (by omega), if_pos rfl]
    have hx : x = if (if k = 0 then lkS (mv I m) i else lkS (mv I m) (i + 1)) = -1 then pKy (mv I m) i k else (if k = 0 then lkS (mv I m) i else lkS (mv I m) (i + 1)) := hx
    unfold lesS at h3
    by_cases hk0' : k = 0
    · subst hk0'
      rw [if_pos rfl] at hx
      by_cases hq : lkS (mv I m) i = -1
      · rw [if_pos hq] at hx h3; omega
      · rw [if_neg hq] at hx h3; rw [if_neg (by omega)] at h3; omega
    · rw [if_neg hk0'] at hx
      rw [if_neg (by omega)] at hx
      split at h3
      · omega
      · split at h3 <;> omega
theorem s_keysAt1 (hm : isM g m) (hW : Wf (mv I m)) : cl 216 [.ref m, .int (iI 1)] (mk g I) = some (.inl (some (.int (iI (gkS (mv I m) (I (m + 1) 0))))), mk g I) := by
  have gr := fun i => gk_rng hW (i := i)
  have gs : ∀ i : Int, 0 ≤ i → gkS (mv I m) (i + 1) = max (gkS (mv I m) i) (pKy (mv I m) i (pSz (mv I m) i - 1)) := fun i h => gkS_s h
  refine s_keysAt (W := gkS (mv I m)) (V := fun i k => if k = 0 then gkS (mv I m) i else max (gkS (mv I m) i) (pKy (mv I m) i (k - 1))) hm hW (Or.inr rfl) ?_ rfl ?_ ?_ ?_
  · intro i k a b c d
    have b : i < pE (mv I m) := b
    have d : k ≤ pSz (mv I m) i := d
    have h1 := gr i a (by omega)
    show -1 ≤ (if k = 0 then gkS (mv I m) i else max (gkS (mv I m) i) (pKy (mv I m) i (k - 1))) ∧ (if k = 0 then gkS (mv I m) i else max (gkS (mv I m) i) (pKy (mv I m) i (k - 1))) ≤ 108
    by_cases hk : k = 0
    · rw [if_pos hk]; omega
    · have := ((hW.2.2.1 i a b).2.2.1 (k - 1) (by omega) (by omega)).1
      rw [if_neg hk]; omega
  · intro i _ _; exact if_pos rfl
  · intro i a b
    have := (hW.2.2.1 i a b).1.1
    have : 1 ≤ I (m + 1) (42 + 8 * i) := this
    rw [gs i a]
    exact if_neg (by omega)
  · intro i k a b c d x hx
    have b : i < pE (mv I m) := b
    have d' : k < pSz (mv I m) i := d
    have hkk := ((hW.2.2.1 i a b).2.2.1 k c d').1
    have hke : pKy (mv I m) i k = I (m + 1) (42 + 8 * i + 2 + k) := rfl
    have h1 := gr i a (by omega)
    rw [← hke] at hx ⊢
    have hx : x = if (if k = 0 then gkS (mv I m) i else max (gkS (mv I m) i) (pKy (mv I m) i (k - 1))) = -1 then pKy (mv I m) i k else (if k = 0 then gkS (mv I m) i else max (gkS (mv I m) i) (pKy (mv I m) i (k - 1))) := hx
    show (if k + 1 = 0 then gkS (mv I m) i else max (gkS (mv I m) i) (pKy (mv I m) i (k + 1 - 1))) = _
    rw [if_neg (by omega), if_neg (by decide), show k + 1 - 1 = k by omega]
    by_cases hk0' : k = 0
    · subst hk0'
      rw [if_pos rfl] at hx
      split at hx <;> omega
    · have hl := (hW.2.2.1 i a b).2.2.2 (k - 1) (by omega) (by omega)
      rw [show k - 1 + 1 = k by omega] at hl
      have hl2 := ((hW.2.2.1 i a b).2.2.1 (k - 1) (by omega) (by omega)).1
      rw [if_neg hk0', if_neg (by omega)] at hx
      omega
end MA
