/-! The reference: what would be. -/
theorem k12 {a b : Int} (ha : 1 ≤ a) (ha' : a ≤ 5) (hb : 1 ≤ b) (hb' : b ≤ 5) (hn : ¬ a = b) : 12 ≤ prS a b ∧ prS a b ≤ 39 := prS_b ⟨ha, ha'⟩ ⟨hb, hb'⟩ hn
theorem agr_rs {I : Mm} {m : Nat} {e r : Int} (he : 0 ≤ e) (hs : ∀ e', 0 ≤ e' → e' < I (m + 1) 0 → I (m + 1) (42 + 8 * e') ≤ 3) : Agr (mv (upd2 I (m + 1) (42 + 8 * e + 1) r) m) (rsP (mv I m) e r) := by
  have hE : upd2 I (m + 1) (42 + 8 * e + 1) r (m + 1) 0 = I (m + 1) 0 := upd2_i (by omega)
  refine ⟨upd2_i (by omega), hE, fun e' a b => ?_, fun w a b => upd2_i (by omega), fun a b a1 a2 b1 b2 hn => ?_⟩
  · have b : e' < upd2 I (m + 1) (42 + 8 * e + 1) r (m + 1) 0 := b
    rw [hE] at b
    have hz : upd2 I (m + 1) (42 + 8 * e + 1) r (m + 1) (42 + 8 * e') = I (m + 1) (42 + 8 * e') := upd2_i (by omega)
    have h3 := hs e' a b
    refine ⟨hz, ?_, fun k k0 k1 => ?_⟩
    · show upd2 I (m + 1) (42 + 8 * e + 1) r (m + 1) (42 + 8 * e' + 1) = if e' = e then r else I (m + 1) (42 + 8 * e' + 1)
      by_cases h : e' = e
      · rw [if_pos h, h]; exact upd2_at
      · rw [if_neg h]; exact upd2_i (by omega)
    · have k1 : k < upd2 I (m + 1) (42 + 8 * e + 1) r (m + 1) (42 + 8 * e') := k1
      rw [hz] at k1
      exact ⟨upd2_i (by omega), upd2_i (by omega)⟩
  · have := k12 a1 a2 b1 b2 hn
    exact ⟨upd2_i (by omega), upd2_i (by omega), upd2_i (by omega)⟩
/-- the other hand -/
def ohP (P : PT) (r : Int) : PT := (r, pE P, pSz P, pRe P, pKy P, pSe P, pW P, pLo P, pHi P, pLi P)
theorem agr_oh {I : Mm} {m : Nat} {r : Int} (hs : ∀ e', 0 ≤ e' → e' < I (m + 1) 0 → I (m + 1) (42 + 8 * e') ≤ 3) : Agr (mv (upd2 I (m + 1) 1 r) m) (ohP (mv I m) r) := by
  have hE : upd2 I (m + 1) 1 r (m + 1) 0 = I (m + 1) 0 := upd2_i (by omega)
  refine ⟨upd2_at, hE, fun e' a b => ?_, fun w a b => upd2_i (by omega), fun a b a1 a2 b1 b2 hn => ?_⟩
  · refine ⟨upd2_i (by omega), upd2_i (by omega), fun k k0 k1 => ⟨upd2_i (by omega), upd2_i (by omega)⟩⟩
  · have := k12 a1 a2 b1 b2 hn
    exact ⟨upd2_i (by omega), upd2_i (by omega), upd2_i (by omega)⟩
theorem oh_Wf {P : PT} (hW : Wf P) {r : Int} (hr : r = 0 ∨ r = 1) : Wf (ohP P r) := ⟨hr, hW.2⟩
theorem oh_A {P P' : PT} (h : Agr P P') {r : Int} : Agr (ohP P r) (ohP P' r) := ⟨rfl, h.2⟩
/-- keys moved up to a place -/
def shK (I : Mm) (m : Nat) (d t : Int) : Mm := fun p i => if (p = m + 1 ∧ 42 ≤ i ∧ i < t) ∧ 2 ≤ (i - 42) % 8 ∧ (i - 42) % 8 - 2 < I (m + 1) (42 + 8 * ((i - 42) / 8)) then I p i + d else I p i
theorem shK_0 {I : Mm} {m : Nat} {d : Int} : shK I m d 44 = I := by
  funext p i
  exact if_neg (fun z => by omega)
theorem shK_p {I : Mm} {m p : Nat} {d t : Int} (h : ¬ p = m + 1) : shK I m d t p = I p := by funext i; exact if_neg (fun z => h z.1.1)
theorem shK_at {I : Mm} {m : Nat} {d t i : Int} (h : t ≤ i) : shK I m d t (m + 1) i = I (m + 1) i := if_neg (fun z => by omega)
theorem shK_lo {I : Mm} {m : Nat} {d t i : Int} (h : i < 42 ∨ (i - 42) % 8 < 2) : shK I m d t (m + 1) i = I (m + 1) i := if_neg (fun z => by omega)
theorem shK_s {I : Mm} {m : Nat} {d e k : Int} (he : 0 ≤ e) (hk : 0 ≤ k) (hk3 : k < 3) (hs : k < I (m + 1) (42 + 8 * e)) : upd2 (shK I m d (42 + 8 * e + 2 + k)) (m + 1) (42 + 8 * e + 2 + k) (I (m + 1) (42 + 8 * e + 2 + k) + d) = shK I m d (42 + 8 * e + 2 + (k + 1)) := by
  funext p i
  by_cases hp : p = m + 1
  · subst hp
    by_cases hi : i = 42 + 8 * e + 2 + k
    · subst hi
      rw [upd2_at]
      refine (if_pos ?_).symm
      have h1 : (42 + 8 * e + 2 + k - 42) % 8 = 2 + k := by omega
      have h2 : (42 + 8 * e + 2 + k - 42) / 8 = e := by omega
      rw [h1, h2]
      exact ⟨⟨rfl, by omega, by omega⟩, by omega, by omega⟩
    · rw [upd2_i hi]
      unfold shK
      by_cases hc : ((m + 1 = m + 1 ∧ 42 ≤ i ∧ i < 42 + 8 * e + 2 + k) ∧ 2 ≤ (i - 42) % 8 ∧ (i - 42) % 8 - 2 < I (m + 1) (42 + 8 * ((i - 42) / 8)))
      · rw [if_pos hc, if_pos ⟨⟨rfl, hc.1.2.1, by omega⟩, hc.2⟩]
      · rw [if_neg hc, if_neg (fun z => hc ⟨⟨rfl, z.1.2.1, by omega⟩, z.2⟩)]
  · rw [upd2_p hp, shK_p hp, shK_p hp]
theorem shK_e {I : Mm} {m : Nat} {d e k : Int} (he : 0 ≤ e) (hk : k = I (m + 1) (42 + 8 * e)) (hk0 : 0 ≤ k) (hk3 : k ≤ 3) : shK I m d (42 + 8 * e + 2 + k) = shK I m d (42 + 8 * (e + 1) + 2 + 0) := by
  funext p i
  unfold shK
  by_cases hc : ((p = m + 1 ∧ 42 ≤ i ∧ i < 42 + 8 * e + 2 + k) ∧ 2 ≤ (i - 42) % 8 ∧ (i - 42) % 8 - 2 < I (m + 1) (42 + 8 * ((i - 42) / 8)))
  · rw [if_pos hc, if_pos ⟨⟨hc.1.1, hc.1.2.1, by omega⟩, hc.2⟩]
  · rw [if_neg hc, if_neg (fun z => hc ⟨⟨z.1.1, z.1.2.1, ?_⟩, z.2⟩)]
    obtain ⟨⟨z1, z2, z3⟩, z4, z5⟩ := z
    by_cases h : (i - 42) / 8 = e
    · rw [h] at z5
      omega
    · omega
theorem agr_sh {I : Mm} {m : Nat} {d : Int} (hn : 0 ≤ I (m + 1) 0) (hs : ∀ e', 0 ≤ e' → e' < I (m + 1) 0 → I (m + 1) (42 + 8 * e') ≤ 3) : Agr (mv (shK I m d (42 + 8 * I (m + 1) 0 + 2 + 0)) m) (shP (mv I m) d) := by
  have hE : shK I m d (42 + 8 * I (m + 1) 0 + 2 + 0) (m + 1) 0 = I (m + 1) 0 := shK_lo (by omega)
  refine ⟨shK_lo (by omega), hE, fun e' a b => ?_, fun w a b => shK_lo (by omega), fun a b a1 a2 b1 b2 hn => ?_⟩
  · have b : e' < shK I m d (42 + 8 * I (m + 1) 0 + 2 + 0) (m + 1) 0 := b
    rw [hE] at b
    have hz : shK I m d (42 + 8 * I (m + 1) 0 + 2 + 0) (m + 1) (42 + 8 * e') = I (m + 1) (42 + 8 * e') := shK_lo (by omega)
    have h3 := hs e' a b
    refine ⟨hz, shK_lo (by omega), fun k k0 k1 => ?_⟩
    have k1 : k < shK I m d (42 + 8 * I (m + 1) 0 + 2 + 0) (m + 1) (42 + 8 * e') := k1
    rw [hz] at k1
    refine ⟨?_, ?_⟩
    · show shK I m d (42 + 8 * I (m + 1) 0 + 2 + 0) (m + 1) (42 + 8 * e' + 2 + k) = I (m + 1) (42 + 8 * e' + 2 + k) + d
      refine if_pos ?_
      have h1 : (42 + 8 * e' + 2 + k - 42) % 8 = 2 + k := by omega
      have h2 : (42 + 8 * e' + 2 + k - 42) / 8 = e' := by omega
      rw [h1, h2]
      exact ⟨⟨rfl, by omega, by omega⟩, by omega, by omega⟩
    · show shK I m d (42 + 8 * I (m + 1) 0 + 2 + 0) (m + 1) (42 + 8 * e' + 5 + k) = I (m + 1) (42 + 8 * e' + 5 + k)
      refine if_neg (fun z => ?_)
      have h1 : (42 + 8 * e' + 5 + k - 42) % 8 = 5 + k := by omega
      have h2 : (42 + 8 * e' + 5 + k - 42) / 8 = e' := by omega
      rw [h1, h2] at z
      omega
  · have := k12 a1 a2 b1 b2 hn
    exact ⟨shK_lo (by omega), shK_lo (by omega), shK_lo (by omega)⟩
theorem shK_back {I J : Mm} {m : Nat} {d t : Int} (h : J (m + 1) = shK I m d t (m + 1)) : shK J m (-d) t (m + 1) = I (m + 1) := by
  have hz : ∀ x, J (m + 1) (42 + 8 * x) = I (m + 1) (42 + 8 * x) := fun x => by rw [h]; exact shK_lo (by omega)
  funext i
  by_cases hc : ((m + 1 = m + 1 ∧ 42 ≤ i ∧ i < t) ∧ 2 ≤ (i - 42) % 8 ∧ (i - 42) % 8 - 2 < I (m + 1) (42 + 8 * ((i - 42) / 8)))
  · have h1 : shK J m (-d) t (m + 1) i = J (m + 1) i + -d := if_pos (by rw [hz]; exact hc)
    have h2 : J (m + 1) i = I (m + 1) i + d := by rw [h]; exact if_pos hc
    rw [h1, h2]; omega
  · have h1 : shK J m (-d) t (m + 1) i = J (m + 1) i := if_neg (by rw [hz]; exact hc)
    have h2 : J (m + 1) i = I (m + 1) i := by rw [h]; exact if_neg hc
    rw [h1, h2]
/-- keys in their order -/
theorem key_up {P : PT} (hW : Wf P) {e k : Int} (h0 : 0 ≤ e) (h1 : e < pE P) (k0 : 0 ≤ k) (k1 : k < pSz P e) : pKy P e k ≤ pKy P e (pSz P e - 1) := by
  obtain ⟨x1, x2, x3, x4⟩ := hW.2.2.1 e h0 h1
  rcases (show k = pSz P e - 1 ∨ k + 1 = pSz P e - 1 ∨ (k = 0 ∧ pSz P e = 3) by omega) with h | h | ⟨h, h'⟩
  · rw [h]; exact Int.le_refl _
  · have := x4 k k0 (by omega)
    rw [← h]; omega
  · subst h
    have a := x4 0 (by decide) (by omega)
    have b := x4 1 (by decide) (by omega)
    rw [h']
    show pKy P e 0 ≤ pKy P e 2
    rw [show (0 : Int) + 1 = 1 from rfl] at a
    rw [show (1 : Int) + 1 = 2 from rfl] at b
    omega
theorem lk_le {P : PT} (hW : Wf P) {e k : Int} (h0 : 0 ≤ e) (h1 : e < pE P) (k0 : 0 ≤ k) (k1 : k < pSz P e) : lkS P (pE P) ≤ pKy P e k ∧ pKy P e k ≤ gkS P (pE P) := by
  have w1 := hW.2.1
  have hk0 : ∀ i, 0 ≤ i → i < pE P → 21 ≤ pKy P i 0 := fun i a b => ((hW.2.2.1 i a b).2.2.1 0 (by decide) (by have := (hW.2.2.1 i a b).1; omega)).1.1
  constructor
  · have := mn_le (f := fun e => pKy P e 0) (n := pE P) w1.1 (fun i a b => by have := hk0 i a b; omega) h0 h1 (by have := hk0 e h0 h1; omega)
    have hl := key_le hW h0 h1 k0 k1
    have : lkS P (pE P) ≤ pKy P e 0 := this.2
    omega
  · have hg := itI_ind (F := fun e a => max a (pKy P e (pSz P e - 1))) (a := -1) (n := pE P) (fun i a => ∀ e', 0 ≤ e' → e' < i → pKy P e' (pSz P e' - 1) ≤ a) (fun e' a b => by omega) (fun i a i0 i1 ha e' a0 a1 => by
      by_cases hi : e' = i
      · subst hi; exact Int.le_max_right _ _
      · exact Int.le_trans (ha e' a0 (by omega)) (Int.le_max_left _ _)) w1.1
    exact Int.le_trans (key_up hW h0 h1 k0 k1) (hg e h0 h1)
/-- keys that fit -/
def fitS (P : PT) (d : Int) : Prop := pE P = 0 ∨ 21 ≤ lkS P (pE P) + d ∧ gkS P (pE P) + d ≤ 108
theorem sh_Wf {P : PT} (hW : Wf P) {d : Int} (h : fitS P d) : Wf (shP P d) := by
  obtain ⟨w0, w1, w2, w3, w4⟩ := hW
  refine ⟨w0, w1, fun e a b => ?_, w3, w4⟩
  have b : e < pE P := b
  obtain ⟨x1, x2, x3, x4⟩ := w2 e a b
  refine ⟨x1, x2, fun k k0 k1 => ⟨?_, (x3 k k0 k1).2⟩, fun k k0 k1 => ?_⟩
  · have := lk_le ⟨w0, w1, w2, w3, w4⟩ a b k0 k1
    rcases h with h | h
    · omega
    · show 21 ≤ pKy P e k + d ∧ pKy P e k + d ≤ 108
      omega
  · have := x4 k k0 k1
    show pKy P e k + d < pKy P e (k + 1) + d
    omega
theorem fit_A {P P' : PT} (h : Agr P P') (hW : Wf P) {d : Int} : fitS P d ↔ fitS P' d := by
  have hz : ∀ e, 0 ≤ e → e < pE P → 1 ≤ pSz P e := fun e a b => (hW.2.2.1 e a b).1.1
  unfold fitS
  rw [lk_A h hz, gk_A h hz, h.2.1]
/-- what it costs with other keys -/
noncomputable def cvS (P : PT) (d : Int) : Int := @ite _ (fitS P d) (Classical.propDecidable _) (if lsS P 0 = -1 then -1 else lsS P (d % 12)) (-1)
def byS (n : Int) : Int := if n % 2 = 1 then -((n + 1) / 2) else n / 2
noncomputable def ezS (P : PT) (k : Int) : Int × Int := itI (fun n (s : Int × Int) => if ¬ cvS P (byS n) = -1 ∧ (s.2 = -1 ∨ cvS P (byS n) < s.2) then (byS n, cvS P (byS n)) else s) (0, -1) k
noncomputable def rbS (P : PT) (k : Int) : Int × Int := itI (fun e (s : Int × Int) => if ¬ lrS P e = -1 ∧ (s.2 = -1 ∨ lrS P e < s.2) then (e, lrS P e) else s) (-1, lsS P 0) k
theorem ezS_s {P : PT} {k : Int} (h : 0 ≤ k) : ezS P (k + 1) = if ¬ cvS P (byS k) = -1 ∧ ((ezS P k).2 = -1 ∨ cvS P (byS k) < (ezS P k).2) then (byS k, cvS P (byS k)) else ezS P k := itI_s h
theorem rbS_s {P : PT} {k : Int} (h : 0 ≤ k) : rbS P (k + 1) = if ¬ lrS P k = -1 ∧ ((rbS P k).2 = -1 ∨ lrS P k < (rbS P k).2) then (k, lrS P k) else rbS P k := itI_s h
theorem cvS_b {P : PT} (hbd : bdP P) {d : Int} : -1 ≤ cvS P d ∧ cvS P d ≤ 1200000 := by
  have := ls_b hbd (b := d % 12)
  unfold cvS
  split
  · split <;> omega
  · decide
theorem ezS_b {P : PT} (hbd : bdP P) {k : Int} (h : 0 ≤ k) : (-k ≤ (ezS P k).1 ∧ (ezS P k).1 ≤ k) ∧ -1 ≤ (ezS P k).2 ∧ (ezS P k).2 ≤ 1200000 := by
  have := itI_ind (F := fun n (s : Int × Int) => if ¬ cvS P (byS n) = -1 ∧ (s.2 = -1 ∨ cvS P (byS n) < s.2) then (byS n, cvS P (byS n)) else s) (a := (0, -1)) (n := k) (fun k s => (-k ≤ s.1 ∧ s.1 ≤ k) ∧ -1 ≤ s.2 ∧ s.2 ≤ 1200000) (by decide) (fun i s i0 i1 hs => by
    have hc := cvS_b hbd (d := byS i)
    have hb : -(i + 1) ≤ byS i ∧ byS i ≤ i + 1 := by unfold byS; split <;> omega
    by_cases hh : ¬ cvS P (byS i) = -1 ∧ (s.2 = -1 ∨ cvS P (byS i) < s.2)
    · show (_ ≤ (if ¬ cvS P (byS i) = -1 ∧ (s.2 = -1 ∨ cvS P (byS i) < s.2) then (byS i, cvS P (byS i)) else s).1 ∧ _) ∧ _
      rw [if_pos hh]; exact ⟨hb, hc⟩
    · show (_ ≤ (if ¬ cvS P (byS i) = -1 ∧ (s.2 = -1 ∨ cvS P (byS i) < s.2) then (byS i, cvS P (byS i)) else s).1 ∧ _) ∧ _
      rw [if_neg hh]; exact ⟨by omega, hs.2⟩) h
  exact this
section MWD
variable {g : Gm} {I : Mm} {m : Nat} {P : PT}
theorem s_moves {d : Int} (hm : isM g m) (hn : 0 ≤ I (m + 1) 0 ∧ I (m + 1) 0 ≤ 40) (hs : ∀ e, 0 ≤ e → e < I (m + 1) 0 → 1 ≤ I (m + 1) (42 + 8 * e) ∧ I (m + 1) (42 + 8 * e) ≤ 3) :
    cl 244 [.ref m, .int (iI d)] (mk g I) = some (.inl none, mk g (shK I m d (42 + 8 * I (m + 1) 0 + 2 + 0))) := by
  have hm' := hm
  obtain ⟨t_0, ⟨t_1, d_1, n_1⟩, ⟨t_2, d_2, n_2⟩, ⟨t_3, d_3, n_3⟩, ⟨t_4, d_4, n_4⟩, ⟨t_5, d_5, n_5⟩, ⟨t_6, n_6⟩, ⟨t_7, d_7, n_7⟩, ⟨t_8, d_8, n_8⟩, ⟨t_9, d_9, n_9⟩, ⟨t_10, d_10, n_10⟩, ⟨t_11, d_11, n_11⟩, ⟨t_12, d_12, n_12⟩, ⟨t_13, d_13, n_13⟩, ⟨t_14, d_14, n_14⟩, ⟨t_15, n_15⟩, ⟨t_16, n_16⟩, ⟨t_17, d_17, n_17⟩, ⟨t_18, d_18, n_18⟩⟩ := hm
  have hev : ∀ t, cl 182 [.ref m] (mk g (shK I m d t)) = some (.inl (some (.int (iI (I (m + 1) 0)))), mk g (shK I m d t)) := fun t => by
    have := s_events (g := g) (I := shK I m d t) hm'
    rw [shK_lo (by omega)] at this
    exact this
  have hno : ∀ t e, 0 ≤ e → e < 40 → cl 183 [.ref m, .int (iI e)] (mk g (shK I m d t)) = some (.inl (some (.int (iI (I (m + 1) (42 + 8 * e))))), mk g (shK I m d t)) := fun t e a b => by
    have := s_notesOf (g := g) (I := shK I m d t) (e := e) hm' ⟨a, b⟩
    rw [shK_lo (by omega)] at this
    exact this
  have key := loop_up (σ := Option Value) (head := fun e o => rn 244 1 [some (.ref m), some (.int (iI d)), some (.int (iI e)), o] [] (mk g (shK I m d (42 + 8 * e + 2 + 0)))) (Inv := fun e _ => 0 ≤ e) (n := I (m + 1) 0) (by
    intro e o e1 e0
    have hz := hs e e0 e1
    have inner := loop_up (σ := Unit) (head := fun k _ => rn 244 4 [some (.ref m), some (.int (iI d)), some (.int (iI e)), some (.int (iI k))] [] (mk g (shK I m d (42 + 8 * e + 2 + k)))) (Inv := fun k _ => 0 ≤ k) (n := I (m + 1) (42 + 8 * e)) (by
      intro k s k1 k0
      have hv : shK I m d (42 + 8 * e + 2 + k) (m + 1) (42 + 8 * e + 2 + k) = I (m + 1) (42 + 8 * e + 2 + k) := shK_at (Int.le_refl _)
      have q := hno (42 + 8 * e + 2 + k) e e0 (by omega)
      refine ⟨(), ?_, by omega⟩
      show rn _ _ _ _ _ = rn _ _ _ _ _
      rw [← shK_s e0 k0 (by omega) k1]
      refine (w_244_4 (by first | assumption | omega)).trans ?_
      simp (maxSteps := 2000000) (disch := first | assumption | omega) only [aft_v, aft_n, aft_t, Nat.add_assoc, Nat.reduceAdd, if_true, if_false, not_true_eq_false, not_false_eq_true, Classical.not_not, Int.reduceAdd, Int.reduceSub, Int.reduceMul, Int.reduceNeg, Int.reduceLT, Int.reduceLE, Int.reduceEq, Int.add_zero, Int.zero_add, Int.sub_zero, w_244_5, w_244_6, q, hv, if_neg (show ¬ I (m + 1) (42 + 8 * e) ≤ k by omega)]) 0 () (by omega) (Int.le_refl _)
    obtain ⟨-, ie, -⟩ := inner
    have ie : rn 244 4 [some (.ref m), some (.int (iI d)), some (.int (iI e)), some (.int (iI 0))] [] (mk g (shK I m d (42 + 8 * e + 2 + 0))) = rn 244 4 [some (.ref m), some (.int (iI d)), some (.int (iI e)), some (.int (iI (I (m + 1) (42 + 8 * e))))] [] (mk g (shK I m d (42 + 8 * e + 2 + I (m + 1) (42 + 8 * e)))) := ie
    rw [shK_e e0 rfl (by omega) hz.2] at ie
    have q := hno (42 + 8 * (e + 1) + 2 + 0) e e0 (by omega)
    have q0 := hev (42 + 8 * e + 2 + 0)
    refine ⟨some (.int (iI (I (m + 1) (42 + 8 * e)))), ?_, by omega⟩
    show rn _ _ _ _ _ = rn _ _ _ _ _
    obtain ⟨K0, hK0⟩ : ∃ K, K = shK I m d (42 + 8 * e + 2 + 0) := ⟨_, rfl⟩
    obtain ⟨K1, hK1⟩ : ∃ K, K = shK I m d (42 + 8 * (e + 1) + 2 + 0) := ⟨_, rfl⟩
    rw [← hK0] at ie q0 ⊢
    rw [← hK1] at ie q ⊢
    refine (w_244_1 (by first | assumption | omega)).trans ?_
    simp (maxSteps := 2000000) (disch := first | assumption | omega) only [aft_v, aft_n, aft_t, Nat.add_assoc, Nat.reduceAdd, if_true, if_false, not_true_eq_false, not_false_eq_true, Classical.not_not, Int.reduceAdd, Int.reduceSub, Int.reduceMul, Int.reduceNeg, Int.reduceLT, Int.reduceLE, Int.reduceEq, Int.add_zero, Int.zero_add, Int.sub_zero, w_244_2, w_244_3, q0, if_neg (show ¬ I (m + 1) 0 ≤ e by omega)]
    rw [ie]
    refine (w_244_4 (by first | assumption | omega)).trans ?_
    simp (maxSteps := 2000000) (disch := first | assumption | omega) only [aft_v, aft_n, aft_t, Nat.add_assoc, Nat.reduceAdd, if_true, if_false, not_true_eq_false, not_false_eq_true, Classical.not_not, Int.reduceAdd, Int.reduceSub, Int.reduceMul, Int.reduceNeg, Int.reduceLT, Int.reduceLE, Int.reduceEq, Int.add_zero, Int.zero_add, Int.sub_zero, w_244_5, w_244_7, q, if_pos (Int.le_refl (I (m + 1) (42 + 8 * e)))]) 0 none hn.1 (Int.le_refl _)
  obtain ⟨o', key, -⟩ := key
  have key : rn 244 1 [some (.ref m), some (.int (iI d)), some (.int (iI 0)), none] [] (mk g (shK I m d 44)) = rn 244 1 [some (.ref m), some (.int (iI d)), some (.int (iI (I (m + 1) 0))), o'] [] (mk g (shK I m d (42 + 8 * I (m + 1) 0 + 2 + 0))) := key
  rw [shK_0] at key
  have q0 := hev (42 + 8 * I (m + 1) 0 + 2 + 0)
  obtain ⟨K1, hK1⟩ : ∃ K, K = shK I m d (42 + 8 * I (m + 1) 0 + 2 + 0) := ⟨_, rfl⟩
  rw [← hK1] at key q0 ⊢
  refine c_244.trans ?_
  refine (w_244_0).trans ?_
  refine key.trans ?_
  refine (w_244_1 (by first | assumption | omega)).trans ?_
  simp (maxSteps := 2000000) (disch := first | assumption | omega) only [aft_v, aft_n, aft_t, Nat.add_assoc, Nat.reduceAdd, if_true, if_false, not_true_eq_false, not_false_eq_true, Classical.not_not, Int.reduceAdd, Int.reduceSub, Int.reduceMul, Int.reduceNeg, Int.reduceLT, Int.reduceLE, Int.reduceEq, Int.add_zero, Int.zero_add, Int.sub_zero, w_244_2, w_244_8, q0, if_pos (Int.le_refl (I (m + 1) 0))]
theorem Wf_sz {I : Mm} {m : Nat} (hW : Wf (mv I m)) : ∀ e, 0 ≤ e → e < I (m + 1) 0 → 1 ≤ I (m + 1) (42 + 8 * e) ∧ I (m + 1) (42 + 8 * e) ≤ 3 := fun e a b => (hW.2.2.1 e a b).1
theorem s_bestMoved {L : Nat → Int → Int} {d : Int} (hm : isM g m) (hW : Wf P) (hP : P = mv I m) (hf : fitS P d) :
    ∃ I' L', cl 245 [.ref m, .int (iI d)] (mk (gL g L) I) = some (.inl (some (.int (iI (farS (if lsS P 0 = -1 then -1 else lsS P (d % 12)))))), mk (gL g L') I') ∧ frM m I I' ∧ frML m L L' := by
  have w1 := hW.2.1
  have hw : ∀ w, 0 ≤ w → w < 10 → 0 ≤ pW P w := fun w a b => (hW.2.2.2.1 w a b).1
  have hsz := Wf_sz (I := I) (m := m) (by rw [← hP]; exact hW)
  have hE : pE P = I (m + 1) 0 := by rw [hP]; rfl
  obtain ⟨T, hT⟩ : ∃ T, T = 42 + 8 * I (m + 1) 0 + 2 + 0 := ⟨_, rfl⟩
  have m1 := s_moves (g := gL g L) (I := I) (d := d) hm (by rw [← hE]; exact w1) hsz
  have hA := agr_sh (I := I) (m := m) (d := d) (by omega) (fun e a b => (hsz e a b).2)
  rw [← hT] at m1 hA
  rw [← hP] at hA
  have hWs := sh_Wf hW hf
  have hW1 : Wf (mv (shK I m d T) m) := hWs.agr hA.symm
  obtain ⟨J, L1, j1, j2, j3, j4⟩ := s_bestNow (g := g) (I := shK I m d T) (L := L) (P := mv (shK I m d T) m) hm hW1 rfl
  have hls : lsS (mv (shK I m d T) m) 0 = if lsS P 0 = -1 then -1 else lsS P (d % 12) := by
    rw [ls_A hA hW1, ls_sh hw]
    split
    · exact ls_none hW (by assumption)
    · rfl
  rw [hls] at j1
  have jm : J (m + 1) = shK I m d T (m + 1) := j2 _ (by omega) (by omega) (by omega) (by omega) (by omega)
  have jz : ∀ x, J (m + 1) (42 + 8 * x) = I (m + 1) (42 + 8 * x) := fun x => by rw [jm]; exact shK_lo (by omega)
  have j0 : J (m + 1) 0 = I (m + 1) 0 := by rw [jm]; exact shK_lo (by omega)
  have m2 := s_moves (g := gL g L1) (I := J) (d := -d) hm (by rw [j0, ← hE]; exact w1) (fun e a b => by rw [jz]; rw [j0] at b; exact hsz e a b)
  rw [j0, ← hT] at m2
  have hbk := shK_back jm
  refine ⟨shK J m (-d) T, L1, ?_, fun p h1 h2 h3 h4 h5 => ?_, j3⟩
  · obtain ⟨K1, hK1⟩ : ∃ K, K = shK I m d T := ⟨_, rfl⟩
    obtain ⟨K2, hK2⟩ : ∃ K, K = shK J m (-d) T := ⟨_, rfl⟩
    rw [← hK1] at m1 j1
    rw [← hK2] at m2 ⊢
    have h6 : (gL g L).1 m = sX6 m := hm.1
    have h7 : (gL g L1).1 m = sX6 m := hm.1
    simp (maxSteps := 2000000) (disch := first | assumption | omega) only [aft_v, aft_n, aft_t, Nat.add_assoc, Nat.reduceAdd, if_true, if_false, not_true_eq_false, not_false_eq_true, Classical.not_not, Int.reduceAdd, Int.reduceSub, Int.reduceMul, Int.reduceNeg, Int.reduceLT, Int.reduceLE, Int.reduceEq, Int.add_zero, Int.zero_add, Int.sub_zero, c_245, w_245_0, w_245_1, w_245_2, w_245_3, m1, j1, m2]
  · by_cases hp : p = m + 1
    · subst hp; exact hbk
    · rw [shK_p hp, j2 p h1 h2 h3 h4 h5, shK_p hp]
theorem fit_of {d : Int} (hP : P = mv I m) : (I (m + 1) 0 = 0 ∨ 21 ≤ lkS (mv I m) (I (m + 1) 0) + d ∧ gkS (mv I m) (I (m + 1) 0) + d ≤ 108) ↔ fitS P d := by rw [hP]; exact Iff.rfl
theorem s_canMove' {d : Int} (hm : isM g m) (hW : Wf P) (hP : P = mv I m) (hd : (-2147483648 ≤ d ∧ d < 2147483648)) : cl 243 [.ref m, .int (iI d)] (mk g I) = some (.inl (some (.int (iI (@ite _ ((-87 ≤ d ∧ d ≤ 87) ∧ fitS P d) (Classical.propDecidable _) 1 0)))), mk g I) := by
  rw [s_canMove hm (by rw [← hP]; exact hW) hd]
  refine ans_i ?_
  have := fit_of (I := I) (m := m) (P := P) (d := d) hP
  by_cases h : (-87 ≤ d ∧ d ≤ 87) ∧ fitS P d
  · rw [if_pos ⟨h.1, this.mpr h.2⟩, if_pos h]
  · rw [if_neg (fun z => h ⟨z.1, this.mp z.2⟩), if_neg h]
theorem s_transposedM {L : Nat → Int → Int} {d : Int} (hm : isM g m) (hW : Wf P) (hP : P = mv I m) (hd : -87 ≤ d ∧ d ≤ 87) (hf : fitS P d) :
    ∃ I' L', cl 246 [.ref m, .int (iI d)] (mk (gL g L) I) = some (.inl (some (.int (iI (if lsS P 0 = -1 then -1 else lsS P (d % 12))))), mk (gL g L') I') ∧ frQ m 0 I I' ∧ frML m L L' := by
  have q := s_canMove' (g := gL g L) (I := I) (d := d) hm hW hP (by omega)
  rw [if_pos ⟨hd, hf⟩] at q
  obtain ⟨J, L1, j1, j2, j3⟩ := s_bestMoved (g := g) (I := upd2 I m 7 0) (L := L) (d := d) hm hW (by rw [mv_u]; exact hP) hf
  have hbd := Wf_bd hW
  have lsb := ls_b hbd (b := d % 12)
  have hb : -1 ≤ (if lsS P 0 = -1 then -1 else lsS P (d % 12)) ∧ (if lsS P 0 = -1 then -1 else lsS P (d % 12)) ≤ 1200000 := by split <;> omega
  have fb := far_b hb (by decide)
  have q2 := s_orNone (g := gL g L1) (I := J) (a := farS (if lsS P 0 = -1 then -1 else lsS P (d % 12))) (by omega)
  rw [far_back hb (by decide)] at q2
  obtain ⟨v, hv⟩ : ∃ v, v = (if lsS P 0 = -1 then -1 else lsS P (d % 12)) := ⟨_, rfl⟩
  rw [← hv] at j1 q2 ⊢
  refine ⟨J, L1, ?_, frQ_fC frQ_u (frM_C j2), j3⟩
  have u7 : upd2 I m 7 0 m 7 = 0 := upd2_at
  obtain ⟨t_0, ⟨t_1, d_1, n_1⟩, ⟨t_2, d_2, n_2⟩, ⟨t_3, d_3, n_3⟩, ⟨t_4, d_4, n_4⟩, ⟨t_5, d_5, n_5⟩, ⟨t_6, n_6⟩, ⟨t_7, d_7, n_7⟩, ⟨t_8, d_8, n_8⟩, ⟨t_9, d_9, n_9⟩, ⟨t_10, d_10, n_10⟩, ⟨t_11, d_11, n_11⟩, ⟨t_12, d_12, n_12⟩, ⟨t_13, d_13, n_13⟩, ⟨t_14, d_14, n_14⟩, ⟨t_15, n_15⟩, ⟨t_16, n_16⟩, ⟨t_17, d_17, n_17⟩, ⟨t_18, d_18, n_18⟩⟩ := hm
  simp (maxSteps := 2000000) (disch := first | assumption | omega | (simp (disch := omega) only [gL_gL, gL_21, gtL, gnL, gL_1, gL_gL, gL_21, upd2_p]; first | assumption | omega)) only [gL_gL, gL_21, aft_v, aft_n, aft_t, Nat.add_assoc, Nat.reduceAdd, if_true, if_false, not_true_eq_false, not_false_eq_true, Classical.not_not, Int.reduceAdd, Int.reduceSub, Int.reduceMul, Int.reduceNeg, Int.reduceLT, Int.reduceLE, Int.reduceEq, Int.add_zero, Int.zero_add, Int.sub_zero, c_246, w_246_0, w_246_1, w_246_2, w_246_4, w_246_6, w_246_7, w_246_8, q, u7, j1, q2, show ¬ (1 : Int) = 0 by decide, if_pos (Int.le_refl 0)]
theorem s_transposedBad {d : Int} (hm : isM g m) (hW : Wf P) (hP : P = mv I m) (hd : (-2147483648 ≤ d ∧ d < 2147483648)) (h : ¬ ((-87 ≤ d ∧ d ≤ 87) ∧ fitS P d)) : cl 246 [.ref m, .int (iI d)] (mk g I) = some (.inl (some (.int (iI 0))), mk g (upd2 I m 7 1)) := by
  have q := s_canMove' (g := g) (I := I) (d := d) hm hW hP hd
  rw [if_neg h] at q
  have u7 : upd2 I m 7 1 m 7 = 1 := upd2_at
  obtain ⟨t_0, ⟨t_1, d_1, n_1⟩, ⟨t_2, d_2, n_2⟩, ⟨t_3, d_3, n_3⟩, ⟨t_4, d_4, n_4⟩, ⟨t_5, d_5, n_5⟩, ⟨t_6, n_6⟩, ⟨t_7, d_7, n_7⟩, ⟨t_8, d_8, n_8⟩, ⟨t_9, d_9, n_9⟩, ⟨t_10, d_10, n_10⟩, ⟨t_11, d_11, n_11⟩, ⟨t_12, d_12, n_12⟩, ⟨t_13, d_13, n_13⟩, ⟨t_14, d_14, n_14⟩, ⟨t_15, n_15⟩, ⟨t_16, n_16⟩, ⟨t_17, d_17, n_17⟩, ⟨t_18, d_18, n_18⟩⟩ := hm
  simp (maxSteps := 2000000) (disch := first | assumption | omega) only [aft_v, aft_n, aft_t, Nat.add_assoc, Nat.reduceAdd, if_true, if_false, not_true_eq_false, not_false_eq_true, Classical.not_not, Int.reduceAdd, Int.reduceSub, Int.reduceMul, Int.reduceNeg, Int.reduceLT, Int.reduceLE, Int.reduceEq, Int.add_zero, Int.zero_add, Int.sub_zero, c_246, w_246_0, w_246_1, w_246_3, w_246_4, w_246_5, w_246_8, q, u7, if_neg (show ¬ (1 : Int) ≤ 0 by decide)]
theorem s_otherHandM {L : Nat → Int → Int} (hm : isM g m) (hW : Wf P) (hP : P = mv I m) :
    ∃ I' L', cl 242 [.ref m] (mk (gL g L) I) = some (.inl (some (.int (iI (lsS (ohP P (1 - pR P)) 0)))), mk (gL g L') I') ∧ frQ m 0 I I' ∧ frML m L L' := by
  have hsz := Wf_sz (I := I) (m := m) (by rw [← hP]; exact hW)
  have w0 := hW.1
  have hr : I (m + 1) 1 = pR P := by rw [hP]; rfl
  have u1 : upd2 I m 7 0 (m + 1) 1 = pR P := by rw [upd2_p (by omega)]; exact hr
  obtain ⟨K, hK⟩ : ∃ K, K = upd2 (upd2 I m 7 0) (m + 1) 1 (1 - pR P) := ⟨_, rfl⟩
  have hA : Agr (mv K m) (ohP P (1 - pR P)) := by
    have := agr_oh (I := upd2 I m 7 0) (m := m) (r := 1 - pR P) (fun e a b => by rw [upd2_p (by omega)]; rw [upd2_p (by omega)] at b; exact (hsz e a b).2)
    rw [hK]
    rw [mv_u] at this
    rw [← hP] at this
    exact this
  have hWo : Wf (ohP P (1 - pR P)) := oh_Wf hW (by omega)
  have hWK := hWo.agr hA.symm
  obtain ⟨J, L1, j1, j2, j3, j4⟩ := s_bestNow (g := g) (I := K) (L := L) (P := mv K m) hm hWK rfl
  rw [ls_A hA hWK] at j1
  have jm : J (m + 1) = K (m + 1) := j2 _ (by omega) (by omega) (by omega) (by omega) (by omega)
  have jr : J (m + 1) 1 = 1 - pR P := by rw [jm, hK, upd2_at]
  have hbd := Wf_bd hWo
  have lsb := ls_b hbd (b := 0)
  have fb := far_b lsb (by decide)
  have q2 := s_orNone (g := gL g L1) (I := upd2 J (m + 1) 1 (pR P)) (a := farS (lsS (ohP P (1 - pR P)) 0)) (by omega)
  rw [far_back lsb (by decide)] at q2
  refine ⟨upd2 J (m + 1) 1 (pR P), L1, ?_, ⟨fun p hp hq => ?_, fun i hi => ?_, ?_⟩, j3⟩
  · obtain ⟨t_0, ⟨t_1, d_1, n_1⟩, ⟨t_2, d_2, n_2⟩, ⟨t_3, d_3, n_3⟩, ⟨t_4, d_4, n_4⟩, ⟨t_5, d_5, n_5⟩, ⟨t_6, n_6⟩, ⟨t_7, d_7, n_7⟩, ⟨t_8, d_8, n_8⟩, ⟨t_9, d_9, n_9⟩, ⟨t_10, d_10, n_10⟩, ⟨t_11, d_11, n_11⟩, ⟨t_12, d_12, n_12⟩, ⟨t_13, d_13, n_13⟩, ⟨t_14, d_14, n_14⟩, ⟨t_15, n_15⟩, ⟨t_16, n_16⟩, ⟨t_17, d_17, n_17⟩, ⟨t_18, d_18, n_18⟩⟩ := hm
    have e1 : 1 - (1 - pR P) = pR P := by omega
    simp (maxSteps := 2000000) (disch := first | assumption | omega | (simp (disch := omega) only [gL_gL, gL_21, gtL, gnL, gL_1, gL_gL, gL_21, upd2_p]; first | assumption | omega)) only [gL_gL, gL_21, aft_v, aft_n, aft_t, Nat.add_assoc, Nat.reduceAdd, if_true, if_false, not_true_eq_false, not_false_eq_true, Classical.not_not, Int.reduceAdd, Int.reduceSub, Int.reduceMul, Int.reduceNeg, Int.reduceLT, Int.reduceLE, Int.reduceEq, Int.add_zero, Int.zero_add, Int.sub_zero, c_242, w_242_0, u1]
    rw [← hK]
    simp (maxSteps := 2000000) (disch := first | assumption | omega | (simp (disch := omega) only [gL_gL, gL_21, gtL, gnL, gL_1, gL_gL, gL_21, upd2_p]; first | assumption | omega)) only [gL_gL, gL_21, aft_v, aft_n, aft_t, Nat.add_assoc, Nat.reduceAdd, if_true, if_false, not_true_eq_false, not_false_eq_true, Classical.not_not, Int.reduceAdd, Int.reduceSub, Int.reduceMul, Int.reduceNeg, Int.reduceLT, Int.reduceLE, Int.reduceEq, Int.add_zero, Int.zero_add, Int.sub_zero, w_242_1, w_242_2, j1, jr, e1, q2]
  · by_cases hp1 : p = m + 1
    · subst hp1
      funext i
      by_cases hi : i = 1
      · subst hi; rw [upd2_at, hr]
      · rw [upd2_i hi, jm, hK, upd2_i hi, upd2_p (by omega)]
    · funext i
      rw [upd2_p hp1, j2 p (by omega) (by omega) (by omega) (by omega) (by omega), hK, upd2_p hp1, upd2_p hp]
  · rw [upd2_p (by omega), j2 m (by omega) (by omega) (by omega) (by omega) (by omega), hK, upd2_p (by omega), upd2_i hi]
  · rw [upd2_p (by omega), j2 m (by omega) (by omega) (by omega) (by omega) (by omega), hK, upd2_p (by omega), upd2_at]
theorem frM_t {I J K : Mm} (h : frM m I J) (h' : frM m J K) : frM m I K := fun p a b c d e => (h' p a b c d e).trans (h p a b c d e)
theorem s_easiestM {L : Nat → Int → Int} {r : Int} (hm : isM g m) (hW : Wf P) (hP : P = mv I m) (hr : 0 ≤ r ∧ r ≤ 24) :
    ∃ I' L', cl 247 [.ref m, .int (iI r)] (mk (gL g L) I) = some (.inl (some (.int (iI (if (ezS P (2 * r + 1)).2 = -1 then 0 else (ezS P (2 * r + 1)).1)))), mk (gL g L') I') ∧ frQ m (if (ezS P (2 * r + 1)).2 = -1 then 2 else 0) I I' ∧ frML m L L' := by
  have hbd := Wf_bd hW
  have q := s_isIn (g := gL g L) (I := I) (a := r) (b := 0) (c := 24) (by omega) (by omega) (by omega)
  rw [if_pos hr] at q
  have u7 : upd2 I m 7 0 m 7 = 0 := upd2_at
  have key := loop_up (σ := Mm × (Nat → Int → Int) × Option Value × Option Value) (head := fun n s => rn 247 7 [some (.ref m), some (.int (iI r)), some (.int (iI (ezS P n).1)), some (.int (iI (farS (ezS P n).2))), some (.int (iI n)), s.2.2.1, s.2.2.2] [] (mk (gL g s.2.1) s.1)) (Inv := fun n s => 0 ≤ n ∧ frM m (upd2 I m 7 0) s.1 ∧ frML m L s.2.1) (n := 2 * r + 1) (by
    rintro n ⟨J, L1, o5, o6⟩ n1 ⟨n0, hJ, hL⟩
    have hJ : frM m (upd2 I m 7 0) J := hJ
    have hL : frML m L L1 := hL
    have pJ : P = mv J m := by rw [hP]; unfold mv; rw [hJ (m + 1) (by omega) (by omega) (by omega) (by omega) (by omega)]; exact (congrArg rv (funext fun j => upd2_p (by omega))).symm
    have eb := ezS_b hbd n0
    have fe := far_b eb.2 (by decide)
    have bb : -25 ≤ byS n ∧ byS n ≤ 25 := by unfold byS; split <;> omega
    have cb := cvS_b hbd (d := byS n)
    have fc := far_b cb (by decide)
    have td : Int.tmod n 2 = n % 2 := tm_nn n0
    have td1 : Int.tdiv n 2 = n / 2 := td_nn n0
    have td2 : Int.tdiv (-(n + 1)) 2 = -((n + 1) / 2) := by rw [Int.neg_tdiv, td_nn (by omega)]
    -- by
    have B : rn 247 7 [some (.ref m), some (.int (iI r)), some (.int (iI (ezS P n).1)), some (.int (iI (farS (ezS P n).2))), some (.int (iI n)), o5, o6] [] (mk (gL g L1) J) = rn 247 11 [some (.ref m), some (.int (iI r)), some (.int (iI (ezS P n).1)), some (.int (iI (farS (ezS P n).2))), some (.int (iI n)), o5, o6] [.int (iI (byS n))] (mk (gL g L1) J) := by
      refine (w_247_7 (by first | assumption | omega) (by first | assumption | omega) (by first | assumption | omega) (by first | assumption | omega)).trans ?_
      refine (if_neg (by omega)).trans ?_
      by_cases h1 : n % 2 = 1
      · have : byS n = -((n + 1) / 2) := by unfold byS; rw [if_pos h1]
        rw [this]
        simp (maxSteps := 2000000) (disch := first | assumption | omega) only [aft_v, aft_n, aft_t, Nat.add_assoc, Nat.reduceAdd, if_true, if_false, not_true_eq_false, not_false_eq_true, Classical.not_not, Int.reduceAdd, Int.reduceSub, Int.reduceMul, Int.reduceNeg, Int.reduceLT, Int.reduceLE, Int.reduceEq, Int.add_zero, Int.zero_add, Int.sub_zero, w_247_8, w_247_9, td, td2, h1]
      · have : byS n = n / 2 := by unfold byS; rw [if_neg h1]
        rw [this]
        simp (maxSteps := 2000000) (disch := first | assumption | omega) only [aft_v, aft_n, aft_t, Nat.add_assoc, Nat.reduceAdd, if_true, if_false, not_true_eq_false, not_false_eq_true, Classical.not_not, Int.reduceAdd, Int.reduceSub, Int.reduceMul, Int.reduceNeg, Int.reduceLT, Int.reduceLE, Int.reduceEq, Int.add_zero, Int.zero_add, Int.sub_zero, w_247_8, w_247_10, td, td1, h1]
    have q1 := s_canMove' (g := gL g L1) (I := J) (d := byS n) hm hW pJ (by omega)
    -- the cost
    have C : ∃ J2 L2, rn 247 11 [some (.ref m), some (.int (iI r)), some (.int (iI (ezS P n).1)), some (.int (iI (farS (ezS P n).2))), some (.int (iI n)), o5, o6] [.int (iI (byS n))] (mk (gL g L1) J) = rn 247 16 [some (.ref m), some (.int (iI r)), some (.int (iI (ezS P n).1)), some (.int (iI (farS (ezS P n).2))), some (.int (iI n)), some (.int (iI (byS n))), o6] [.int (iI (farS (cvS P (byS n))))] (mk (gL g L2) J2) ∧ frM m J J2 ∧ frML m L1 L2 := by
      have h6 : (gL g L1).1 m = sX6 m := hm.1
      by_cases hf : fitS P (byS n)
      · rw [if_pos ⟨by omega, hf⟩] at q1
        have hc : cvS P (byS n) = if lsS P 0 = -1 then -1 else lsS P (byS n % 12) := by unfold cvS; rw [if_pos hf]
        obtain ⟨J2, L2, a1, a2, a3⟩ := s_bestMoved (g := g) (I := J) (L := L1) (d := byS n) hm hW pJ hf
        rw [← hc] at a1
        refine ⟨J2, L2, ?_, a2, a3⟩
        simp (maxSteps := 2000000) (disch := first | assumption | omega) only [aft_v, aft_n, aft_t, Nat.add_assoc, Nat.reduceAdd, if_true, if_false, not_true_eq_false, not_false_eq_true, Classical.not_not, Int.reduceAdd, Int.reduceSub, Int.reduceMul, Int.reduceNeg, Int.reduceLT, Int.reduceLE, Int.reduceEq, Int.add_zero, Int.zero_add, Int.sub_zero, w_247_11, w_247_12, w_247_13, w_247_14, q1, a1, show ¬ (1 : Int) = 0 by decide]
      · rw [if_neg (fun z => hf z.2)] at q1
        have hc : cvS P (byS n) = -1 := by unfold cvS; rw [if_neg hf]
        rw [hc, show farS (-1) = 1000000000 from rfl]
        refine ⟨J, L1, ?_, fun _ _ _ _ _ _ => rfl, fun _ _ _ => rfl⟩
        simp (maxSteps := 2000000) (disch := first | assumption | omega) only [aft_v, aft_n, aft_t, Nat.add_assoc, Nat.reduceAdd, if_true, if_false, not_true_eq_false, not_false_eq_true, Classical.not_not, Int.reduceAdd, Int.reduceSub, Int.reduceMul, Int.reduceNeg, Int.reduceLT, Int.reduceLE, Int.reduceEq, Int.add_zero, Int.zero_add, Int.sub_zero, w_247_11, w_247_12, w_247_15, q1]
    obtain ⟨J2, L2, c1, c2, c3⟩ := C
    refine ⟨(J2, L2, some (.int (iI (byS n))), some (.int (iI (farS (cvS P (byS n)))))), ?_, by omega, frM_t hJ c2, fun p h1 h2 => (c3 p h1 h2).trans (hL p h1 h2)⟩
    show rn _ _ _ _ _ = rn _ _ _ _ _
    rw [B, c1, ezS_s n0]
    by_cases hc : ¬ cvS P (byS n) = -1 ∧ ((ezS P n).2 = -1 ∨ cvS P (byS n) < (ezS P n).2)
    · rw [if_pos hc]
      have hlt : farS (cvS P (byS n)) < farS (ezS P n).2 := by unfold farS; (repeat' split) <;> omega
      simp (maxSteps := 2000000) (disch := first | assumption | omega) only [aft_v, aft_n, aft_t, Nat.add_assoc, Nat.reduceAdd, if_true, if_false, not_true_eq_false, not_false_eq_true, Classical.not_not, Int.reduceAdd, Int.reduceSub, Int.reduceMul, Int.reduceNeg, Int.reduceLT, Int.reduceLE, Int.reduceEq, Int.add_zero, Int.zero_add, Int.sub_zero, w_247_16, w_247_18, w_247_19, if_pos hlt]
    · rw [if_neg hc]
      have hlt : ¬ farS (cvS P (byS n)) < farS (ezS P n).2 := fun h => hc (by unfold farS at h; (repeat' split at h) <;> omega)
      simp (maxSteps := 2000000) (disch := first | assumption | omega) only [aft_v, aft_n, aft_t, Nat.add_assoc, Nat.reduceAdd, if_true, if_false, not_true_eq_false, not_false_eq_true, Classical.not_not, Int.reduceAdd, Int.reduceSub, Int.reduceMul, Int.reduceNeg, Int.reduceLT, Int.reduceLE, Int.reduceEq, Int.add_zero, Int.zero_add, Int.sub_zero, w_247_16, w_247_17, w_247_19, if_neg hlt]) 0 (upd2 I m 7 0, L, none, none) (by omega) ⟨Int.le_refl _, fun _ _ _ _ _ _ => rfl, fun _ _ _ => rfl⟩
  obtain ⟨⟨J, L1, o5, o6⟩, k1, -, k2, k3⟩ := key
  have k1 : rn 247 7 [some (.ref m), some (.int (iI r)), some (.int (iI 0)), some (.int (iI 1000000000)), some (.int (iI 0)), none, none] [] (mk (gL g L) (upd2 I m 7 0)) = rn 247 7 [some (.ref m), some (.int (iI r)), some (.int (iI (ezS P (2 * r + 1)).1)), some (.int (iI (farS (ezS P (2 * r + 1)).2))), some (.int (iI (2 * r + 1))), o5, o6] [] (mk (gL g L1) J) := k1
  have k2 : frM m (upd2 I m 7 0) J := k2
  have eb := ezS_b hbd (k := 2 * r + 1) (by omega)
  have fe := far_b eb.2 (by decide)
  have jm : J m = upd2 I m 7 0 m := k2 m (by omega) (by omega) (by omega) (by omega) (by omega)
  have fQ : ∀ t, frQ m t I (upd2 J m 7 t) := fun t => ⟨fun p hp hq => by rw [show upd2 J m 7 t p = J p from funext fun j => upd2_p hp, k2 p (by omega) (by omega) (by omega) (by omega) (by omega)]; exact funext fun j => upd2_p hp, fun i hi => by rw [upd2_i hi, jm, upd2_i hi], upd2_at⟩
  have start : ∀ R, rn 247 7 [some (.ref m), some (.int (iI r)), some (.int (iI (ezS P (2 * r + 1)).1)), some (.int (iI (farS (ezS P (2 * r + 1)).2))), some (.int (iI (2 * r + 1))), o5, o6] [] (mk (gL g L1) J) = R → cl 247 [.ref m, .int (iI r)] (mk (gL g L) I) = R := by
    intro R hR
    obtain ⟨t_0, ⟨t_1, d_1, n_1⟩, ⟨t_2, d_2, n_2⟩, ⟨t_3, d_3, n_3⟩, ⟨t_4, d_4, n_4⟩, ⟨t_5, d_5, n_5⟩, ⟨t_6, n_6⟩, ⟨t_7, d_7, n_7⟩, ⟨t_8, d_8, n_8⟩, ⟨t_9, d_9, n_9⟩, ⟨t_10, d_10, n_10⟩, ⟨t_11, d_11, n_11⟩, ⟨t_12, d_12, n_12⟩, ⟨t_13, d_13, n_13⟩, ⟨t_14, d_14, n_14⟩, ⟨t_15, n_15⟩, ⟨t_16, n_16⟩, ⟨t_17, d_17, n_17⟩, ⟨t_18, d_18, n_18⟩⟩ := hm
    simp (maxSteps := 2000000) (disch := first | assumption | omega | (simp (disch := omega) only [gL_gL, gL_21, gtL, gnL, gL_1, gL_gL, gL_21, upd2_p]; first | assumption | omega)) only [gL_gL, gL_21, aft_v, aft_n, aft_t, Nat.add_assoc, Nat.reduceAdd, if_true, if_false, not_true_eq_false, not_false_eq_true, Classical.not_not, Int.reduceAdd, Int.reduceSub, Int.reduceMul, Int.reduceNeg, Int.reduceLT, Int.reduceLE, Int.reduceEq, Int.add_zero, Int.zero_add, Int.sub_zero, c_247, w_247_0, w_247_1, w_247_2, w_247_4, w_247_6, q, u7, show ¬ (1 : Int) = 0 by decide, if_pos (Int.le_refl 0)]
    rw [k1]
    exact hR
  by_cases h1 : (ezS P (2 * r + 1)).2 = -1
  · rw [if_pos h1, if_pos h1]
    refine ⟨upd2 J m 7 2, L1, start _ ?_, fQ 2, k3⟩
    have u2 : upd2 J m 7 2 m 7 = 2 := upd2_at
    rw [h1, show farS (-1) = 1000000000 from rfl]
    obtain ⟨t_0, ⟨t_1, d_1, n_1⟩, ⟨t_2, d_2, n_2⟩, ⟨t_3, d_3, n_3⟩, ⟨t_4, d_4, n_4⟩, ⟨t_5, d_5, n_5⟩, ⟨t_6, n_6⟩, ⟨t_7, d_7, n_7⟩, ⟨t_8, d_8, n_8⟩, ⟨t_9, d_9, n_9⟩, ⟨t_10, d_10, n_10⟩, ⟨t_11, d_11, n_11⟩, ⟨t_12, d_12, n_12⟩, ⟨t_13, d_13, n_13⟩, ⟨t_14, d_14, n_14⟩, ⟨t_15, n_15⟩, ⟨t_16, n_16⟩, ⟨t_17, d_17, n_17⟩, ⟨t_18, d_18, n_18⟩⟩ := hm
    refine (w_247_7 (by first | assumption | omega) (by first | assumption | omega) (by first | assumption | omega) (by first | assumption | omega)).trans ?_
    refine (if_pos (by omega)).trans ?_
    simp (maxSteps := 2000000) (disch := first | assumption | omega | (simp (disch := omega) only [gL_gL, gL_21, gtL, gnL, gL_1, gL_gL, gL_21, upd2_p]; first | assumption | omega)) only [gL_gL, gL_21, aft_v, aft_n, aft_t, Nat.add_assoc, Nat.reduceAdd, if_true, if_false, not_true_eq_false, not_false_eq_true, Classical.not_not, Int.reduceAdd, Int.reduceSub, Int.reduceMul, Int.reduceNeg, Int.reduceLT, Int.reduceLE, Int.reduceEq, Int.add_zero, Int.zero_add, Int.sub_zero, w_247_20, w_247_22, w_247_23, w_247_24, w_247_26, u2, if_neg (show ¬ (2 : Int) ≤ 0 by decide)]
  · rw [if_neg h1, if_neg h1]
    refine ⟨upd2 J m 7 0, L1, start _ ?_, fQ 0, k3⟩
    have u2 : upd2 J m 7 0 m 7 = 0 := upd2_at
    have f1 : farS (ezS P (2 * r + 1)).2 = (ezS P (2 * r + 1)).2 := by unfold farS; rw [if_neg h1]
    rw [f1]
    obtain ⟨t_0, ⟨t_1, d_1, n_1⟩, ⟨t_2, d_2, n_2⟩, ⟨t_3, d_3, n_3⟩, ⟨t_4, d_4, n_4⟩, ⟨t_5, d_5, n_5⟩, ⟨t_6, n_6⟩, ⟨t_7, d_7, n_7⟩, ⟨t_8, d_8, n_8⟩, ⟨t_9, d_9, n_9⟩, ⟨t_10, d_10, n_10⟩, ⟨t_11, d_11, n_11⟩, ⟨t_12, d_12, n_12⟩, ⟨t_13, d_13, n_13⟩, ⟨t_14, d_14, n_14⟩, ⟨t_15, n_15⟩, ⟨t_16, n_16⟩, ⟨t_17, d_17, n_17⟩, ⟨t_18, d_18, n_18⟩⟩ := hm
    refine (w_247_7 (by first | assumption | omega) (by first | assumption | omega) (by first | assumption | omega) (by first | assumption | omega)).trans ?_
    refine (if_pos (by omega)).trans ?_
    simp (maxSteps := 2000000) (disch := first | assumption | omega | (simp (disch := omega) only [gL_gL, gL_21, gtL, gnL, gL_1, gL_gL, gL_21, upd2_p]; first | assumption | omega)) only [gL_gL, gL_21, aft_v, aft_n, aft_t, Nat.add_assoc, Nat.reduceAdd, if_true, if_false, not_true_eq_false, not_false_eq_true, Classical.not_not, Int.reduceAdd, Int.reduceSub, Int.reduceMul, Int.reduceNeg, Int.reduceLT, Int.reduceLE, Int.reduceEq, Int.add_zero, Int.zero_add, Int.sub_zero, w_247_20, w_247_21, w_247_23, w_247_25, w_247_26, u2, if_neg (show ¬ 1000000000 ≤ (ezS P (2 * r + 1)).2 by omega), if_pos (Int.le_refl 0)]
theorem s_easiestBad {r : Int} (hm : isM g m) (hrr : (-2147483648 ≤ r ∧ r < 2147483648)) (hr : ¬ (0 ≤ r ∧ r ≤ 24)) : cl 247 [.ref m, .int (iI r)] (mk g I) = some (.inl (some (.int (iI 0))), mk g (upd2 I m 7 1)) := by
  have q := s_isIn (g := g) (I := I) (a := r) (b := 0) (c := 24) (by omega) (by omega) (by omega)
  rw [if_neg hr] at q
  have u7 : upd2 I m 7 1 m 7 = 1 := upd2_at
  obtain ⟨t_0, ⟨t_1, d_1, n_1⟩, ⟨t_2, d_2, n_2⟩, ⟨t_3, d_3, n_3⟩, ⟨t_4, d_4, n_4⟩, ⟨t_5, d_5, n_5⟩, ⟨t_6, n_6⟩, ⟨t_7, d_7, n_7⟩, ⟨t_8, d_8, n_8⟩, ⟨t_9, d_9, n_9⟩, ⟨t_10, d_10, n_10⟩, ⟨t_11, d_11, n_11⟩, ⟨t_12, d_12, n_12⟩, ⟨t_13, d_13, n_13⟩, ⟨t_14, d_14, n_14⟩, ⟨t_15, n_15⟩, ⟨t_16, n_16⟩, ⟨t_17, d_17, n_17⟩, ⟨t_18, d_18, n_18⟩⟩ := hm
  simp (maxSteps := 2000000) (disch := first | assumption | omega) only [aft_v, aft_n, aft_t, Nat.add_assoc, Nat.reduceAdd, if_true, if_false, not_true_eq_false, not_false_eq_true, Classical.not_not, Int.reduceAdd, Int.reduceSub, Int.reduceMul, Int.reduceNeg, Int.reduceLT, Int.reduceLE, Int.reduceEq, Int.add_zero, Int.zero_add, Int.sub_zero, c_247, w_247_0, w_247_1, w_247_3, w_247_4, w_247_5, q, u7, if_neg (show ¬ (1 : Int) ≤ 0 by decide)]
theorem lrS_b (hW : Wf P) {e : Int} (e0 : 0 ≤ e) (e1 : e + 1 < pE P) : -1 ≤ lrS P e ∧ lrS P e ≤ 1200000 := by
  rw [lr_ls hW e0 e1]
  exact ls_b (Wf_bd (rs_Wf hW (by decide)))
theorem rbS_b (hW : Wf P) {k : Int} (h : 0 ≤ k) (h1 : k ≤ max 0 (pE P - 1)) : (-1 ≤ (rbS P k).1 ∧ (rbS P k).1 ≤ 40) ∧ -1 ≤ (rbS P k).2 ∧ (rbS P k).2 ≤ 1200000 := by
  have lsb := ls_b (Wf_bd hW) (b := 0)
  have w1 := hW.2.1
  have := itI_ind (F := fun e (s : Int × Int) => if ¬ lrS P e = -1 ∧ (s.2 = -1 ∨ lrS P e < s.2) then (e, lrS P e) else s) (a := (-1, lsS P 0)) (n := k) (fun k s => (-1 ≤ s.1 ∧ s.1 ≤ 40) ∧ -1 ≤ s.2 ∧ s.2 ≤ 1200000) ⟨⟨by show (-1 : Int) ≤ -1; decide, by show (-1 : Int) ≤ 40; decide⟩, lsb⟩ (fun i s i0 i1 hs => by
    have hc := lrS_b hW i0 (by omega)
    by_cases hh : ¬ lrS P i = -1 ∧ (s.2 = -1 ∨ lrS P i < s.2)
    · show (_ ≤ (if ¬ lrS P i = -1 ∧ (s.2 = -1 ∨ lrS P i < s.2) then (i, lrS P i) else s).1 ∧ _) ∧ _
      rw [if_pos hh]; exact ⟨⟨by show -1 ≤ i; omega, by show i ≤ 40; omega⟩, hc⟩
    · show (_ ≤ (if ¬ lrS P i = -1 ∧ (s.2 = -1 ∨ lrS P i < s.2) then (i, lrS P i) else s).1 ∧ _) ∧ _
      rw [if_neg hh]; exact hs) h
  exact this
theorem s_restBehindM {L : Nat → Int → Int} (hm : isM g m) (hW : Wf P) (hP : P = mv I m) :
    ∃ I' L', cl 248 [.ref m] (mk (gL g L) I) = some (.inl (some (.int (iI (rbS P (max 0 (pE P - 1))).1))), mk (gL g L') I') ∧ frQ m 0 I I' ∧ frML m L L' := by
  have hbd := Wf_bd hW
  have w1 := hW.2.1
  have lsb := ls_b hbd (b := 0)
  have hE : pE P = I (m + 1) 0 := by rw [hP]; rfl
  have hsz := Wf_sz (I := I) (m := m) (by rw [← hP]; exact hW)
  obtain ⟨J0, L0, j1, j2, j3, j4⟩ := s_bestNow (g := g) (I := upd2 I m 7 0) (L := L) (P := P) hm hW (by rw [mv_u]; exact hP)
  have jm : ∀ J, frM m (upd2 I m 7 0) J → J (m + 1) = I (m + 1) := fun J h => by
    rw [h (m + 1) (by omega) (by omega) (by omega) (by omega) (by omega)]; exact funext fun j => upd2_p (by omega)
  have hev : ∀ L J, J (m + 1) = I (m + 1) → cl 182 [.ref m] (mk (gL g L) J) = some (.inl (some (.int (iI (pE P)))), mk (gL g L) J) := fun L J h => by
    rw [hE, ← h]; exact s_events hm
  have key := loop_up (σ := Mm × (Nat → Int → Int) × Option Value × Option Value) (head := fun e s => rn 248 2 [some (.ref m), some (.int (iI (farS (rbS P e).2))), some (.int (iI (rbS P e).1)), some (.int (iI e)), s.2.2.1, s.2.2.2] [] (mk (gL g s.2.1) s.1)) (Inv := fun n s => 0 ≤ n ∧ frM m (upd2 I m 7 0) s.1 ∧ frML m L s.2.1) (n := max 0 (pE P - 1)) (by
    rintro e ⟨J, L1, o4, o5⟩ e1 ⟨e0, hJ, hL⟩
    have hJ : frM m (upd2 I m 7 0) J := hJ
    have hL : frML m L L1 := hL
    have hJm := jm J hJ
    have pJ : mv J m = P := by rw [hP]; unfold mv; rw [hJm]
    have rb := rbS_b hW e0 (by omega)
    have fr := far_b rb.2 (by decide)
    have lb := lrS_b hW e0 (by omega)
    have fl := far_b lb (by decide)
    have rr := hbd.2.2.2.2.2 e e0 (by omega)
    have qe := hev L1 J hJm
    have qr := s_restOf (g := gL g L1) (I := J) (e := e) hm (by omega)
    have er : J (m + 1) (42 + 8 * e + 1) = pRe P e := by rw [← pJ]; rfl
    rw [er] at qr
    obtain ⟨K, hK⟩ : ∃ K, K = upd2 J (m + 1) (42 + 8 * e + 1) 9 := ⟨_, rfl⟩
    have hA : Agr (mv K m) (rsP P e 9) := by
      have := agr_rs (I := J) (m := m) (e := e) (r := 9) e0 (fun e' a b => by rw [hJm] at b ⊢; exact (hsz e' a b).2)
      rw [hK]; rw [pJ] at this; exact this
    have hWr := rs_Wf hW (e := e) (r := 9) (by decide)
    have hWK := hWr.agr hA.symm
    obtain ⟨J2, L2, a1, a2, a3, a4⟩ := s_bestNow (g := g) (I := K) (L := L1) (P := mv K m) hm hWK rfl
    rw [ls_A hA hWK, ← lr_ls hW e0 (by omega)] at a1
    have a2m : J2 (m + 1) = K (m + 1) := a2 _ (by omega) (by omega) (by omega) (by omega) (by omega)
    obtain ⟨J3, hJ3⟩ : ∃ J3, J3 = upd2 J2 (m + 1) (42 + 8 * e + 1) (pRe P e) := ⟨_, rfl⟩
    have f3 : frM m J J3 := fun p h1 h2 h3 h4 h5 => by
      by_cases hp : p = m + 1
      · subst hp
        funext i
        by_cases hi : i = 42 + 8 * e + 1
        · rw [hi, hJ3, upd2_at, er]
        · rw [hJ3, upd2_i hi, a2m, hK, upd2_i hi]
      · rw [hJ3]
        funext i
        rw [upd2_p hp, a2 p h1 h2 h3 h4 h5, hK, upd2_p hp]
    refine ⟨(J3, L2, some (.int (iI (pRe P e))), some (.int (iI (farS (lrS P e))))), ?_, by omega, frM_t hJ f3, fun p h1 h2 => (a3 p h1 h2).trans (hL p h1 h2)⟩
    show rn _ _ _ _ _ = rn _ _ _ _ _
    rw [rbS_s e0]
    obtain ⟨t_0, ⟨t_1, d_1, n_1⟩, ⟨t_2, d_2, n_2⟩, ⟨t_3, d_3, n_3⟩, ⟨t_4, d_4, n_4⟩, ⟨t_5, d_5, n_5⟩, ⟨t_6, n_6⟩, ⟨t_7, d_7, n_7⟩, ⟨t_8, d_8, n_8⟩, ⟨t_9, d_9, n_9⟩, ⟨t_10, d_10, n_10⟩, ⟨t_11, d_11, n_11⟩, ⟨t_12, d_12, n_12⟩, ⟨t_13, d_13, n_13⟩, ⟨t_14, d_14, n_14⟩, ⟨t_15, n_15⟩, ⟨t_16, n_16⟩, ⟨t_17, d_17, n_17⟩, ⟨t_18, d_18, n_18⟩⟩ := hm
    by_cases hc : ¬ lrS P e = -1 ∧ ((rbS P e).2 = -1 ∨ lrS P e < (rbS P e).2)
    · rw [if_pos hc]
      have hlt : farS (lrS P e) < farS (rbS P e).2 := by unfold farS; (repeat' split) <;> omega
      refine (w_248_2 (by first | assumption | omega | (simp (disch := omega) only [gtL, gnL, gL_1, gL_gL, gL_21, upd2_p]; first | assumption | omega))).trans ?_
      simp (maxSteps := 2000000) (disch := first | assumption | omega | (simp (disch := omega) only [gL_gL, gL_21, gtL, gnL, gL_1, gL_gL, gL_21, upd2_p]; first | assumption | omega)) only [gL_gL, gL_21, aft_v, aft_n, aft_t, Nat.add_assoc, Nat.reduceAdd, if_true, if_false, not_true_eq_false, not_false_eq_true, Classical.not_not, Int.reduceAdd, Int.reduceSub, Int.reduceMul, Int.reduceNeg, Int.reduceLT, Int.reduceLE, Int.reduceEq, Int.add_zero, Int.zero_add, Int.sub_zero, w_248_3, w_248_4, w_248_5, qe, qr, if_neg (show ¬ pE P ≤ e + 1 by omega)]
      rw [← hK]
      simp (maxSteps := 2000000) (disch := first | assumption | omega | (simp (disch := omega) only [gL_gL, gL_21, gtL, gnL, gL_1, gL_gL, gL_21, upd2_p]; first | assumption | omega)) only [gL_gL, gL_21, aft_v, aft_n, aft_t, Nat.add_assoc, Nat.reduceAdd, if_true, if_false, not_true_eq_false, not_false_eq_true, Classical.not_not, Int.reduceAdd, Int.reduceSub, Int.reduceMul, Int.reduceNeg, Int.reduceLT, Int.reduceLE, Int.reduceEq, Int.add_zero, Int.zero_add, Int.sub_zero, w_248_6, w_248_8, w_248_9, a1, if_pos hlt]
      rw [← hJ3]
    · rw [if_neg hc]
      have hlt : ¬ farS (lrS P e) < farS (rbS P e).2 := fun h => hc (by unfold farS at h; (repeat' split at h) <;> omega)
      refine (w_248_2 (by first | assumption | omega | (simp (disch := omega) only [gtL, gnL, gL_1, gL_gL, gL_21, upd2_p]; first | assumption | omega))).trans ?_
      simp (maxSteps := 2000000) (disch := first | assumption | omega | (simp (disch := omega) only [gL_gL, gL_21, gtL, gnL, gL_1, gL_gL, gL_21, upd2_p]; first | assumption | omega)) only [gL_gL, gL_21, aft_v, aft_n, aft_t, Nat.add_assoc, Nat.reduceAdd, if_true, if_false, not_true_eq_false, not_false_eq_true, Classical.not_not, Int.reduceAdd, Int.reduceSub, Int.reduceMul, Int.reduceNeg, Int.reduceLT, Int.reduceLE, Int.reduceEq, Int.add_zero, Int.zero_add, Int.sub_zero, w_248_3, w_248_4, w_248_5, qe, qr, if_neg (show ¬ pE P ≤ e + 1 by omega)]
      rw [← hK]
      simp (maxSteps := 2000000) (disch := first | assumption | omega | (simp (disch := omega) only [gL_gL, gL_21, gtL, gnL, gL_1, gL_gL, gL_21, upd2_p]; first | assumption | omega)) only [gL_gL, gL_21, aft_v, aft_n, aft_t, Nat.add_assoc, Nat.reduceAdd, if_true, if_false, not_true_eq_false, not_false_eq_true, Classical.not_not, Int.reduceAdd, Int.reduceSub, Int.reduceMul, Int.reduceNeg, Int.reduceLT, Int.reduceLE, Int.reduceEq, Int.add_zero, Int.zero_add, Int.sub_zero, w_248_6, w_248_7, w_248_9, a1, if_neg hlt]
      rw [← hJ3]) 0 (J0, L0, none, none) (by omega) ⟨Int.le_refl _, j2, j3⟩
  obtain ⟨⟨J, L1, o4, o5⟩, k1, -, k2, k3⟩ := key
  have k1 : rn 248 2 [some (.ref m), some (.int (iI (farS (lsS P 0)))), some (.int (iI (-1))), some (.int (iI 0)), none, none] [] (mk (gL g L0) J0) = rn 248 2 [some (.ref m), some (.int (iI (farS (rbS P (max 0 (pE P - 1))).2))), some (.int (iI (rbS P (max 0 (pE P - 1))).1)), some (.int (iI (max 0 (pE P - 1)))), o4, o5] [] (mk (gL g L1) J) := k1
  have k2 : frM m (upd2 I m 7 0) J := k2
  have qe := hev L1 J (jm J k2)
  refine ⟨J, L1, ?_, frQ_fC frQ_u (frM_C k2), k3⟩
  obtain ⟨t_0, ⟨t_1, d_1, n_1⟩, ⟨t_2, d_2, n_2⟩, ⟨t_3, d_3, n_3⟩, ⟨t_4, d_4, n_4⟩, ⟨t_5, d_5, n_5⟩, ⟨t_6, n_6⟩, ⟨t_7, d_7, n_7⟩, ⟨t_8, d_8, n_8⟩, ⟨t_9, d_9, n_9⟩, ⟨t_10, d_10, n_10⟩, ⟨t_11, d_11, n_11⟩, ⟨t_12, d_12, n_12⟩, ⟨t_13, d_13, n_13⟩, ⟨t_14, d_14, n_14⟩, ⟨t_15, n_15⟩, ⟨t_16, n_16⟩, ⟨t_17, d_17, n_17⟩, ⟨t_18, d_18, n_18⟩⟩ := hm
  simp (maxSteps := 2000000) (disch := first | assumption | omega | (simp (disch := omega) only [gL_gL, gL_21, gtL, gnL, gL_1, gL_gL, gL_21, upd2_p]; first | assumption | omega)) only [gL_gL, gL_21, aft_v, aft_n, aft_t, Nat.add_assoc, Nat.reduceAdd, if_true, if_false, not_true_eq_false, not_false_eq_true, Classical.not_not, Int.reduceAdd, Int.reduceSub, Int.reduceMul, Int.reduceNeg, Int.reduceLT, Int.reduceLE, Int.reduceEq, Int.add_zero, Int.zero_add, Int.sub_zero, c_248, w_248_0, w_248_1, j1]
  rw [k1]
  refine (w_248_2 (by first | assumption | omega | (simp (disch := omega) only [gtL, gnL, gL_1, gL_gL, gL_21, upd2_p]; first | assumption | omega))).trans ?_
  simp (maxSteps := 2000000) (disch := first | assumption | omega | (simp (disch := omega) only [gL_gL, gL_21, gtL, gnL, gL_1, gL_gL, gL_21, upd2_p]; first | assumption | omega)) only [gL_gL, gL_21, aft_v, aft_n, aft_t, Nat.add_assoc, Nat.reduceAdd, if_true, if_false, not_true_eq_false, not_false_eq_true, Classical.not_not, Int.reduceAdd, Int.reduceSub, Int.reduceMul, Int.reduceNeg, Int.reduceLT, Int.reduceLE, Int.reduceEq, Int.add_zero, Int.zero_add, Int.sub_zero, w_248_3, w_248_10, qe, if_pos (show pE P ≤ max 0 (pE P - 1) + 1 by omega)]
end MWD
