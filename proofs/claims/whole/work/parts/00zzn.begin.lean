/-! A piece begun anew, of both. -/
/-- weights and spans at first -/
def fW (w : Int) : Int := if w = 0 then 2 else if w = 1 then 5 else if w = 2 then 3 else if w = 3 then 1 else if w = 4 then 2 else if w = 5 then 4 else if w = 6 then 1 else if w = 7 then 2 else if w = 8 then 4 else 5
def fS (c a b : Int) : Int :=
  if min a b = 1 ∧ max a b = 2 then (if c = 0 then 1 else if c = 1 then 5 else 8) else
  if min a b = 1 ∧ max a b = 3 then (if c = 0 then 3 else if c = 1 then 7 else 10) else
  if min a b = 1 ∧ max a b = 4 then (if c = 0 then 5 else if c = 1 then 9 else 12) else
  if min a b = 1 then (if c = 0 then 7 else if c = 1 then 11 else 14) else
  if min a b = 2 ∧ max a b = 3 then (if c = 0 then 1 else if c = 1 then 2 else 5) else
  if min a b = 2 ∧ max a b = 4 then (if c = 0 then 3 else if c = 1 then 4 else 7) else
  if min a b = 2 then (if c = 0 then 5 else if c = 1 then 7 else 10) else
  if min a b = 3 ∧ max a b = 4 then (if c = 0 then 1 else if c = 1 then 2 else 4) else
  if min a b = 3 then (if c = 0 then 3 else if c = 1 then 4 else 7) else
  (if c = 0 then 1 else if c = 1 then 2 else 5)
/-- a piece with no events, of the right hand, weights and spans as at first -/
def bgP (P : PT) : Prop := pR P = 1 ∧ pE P = 0 ∧ (∀ w, 0 ≤ w → w < 10 → pW P w = fW w) ∧ ∀ a b, 1 ≤ a → a ≤ 5 → 1 ≤ b → b ≤ 5 → ¬ a = b → pLo P a b = fS 0 a b ∧ pHi P a b = fS 1 a b ∧ pLi P a b = fS 2 a b
theorem bg_A {P P' : PT} (h : bgP P) (h' : bgP P') : Agr P P' := by
  obtain ⟨h1, h2, h3, h4⟩ := h
  obtain ⟨g1, g2, g3, g4⟩ := h'
  refine ⟨by rw [h1, g1], by rw [h2, g2], fun e a b => by omega, fun w a b => by rw [h3 w a b, g3 w a b], fun a b a1 a2 b1 b2 hn => ?_⟩
  obtain ⟨x1, x2, x3⟩ := h4 a b a1 a2 b1 b2 hn
  obtain ⟨y1, y2, y3⟩ := g4 a b a1 a2 b1 b2 hn
  exact ⟨by rw [x1, y1], by rw [x2, y2], by rw [x3, y3]⟩
theorem fW_b {w : Int} : 0 ≤ fW w ∧ fW w ≤ 99 := by
  unfold fW
  (repeat' split) <;> decide
theorem fS_b {a b : Int} : 1 ≤ fS 0 a b ∧ fS 0 a b ≤ fS 1 a b ∧ fS 1 a b ≤ fS 2 a b ∧ fS 2 a b ≤ 24 := by
  unfold fS
  by_cases h1 : min a b = 1 ∧ max a b = 2
  · simp only [if_pos h1]; decide
  simp only [if_neg h1]
  by_cases h2 : min a b = 1 ∧ max a b = 3
  · simp only [if_pos h2]; decide
  simp only [if_neg h2]
  by_cases h3 : min a b = 1 ∧ max a b = 4
  · simp only [if_pos h3]; decide
  simp only [if_neg h3]
  by_cases h4 : min a b = 1
  · simp only [if_pos h4]; decide
  simp only [if_neg h4]
  by_cases h5 : min a b = 2 ∧ max a b = 3
  · simp only [if_pos h5]; decide
  simp only [if_neg h5]
  by_cases h6 : min a b = 2 ∧ max a b = 4
  · simp only [if_pos h6]; decide
  simp only [if_neg h6]
  by_cases h7 : min a b = 2
  · simp only [if_pos h7]; decide
  simp only [if_neg h7]
  by_cases h8 : min a b = 3 ∧ max a b = 4
  · simp only [if_pos h8]; decide
  simp only [if_neg h8]
  by_cases h9 : min a b = 3
  · simp only [if_pos h9]; decide
  simp only [if_neg h9]
  decide
theorem bg_Wf {P : PT} (h : bgP P) : Wf P := by
  obtain ⟨h1, h2, h3, h4⟩ := h
  refine ⟨Or.inr h1, by omega, fun e a b => by omega, fun w a b => by rw [h3 w a b]; exact fW_b, fun a b a1 a2 b1 b2 hn => ?_⟩
  obtain ⟨x1, x2, x3⟩ := h4 a b a1 a2 b1 b2 hn
  rw [x1, x2, x3]; exact fS_b
/-- the two rows of numbers that were there before -/
def isSt (g : Gm) (I : Mm) : Prop := gt g 0 = 7 ∧ gn g 0 = 10 ∧ gt g 1 = 7 ∧ gn g 1 = 50 ∧ (∀ w, 0 ≤ w → w < 10 → I 0 w = fW w) ∧ ∀ k, 0 ≤ k → k < 50 → I 1 k = ([1, 2, 1, 5, 8, 1, 3, 3, 7, 10, 1, 4, 5, 9, 12, 1, 5, 7, 11, 14, 2, 3, 1, 2, 5, 2, 4, 3, 4, 7, 2, 5, 5, 7, 10, 3, 4, 1, 2, 4, 3, 5, 3, 4, 7, 4, 5, 1, 2, 5] : List Int).getD k.toNat 0
def spU (I : Mm) (q : Nat) (a b lo hi li : Int) : Mm := upd2 (upd2 (upd2 (upd2 (upd2 (upd2 I (q + 12) ((a - 1) * 5 + b - 1) lo) (q + 12) ((b - 1) * 5 + a - 1) lo) (q + 14) ((a - 1) * 5 + b - 1) hi) (q + 14) ((b - 1) * 5 + a - 1) hi) (q + 16) ((a - 1) * 5 + b - 1) li) (q + 16) ((b - 1) * 5 + a - 1) li
/-- places of the spans alone -/
def onSp (q : Nat) (I I' : Mm) : Prop := ∀ p, ¬ p = q + 12 → ¬ p = q + 14 → ¬ p = q + 16 → I' p = I p
theorem spU_o {I : Mm} {q : Nat} {a b lo hi li : Int} : onSp q I (spU I q a b lo hi li) := fun p h1 h2 h3 => by
  funext i
  unfold spU
  rw [upd2_p h3, upd2_p h3, upd2_p h2, upd2_p h2, upd2_p h1, upd2_p h1]
theorem spU_12 {I : Mm} {q : Nat} {a b lo hi li i : Int} : spU I q a b lo hi li (q + 12) i = if i = (a - 1) * 5 + b - 1 ∨ i = (b - 1) * 5 + a - 1 then lo else I (q + 12) i := by
  unfold spU
  rw [upd2_p (by omega), upd2_p (by omega), upd2_p (by omega), upd2_p (by omega)]
  by_cases h1 : i = (b - 1) * 5 + a - 1
  · rw [h1, upd2_at, if_pos (Or.inr rfl)]
  · rw [upd2_i h1]
    by_cases h2 : i = (a - 1) * 5 + b - 1
    · rw [h2, upd2_at, if_pos (Or.inl rfl)]
    · rw [upd2_i h2, if_neg (fun z => z.elim h2 h1)]
theorem spU_14 {I : Mm} {q : Nat} {a b lo hi li i : Int} : spU I q a b lo hi li (q + 14) i = if i = (a - 1) * 5 + b - 1 ∨ i = (b - 1) * 5 + a - 1 then hi else I (q + 14) i := by
  unfold spU
  rw [upd2_p (by omega), upd2_p (by omega)]
  by_cases h1 : i = (b - 1) * 5 + a - 1
  · rw [h1, upd2_at, if_pos (Or.inr rfl)]
  · rw [upd2_i h1]
    by_cases h2 : i = (a - 1) * 5 + b - 1
    · rw [h2, upd2_at, if_pos (Or.inl rfl)]
    · rw [upd2_i h2, if_neg (fun z => z.elim h2 h1), upd2_p (by omega), upd2_p (by omega)]
theorem spU_16 {I : Mm} {q : Nat} {a b lo hi li i : Int} : spU I q a b lo hi li (q + 16) i = if i = (a - 1) * 5 + b - 1 ∨ i = (b - 1) * 5 + a - 1 then li else I (q + 16) i := by
  unfold spU
  by_cases h1 : i = (b - 1) * 5 + a - 1
  · rw [h1, upd2_at, if_pos (Or.inr rfl)]
  · rw [upd2_i h1]
    by_cases h2 : i = (a - 1) * 5 + b - 1
    · rw [h2, upd2_at, if_pos (Or.inl rfl)]
    · rw [upd2_i h2, if_neg (fun z => z.elim h2 h1), upd2_p (by omega), upd2_p (by omega), upd2_p (by omega), upd2_p (by omega)]
/-- all ten spans as at first -/
def sp10 (I : Mm) (q : Nat) : Mm := spU (spU (spU (spU (spU (spU (spU (spU (spU (spU I q 1 2 1 5 8) q 1 3 3 7 10) q 1 4 5 9 12) q 1 5 7 11 14) q 2 3 1 2 5) q 2 4 3 4 7) q 2 5 5 7 10) q 3 4 1 2 4) q 3 5 3 4 7) q 4 5 1 2 5
theorem sp10_o {I : Mm} {q : Nat} : onSp q I (sp10 I q) := fun p h1 h2 h3 => by
  unfold sp10
  rw [spU_o p h1 h2 h3, spU_o p h1 h2 h3, spU_o p h1 h2 h3, spU_o p h1 h2 h3, spU_o p h1 h2 h3, spU_o p h1 h2 h3, spU_o p h1 h2 h3, spU_o p h1 h2 h3, spU_o p h1 h2 h3, spU_o p h1 h2 h3]
theorem sp10_v {I : Mm} {q : Nat} {a b : Int} (a1 : 1 ≤ a) (a2 : a ≤ 5) (b1 : 1 ≤ b) (b2 : b ≤ 5) (hn : ¬ a = b) : sp10 I q (q + 12) ((a - 1) * 5 + b - 1) = fS 0 a b ∧ sp10 I q (q + 14) ((a - 1) * 5 + b - 1) = fS 1 a b ∧ sp10 I q (q + 16) ((a - 1) * 5 + b - 1) = fS 2 a b := by
  unfold sp10
  simp only [spU_12, spU_14, spU_16]
  rcases (show a = 1 ∨ a = 2 ∨ a = 3 ∨ a = 4 ∨ a = 5 by omega) with rfl | rfl | rfl | rfl | rfl <;> rcases (show b = 1 ∨ b = 2 ∨ b = 3 ∨ b = 4 ∨ b = 5 by omega) with rfl | rfl | rfl | rfl | rfl <;> first | exact absurd rfl hn | exact ⟨rfl, rfl, rfl⟩
theorem sp10_b {I : Mm} {q : Nat} {i A B : Int} (hA : A ≤ 1) (hB : 14 ≤ B) (h12 : A ≤ I (q + 12) i ∧ I (q + 12) i ≤ B) (h14 : A ≤ I (q + 14) i ∧ I (q + 14) i ≤ B) (h16 : A ≤ I (q + 16) i ∧ I (q + 16) i ≤ B) : (A ≤ sp10 I q (q + 12) i ∧ sp10 I q (q + 12) i ≤ B) ∧ (A ≤ sp10 I q (q + 14) i ∧ sp10 I q (q + 14) i ≤ B) ∧ (A ≤ sp10 I q (q + 16) i ∧ sp10 I q (q + 16) i ≤ B) := by
  unfold sp10
  simp only [spU_12, spU_14, spU_16]
  refine ⟨?_, ?_, ?_⟩ <;> ((repeat' split) <;> omega)
/-- the first k weights -/
def wtU (I : Mm) (q : Nat) (k : Int) : Mm := fun p i => if p = q + 10 ∧ 0 ≤ i ∧ i < k then fW i else I p i
theorem wtU_0 {I : Mm} {q : Nat} : wtU I q 0 = I := by funext p i; exact if_neg (by omega)
theorem wtU_p {I : Mm} {q p : Nat} {k : Int} (h : ¬ p = q + 10) : wtU I q k p = I p := by funext i; exact if_neg (fun z => h z.1)
theorem wtU_s {I : Mm} {q : Nat} {k : Int} (h : 0 ≤ k) : upd2 (wtU I q k) (q + 10) k (fW k) = wtU I q (k + 1) := by
  funext p i
  by_cases hp : p = q + 10
  · subst hp
    by_cases hi : i = k
    · subst hi
      rw [upd2_at]
      exact (if_pos ⟨rfl, by omega, by omega⟩).symm
    · rw [upd2_i hi]
      unfold wtU
      by_cases hc : q + 10 = q + 10 ∧ 0 ≤ i ∧ i < k
      · rw [if_pos hc, if_pos ⟨rfl, by omega, by omega⟩]
      · rw [if_neg hc, if_neg (fun z => hc ⟨rfl, by omega, by omega⟩)]
  · rw [upd2_p hp, wtU_p hp, wtU_p hp]
def bgM (I : Mm) (q : Nat) : Mm := sp10 (wtU (upd2 (upd2 I q 0 1) q 1 0) q 10) q
theorem bgM_o {I : Mm} {q p : Nat} (h : ¬ p = q) (h1 : ¬ p = q + 10) (h2 : ¬ p = q + 12) (h3 : ¬ p = q + 14) (h4 : ¬ p = q + 16) : bgM I q p = I p := by
  unfold bgM
  rw [sp10_o p h2 h3 h4, wtU_p h1]
  funext i; rw [upd2_p h, upd2_p h]
theorem bgM_bg {I : Mm} {q : Nat} : bgP (pv (bgM I q) q) := by
  refine ⟨?_, ?_, fun w a b => ?_, fun a b a1 a2 b1 b2 hn => sp10_v a1 a2 b1 b2 hn⟩
  · show sp10 _ q q 0 = 1
    rw [sp10_o q (by omega) (by omega) (by omega), wtU_p (by omega), upd2_i (by decide), upd2_at]
  · show sp10 _ q q 1 = 0
    rw [sp10_o q (by omega) (by omega) (by omega), wtU_p (by omega), upd2_at]
  · show sp10 _ q (q + 10) w = fW w
    rw [sp10_o (q + 10) (by omega) (by omega) (by omega)]
    exact if_pos ⟨rfl, a, b⟩
theorem bgM_pB {I : Mm} {q : Nat} (h2 : ∀ i, 0 ≤ I (q + 2) i ∧ I (q + 2) i ≤ 3) (h4 : ∀ i, 0 ≤ I (q + 4) i ∧ I (q + 4) i ≤ 9) (h6 : ∀ i, 0 ≤ I (q + 6) i ∧ I (q + 6) i ≤ 108) (h8 : ∀ i, 0 ≤ I (q + 8) i ∧ I (q + 8) i ≤ 31) (h10 : ∀ i, 0 ≤ I (q + 10) i ∧ I (q + 10) i ≤ 99) (h12 : ∀ i, 0 ≤ I (q + 12) i ∧ I (q + 12) i ≤ 24) (h14 : ∀ i, 0 ≤ I (q + 14) i ∧ I (q + 14) i ≤ 24) (h16 : ∀ i, 0 ≤ I (q + 16) i ∧ I (q + 16) i ≤ 24) : pB (bgM I q) q := by
  have hb : ∀ j, ¬ j = q → ¬ j = q + 10 → wtU (upd2 (upd2 I q 0 1) q 1 0) q 10 j = I j := fun j h1 h2 => by rw [wtU_p h2]; funext i; rw [upd2_p h1, upd2_p h1]
  have hs := fun i => sp10_b (I := wtU (upd2 (upd2 I q 0 1) q 1 0) q 10) (q := q) (i := i) (A := 0) (B := 24) (by decide) (by decide) (by rw [hb _ (by omega) (by omega)]; exact h12 i) (by rw [hb _ (by omega) (by omega)]; exact h14 i) (by rw [hb _ (by omega) (by omega)]; exact h16 i)
  have h := bgM_bg (I := I) (q := q)
  refine ⟨Or.inr h.1, by rw [show bgM I q q 1 = 0 from h.2.1]; decide, fun i => ?_, fun i => ?_, fun i => ?_, fun i => ?_, fun i => ?_, fun i => (hs i).1, fun i => (hs i).2.1, fun i => (hs i).2.2⟩
  · rw [bgM_o (by omega) (by omega) (by omega) (by omega) (by omega)]; exact h2 i
  · rw [bgM_o (by omega) (by omega) (by omega) (by omega) (by omega)]; exact h4 i
  · rw [bgM_o (by omega) (by omega) (by omega) (by omega) (by omega)]; exact h6 i
  · rw [bgM_o (by omega) (by omega) (by omega) (by omega) (by omega)]; exact h8 i
  · unfold bgM
    rw [sp10_o (q + 10) (by omega) (by omega) (by omega)]
    unfold wtU
    by_cases hc : q + 10 = q + 10 ∧ 0 ≤ i ∧ i < 10
    · rw [if_pos hc]; exact fW_b
    · rw [if_neg hc, upd2_p (by omega), upd2_p (by omega)]; exact h10 i
section BG
variable {g : Gm} {I : Mm} {q m : Nat}
theorem s_begin (hp : isPc g q) (hst : isSt g I) (hq : 2 ≤ q) : cl 1 [.ref q] (mk g I) = some (.inl none, mk g (bgM I q)) := by
  obtain ⟨t0, n0, t1, n1, hw, hs⟩ := hst
  have hp' := hp
  obtain ⟨p_0, ⟨p_1, q_1, p_2⟩, ⟨p_3, q_3, p_4⟩, ⟨p_5, q_5, p_6⟩, ⟨p_7, q_7, p_8⟩, ⟨p_9, q_9, p_10⟩, ⟨p_11, q_11, p_12⟩, ⟨p_13, q_13, p_14⟩, ⟨p_15, q_15, p_16⟩⟩ := hp
  have t0' : gt g 0 = 0 ∨ gt g 0 = 1 ∨ gt g 0 = 4 ∨ gt g 0 = 7 := Or.inr (Or.inr (Or.inr t0))
  have t1' : gt g 1 = 0 ∨ gt g 1 = 1 ∨ gt g 1 = 4 ∨ gt g 1 = 7 := Or.inr (Or.inr (Or.inr t1))
  have t02 : gt g 0 = 0 ∨ gt g 0 = 7 := Or.inr t0
  have t12 : gt g 1 = 0 ∨ gt g 1 = 7 := Or.inr t1
  obtain ⟨K, hK⟩ : ∃ K, K = upd2 (upd2 I q 0 1) q 1 0 := ⟨_, rfl⟩
  have key := loop_up (σ := Unit) (head := fun k _ => rn 1 1 [some (.ref q), some (.int (iI k))] [] (mk g (wtU K q k))) (Inv := fun k _ => 0 ≤ k) (n := 10) (by
    intro k s k1 k0
    have hv : wtU K q k 0 k = fW k := by rw [wtU_p (by omega), hK, upd2_p (by omega), upd2_p (by omega)]; exact hw k k0 k1
    have qr : cl 63 [.ref (q + 9), .int (iI k), .int (iI (fW k))] (mk g (wtU K q k)) = some (.inl none, mk g (upd2 (wtU K q k) (q + 10) k (fW k))) := s_row_put (p := q + 9) p_9 k0 (by omega)
    rw [wtU_s k0] at qr
    refine ⟨(), ?_, by omega⟩
    show rn _ _ _ _ _ = rn _ _ _ _ _
    refine (w_1_1 (by first | omega | assumption) (by first | omega | assumption) (by first | omega | assumption) (by first | omega | assumption) (by first | omega | assumption)).trans ?_
    refine (if_neg (by omega)).trans ?_
    simp (maxSteps := 2000000) (disch := first | assumption | omega) only [aft_v, aft_n, aft_t, Nat.add_assoc, Nat.reduceAdd, if_true, if_false, not_true_eq_false, not_false_eq_true, Classical.not_not, Int.reduceAdd, Int.reduceSub, Int.reduceMul, Int.reduceNeg, Int.reduceLT, Int.reduceLE, Int.reduceEq, Int.add_zero, Int.zero_add, Int.sub_zero, w_1_2, w_1_3, hv, qr]) 0 () (by decide) (by decide)
  obtain ⟨-, key, -⟩ := key
  have key : rn 1 1 [some (.ref q), some (.int (iI 0))] [] (mk g (wtU K q 0)) = rn 1 1 [some (.ref q), some (.int (iI 10))] [] (mk g (wtU K q 10)) := key
  rw [wtU_0] at key
  -- a span
  have S : ∀ (J : Mm) (k : Int) (a b lo hi li : Int), (∀ j, J 1 j = I 1 j) → 0 ≤ k → k + 5 ≤ 50 → I 1 k = a → I 1 (k + 1) = b → I 1 (k + 2) = lo → I 1 (k + 3) = hi → I 1 (k + 4) = li → 1 ≤ a ∧ a ≤ 5 → 1 ≤ b ∧ b ≤ 5 → rn 1 5 [some (.ref q), some (.int (iI k))] [] (mk g J) = rn 1 5 [some (.ref q), some (.int (iI (k + 5)))] [] (mk g (spU J q a b lo hi li)) ∧ ∀ j, spU J q a b lo hi li 1 j = I 1 j := by
    intro J k a b lo hi li hJ k0 k1 ha hb hlo hhi hli a1 b1
    have q1 := s_putSpan (g := g) (I := J) (q := q) (a := a) (b := b) (lo := lo) (hi := hi) (li := li) hp' a1 b1
    have q1 : cl 3 [.ref q, .int (iI a), .int (iI b), .int (iI lo), .int (iI hi), .int (iI li)] (mk g J) = some (.inl none, mk g (spU J q a b lo hi li)) := q1
    rw [← hJ] at ha hb hlo hhi hli
    refine ⟨?_, fun j => by rw [spU_o 1 (by omega) (by omega) (by omega)]; exact hJ j⟩
    refine (w_1_5 (by first | omega | assumption) (by first | omega | assumption) (by first | omega | assumption) (by first | omega | assumption) (by first | omega | assumption)).trans ?_
    refine (if_neg (by omega)).trans ?_
    simp (maxSteps := 2000000) (disch := first | assumption | omega) only [aft_v, aft_n, aft_t, Nat.add_assoc, Nat.reduceAdd, if_true, if_false, not_true_eq_false, not_false_eq_true, Classical.not_not, Int.reduceAdd, Int.reduceSub, Int.reduceMul, Int.reduceNeg, Int.reduceLT, Int.reduceLE, Int.reduceEq, Int.add_zero, Int.zero_add, Int.sub_zero, w_1_6, w_1_7, ha, hb, hlo, hhi, hli, q1]
  have J0 : ∀ j, wtU K q 10 1 j = I 1 j := fun j => by rw [wtU_p (by omega), hK, upd2_p (by omega), upd2_p (by omega)]
  obtain ⟨e1, J1⟩ := S _ 0 1 2 1 5 8 J0 (by decide) (by decide) (hs 0 (by decide) (by decide)) (hs 1 (by decide) (by decide)) (hs 2 (by decide) (by decide)) (hs 3 (by decide) (by decide)) (hs 4 (by decide) (by decide)) (by decide) (by decide)
  obtain ⟨e2, J2⟩ := S _ 5 1 3 3 7 10 J1 (by decide) (by decide) (hs 5 (by decide) (by decide)) (hs 6 (by decide) (by decide)) (hs 7 (by decide) (by decide)) (hs 8 (by decide) (by decide)) (hs 9 (by decide) (by decide)) (by decide) (by decide)
  obtain ⟨e3, J3⟩ := S _ 10 1 4 5 9 12 J2 (by decide) (by decide) (hs 10 (by decide) (by decide)) (hs 11 (by decide) (by decide)) (hs 12 (by decide) (by decide)) (hs 13 (by decide) (by decide)) (hs 14 (by decide) (by decide)) (by decide) (by decide)
  obtain ⟨e4, J4⟩ := S _ 15 1 5 7 11 14 J3 (by decide) (by decide) (hs 15 (by decide) (by decide)) (hs 16 (by decide) (by decide)) (hs 17 (by decide) (by decide)) (hs 18 (by decide) (by decide)) (hs 19 (by decide) (by decide)) (by decide) (by decide)
  obtain ⟨e5, J5⟩ := S _ 20 2 3 1 2 5 J4 (by decide) (by decide) (hs 20 (by decide) (by decide)) (hs 21 (by decide) (by decide)) (hs 22 (by decide) (by decide)) (hs 23 (by decide) (by decide)) (hs 24 (by decide) (by decide)) (by decide) (by decide)
  obtain ⟨e6, J6⟩ := S _ 25 2 4 3 4 7 J5 (by decide) (by decide) (hs 25 (by decide) (by decide)) (hs 26 (by decide) (by decide)) (hs 27 (by decide) (by decide)) (hs 28 (by decide) (by decide)) (hs 29 (by decide) (by decide)) (by decide) (by decide)
  obtain ⟨e7, J7⟩ := S _ 30 2 5 5 7 10 J6 (by decide) (by decide) (hs 30 (by decide) (by decide)) (hs 31 (by decide) (by decide)) (hs 32 (by decide) (by decide)) (hs 33 (by decide) (by decide)) (hs 34 (by decide) (by decide)) (by decide) (by decide)
  obtain ⟨e8, J8⟩ := S _ 35 3 4 1 2 4 J7 (by decide) (by decide) (hs 35 (by decide) (by decide)) (hs 36 (by decide) (by decide)) (hs 37 (by decide) (by decide)) (hs 38 (by decide) (by decide)) (hs 39 (by decide) (by decide)) (by decide) (by decide)
  obtain ⟨e9, J9⟩ := S _ 40 3 5 3 4 7 J8 (by decide) (by decide) (hs 40 (by decide) (by decide)) (hs 41 (by decide) (by decide)) (hs 42 (by decide) (by decide)) (hs 43 (by decide) (by decide)) (hs 44 (by decide) (by decide)) (by decide) (by decide)
  obtain ⟨e10, J10⟩ := S _ 45 4 5 1 2 5 J9 (by decide) (by decide) (hs 45 (by decide) (by decide)) (hs 46 (by decide) (by decide)) (hs 47 (by decide) (by decide)) (hs 48 (by decide) (by decide)) (hs 49 (by decide) (by decide)) (by decide) (by decide)
  refine c_1.trans ?_
  refine (w_1_0 (by first | omega | assumption)).trans ?_
  rw [← hK]
  refine key.trans ?_
  refine (w_1_1 (by first | omega | assumption) (by first | omega | assumption) (by first | omega | assumption) (by first | omega | assumption) (by first | omega | assumption)).trans ?_
  refine (if_pos (by omega)).trans ?_
  refine (w_1_4).trans ?_
  refine (e1.trans (e2.trans (e3.trans (e4.trans (e5.trans (e6.trans (e7.trans (e8.trans (e9.trans e10))))))))).trans ?_
  refine (w_1_5 (by first | omega | assumption) (by first | omega | assumption) (by first | omega | assumption) (by first | omega | assumption) (by first | omega | assumption)).trans ?_
  refine (if_pos (by omega)).trans ?_
  refine w_1_8.trans ?_
  unfold bgM
  rw [hK]
  rfl
end BG
