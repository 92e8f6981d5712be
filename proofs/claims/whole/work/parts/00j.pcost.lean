/-! Piece: links, events, passages. -/
def linkS (P : PT) (f k f' k' : Int) : Int := if kindS P f k f' k' = 0 then (if f = f' then pW P 2 else pW P 3) else if kindS P f k f' k' = 1 then pW P 4 * (if 0 ≤ k' - k then k' - k else k - k') else if kindS P f k f' k' = 2 then stretchS P (if 0 ≤ k' - k then k' - k else k - k') f f' else if kindS P f k f' k' = 3 then pW P 1 else -1
/-- the cost of a note -/
def ncS (P : PT) (k f : Int) : Int := (if f = 4 then pW P 6 else 0) + (if (f = 1 ∨ f = 5) ∧ bkI k = 1 then pW P 5 else 0)
/-- note k is not allowed behind the one ahead -/
def nokS (P : PT) (e k f0 f1 : Int) : Prop := ¬ (if pR P = 0 then f1 < f0 else f0 < f1) ∨ stretchS P (pKy P e k - pKy P e (k - 1)) f0 f1 = -1
/-- the cost of an event by fingers, its keys greater by so much; -1 if it is not allowed -/
def ecostS (P : PT) (e b : Int) (F : Int → Int) : Int :=
  if andI (pSe P e 0) (bitF (F 0)) = 0 then -1 else
  if pSz P e ≤ 1 then ncS P (pKy P e 0 + b) (F 0) else
  if andI (pSe P e 1) (bitF (F 1)) = 0 then -1 else
  if ¬ (if pR P = 0 then F 1 < F 0 else F 0 < F 1) then -1 else
  if stretchS P (pKy P e 1 - pKy P e 0) (F 0) (F 1) = -1 then -1 else
  if pSz P e ≤ 2 then ncS P (pKy P e 0 + b) (F 0) + ncS P (pKy P e 1 + b) (F 1) + stretchS P (pKy P e 1 - pKy P e 0) (F 0) (F 1) else
  if andI (pSe P e 2) (bitF (F 2)) = 0 then -1 else
  if ¬ (if pR P = 0 then F 2 < F 1 else F 1 < F 2) then -1 else
  if stretchS P (pKy P e 2 - pKy P e 1) (F 1) (F 2) = -1 then -1 else
  ncS P (pKy P e 0 + b) (F 0) + ncS P (pKy P e 1 + b) (F 1) + stretchS P (pKy P e 1 - pKy P e 0) (F 0) (F 1) + ncS P (pKy P e 2 + b) (F 2) + stretchS P (pKy P e 2 - pKy P e 1) (F 1) (F 2)
/-- the note at an end (0 the least finger's) -/
def endS (P : PT) (e n : Int) : Int := if n = 1 - pR P then 0 else pSz P e - 1
/-- the cost of the passage behind an event with a rest -/
def passS (P : PT) (e r : Int) (F F' : Int → Int) : Int :=
  if pW P 8 ≤ r then 0 else
  if linkS P (F (endS P e 0)) (pKy P e (endS P e 0)) (F' (endS P (e + 1) 0)) (pKy P (e + 1) (endS P (e + 1) 0)) = -1 then -1 else
  if ¬ (1 < pSz P e ∨ 1 < pSz P (e + 1)) then max 0 (linkS P (F (endS P e 0)) (pKy P e (endS P e 0)) (F' (endS P (e + 1) 0)) (pKy P (e + 1) (endS P (e + 1) 0)) - pW P 7 * r) else
  if linkS P (F (endS P e 1)) (pKy P e (endS P e 1)) (F' (endS P (e + 1) 1)) (pKy P (e + 1) (endS P (e + 1) 1)) = -1 then -1 else
  max 0 (linkS P (F (endS P e 0)) (pKy P e (endS P e 0)) (F' (endS P (e + 1) 0)) (pKy P (e + 1) (endS P (e + 1) 0)) + linkS P (F (endS P e 1)) (pKy P e (endS P e 1)) (F' (endS P (e + 1) 1)) (pKy P (e + 1) (endS P (e + 1) 1)) - pW P 7 * r)
/-- crossings of the passage behind an event -/
def crossS (P : PT) (e : Int) (F F' : Int → Int) : Int :=
  if pW P 8 ≤ pRe P e then 0 else
  (if kindS P (F (endS P e 0)) (pKy P e (endS P e 0)) (F' (endS P (e + 1) 0)) (pKy P (e + 1) (endS P (e + 1) 0)) = 3 then 1 else 0) +
  (if (1 < pSz P e ∨ 1 < pSz P (e + 1)) ∧ kindS P (F (endS P e 1)) (pKy P e (endS P e 1)) (F' (endS P (e + 1) 1)) (pKy P (e + 1) (endS P (e + 1) 1)) = 3 then 1 else 0)
/-- numbers of the piece at q in their bounds -/
def pB (I : Mm) (q : Nat) : Prop := (I q 0 = 0 ∨ I q 0 = 1) ∧ (0 ≤ I q 1 ∧ I q 1 ≤ 40) ∧ (∀ i, 0 ≤ I (q + 2) i ∧ I (q + 2) i ≤ 3) ∧ (∀ i, 0 ≤ I (q + 4) i ∧ I (q + 4) i ≤ 9) ∧ (∀ i, 0 ≤ I (q + 6) i ∧ I (q + 6) i ≤ 108) ∧ (∀ i, 0 ≤ I (q + 8) i ∧ I (q + 8) i ≤ 31) ∧ (∀ i, 0 ≤ I (q + 10) i ∧ I (q + 10) i ≤ 99) ∧ (∀ i, 0 ≤ I (q + 12) i ∧ I (q + 12) i ≤ 24) ∧ (∀ i, 0 ≤ I (q + 14) i ∧ I (q + 14) i ≤ 24) ∧ (∀ i, 0 ≤ I (q + 16) i ∧ I (q + 16) i ≤ 24)
theorem kind_b {P : PT} {f k f' k' : Int} : 0 ≤ kindS P f k f' k' ∧ kindS P f k f' k' ≤ 4 := by
  unfold kindS
  (repeat' split) <;> decide
theorem mul_b {a b A B : Int} (h1 : 0 ≤ a) (h2 : a ≤ A) (h3 : 0 ≤ b) (h4 : b ≤ B) : 0 ≤ a * b ∧ a * b ≤ A * B := ⟨Int.mul_nonneg h1 h3, Int.mul_le_mul h2 h4 h3 (Int.le_trans h1 h2)⟩
section PC
variable {g : Gm} {I : Mm} {q : Nat}
theorem stretch_b {d a b : Int} (hB : pB I q) (hd : 0 ≤ d) : -1 ≤ stretchS (pv I q) d a b ∧ stretchS (pv I q) d a b ≤ 2376 := by
  obtain ⟨-, -, -, -, -, -, b6, b7, b8, b9⟩ := hB
  have e : stretchS (pv I q) d a b = if I (q + 16) ((a - 1) * 5 + b - 1) < d then -1 else I (q + 10) 0 * max 0 (max (I (q + 12) ((a - 1) * 5 + b - 1) - d) (d - I (q + 14) ((a - 1) * 5 + b - 1))) := rfl
  rw [e]
  have h6 := b6 0
  have h7 := b7 ((a - 1) * 5 + b - 1)
  have h8 := b8 ((a - 1) * 5 + b - 1)
  have h9 := b9 ((a - 1) * 5 + b - 1)
  split
  · omega
  · have := mul_b (a := I (q + 10) 0) (b := max 0 (max (I (q + 12) ((a - 1) * 5 + b - 1) - d) (d - I (q + 14) ((a - 1) * 5 + b - 1)))) (A := 99) (B := 24) (by omega) (by omega) (by omega) (by omega)
    omega
theorem s_costOfLink {f k f' k' : Int} (hp : isPc g q) (hB : pB I q) (hf : 1 ≤ f ∧ f ≤ 5) (hf' : 1 ≤ f' ∧ f' ≤ 5) (hk : 0 ≤ k ∧ k ≤ 108) (hk' : 0 ≤ k' ∧ k' ≤ 108) : cl 26 [.ref q, .int (iI f), .int (iI k), .int (iI f'), .int (iI k')] (mk g I) = some (.inl (some (.int (iI (linkS (pv I q) f k f' k')))), mk g I) := by
  have hp' := hp
  obtain ⟨p_0, ⟨p_1, q_1, p_2⟩, ⟨p_3, q_3, p_4⟩, ⟨p_5, q_5, p_6⟩, ⟨p_7, q_7, p_8⟩, ⟨p_9, q_9, p_10⟩, ⟨p_11, q_11, p_12⟩, ⟨p_13, q_13, p_14⟩, ⟨p_15, q_15, p_16⟩⟩ := hp
  obtain ⟨b0, b1, b2, b3, b4, b5, b6, b7, b8, b9⟩ := hB
  have a7 : ∀ i, -1000000 ≤ I (q + 12) i ∧ I (q + 12) i ≤ 1000000 := fun i => by have := b7 i; omega
  have a8 : ∀ i, -1000000 ≤ I (q + 14) i ∧ I (q + 14) i ≤ 1000000 := fun i => by have := b8 i; omega
  have a9 : ∀ i, -1000000 ≤ I (q + 16) i ∧ I (q + 16) i ≤ 1000000 := fun i => by have := b9 i; omega
  have w9 := b6 9
  have hkb := kind_b (P := pv I q) (f := f) (k := k) (f' := f') (k' := k')
  have e : (some (.inl (some (.int (iI (linkS (pv I q) f k f' k')))), mk g I) : Option Rs) = some (.inl (some (.int (iI (if kindS (pv I q) f k f' k' = 0 then (if f = f' then I (q + 10) 2 else I (q + 10) 3) else if kindS (pv I q) f k f' k' = 1 then I (q + 10) 4 * (if 0 ≤ k' - k then k' - k else -(k' - k)) else if kindS (pv I q) f k f' k' = 2 then stretchS (pv I q) (if 0 ≤ k' - k then k' - k else -(k' - k)) f f' else if kindS (pv I q) f k f' k' = 3 then I (q + 10) 1 else -1)))), mk g I) := by
    refine ans_i ?_
    rw [Int.neg_sub]
    rfl
  rw [e]
  simp (disch := first | assumption | omega) only [aft_v, aft_n, aft_t, Nat.add_assoc, Nat.reduceAdd, if_true, if_false, not_true_eq_false, not_false_eq_true, Classical.not_not, Int.reduceAdd, Int.reduceSub, Int.reduceMul, Int.reduceNeg, Int.reduceLT, Int.reduceLE, Int.reduceEq, Int.add_zero, Int.zero_add, Int.sub_zero, c_26, w_26_0, w_26_1, w_26_2, w_26_3, w_26_4, w_26_5, w_26_6, w_26_7, w_26_8, w_26_9, w_26_10, w_26_11, w_26_12, w_26_13, s_row_get, s_kindOfLink, s_costOfStretch]
  ((repeat' split) <;> try first | rfl | omega | (refine ans_i ?_; omega))
theorem link_b {f k f' k' : Int} (hB : pB I q) (hk : 0 ≤ k ∧ k ≤ 108) (hk' : 0 ≤ k' ∧ k' ≤ 108) : -1 ≤ linkS (pv I q) f k f' k' ∧ linkS (pv I q) f k f' k' ≤ 10692 := by
  have hst := fun d (hd : 0 ≤ d) => stretch_b (a := f) (b := f') hB hd
  obtain ⟨-, -, -, -, -, -, b6, -⟩ := hB
  have e : linkS (pv I q) f k f' k' = if kindS (pv I q) f k f' k' = 0 then (if f = f' then I (q + 10) 2 else I (q + 10) 3) else if kindS (pv I q) f k f' k' = 1 then I (q + 10) 4 * (if 0 ≤ k' - k then k' - k else k - k') else if kindS (pv I q) f k f' k' = 2 then stretchS (pv I q) (if 0 ≤ k' - k then k' - k else k - k') f f' else if kindS (pv I q) f k f' k' = 3 then I (q + 10) 1 else -1 := rfl
  rw [e]
  have h1 := b6 1
  have h2 := b6 2
  have h3 := b6 3
  have h4 := b6 4
  have hd : 0 ≤ (if 0 ≤ k' - k then k' - k else k - k') ∧ (if 0 ≤ k' - k then k' - k else k - k') ≤ 108 := by split <;> omega
  have hm := mul_b (a := I (q + 10) 4) (b := if 0 ≤ k' - k then k' - k else k - k') (A := 99) (B := 108) h4.1 h4.2 hd.1 hd.2
  have hs := hst _ hd.1
  generalize (if 0 ≤ k' - k then k' - k else k - k') = D at *
  (repeat' split) <;> omega
end PC
