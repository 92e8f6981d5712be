/-! The class takes tokens. -/
/-- the words of the grammar by their places -/
def txT : List (List Int) := [[104, 97, 110, 100], [114, 105, 103, 104, 116], [108, 101, 102, 116], [119, 101, 105, 103, 104, 116], [115, 112, 97, 110], [112, 108, 97, 121], [114, 101, 115, 116], [98, 121], [115, 116, 114, 101, 116, 99, 104], [99, 114, 111, 115, 115], [114, 101, 112, 101, 97, 116], [99, 104, 97, 110, 103, 101], [106, 117, 109, 112], [98, 108, 97, 99, 107], [119, 101, 97, 107], [101, 97, 115, 101], [102, 114, 101, 101], [114, 101, 97, 99, 104]]
def txW (p : Nat) : List Int := txT.getD (p - 3) []
theorem getD_all {α : Type} {Q : α → Prop} {l : List α} {d : α} {i : Nat} (h : ∀ v ∈ l, Q v) (hd : Q d) : Q (l.getD i d) := by
  rw [List.getD_eq_getElem?_getD]
  by_cases hi : i < l.length
  · rw [List.getElem?_eq_getElem hi]
    exact h _ (List.getElem_mem hi)
  · rw [List.getElem?_eq_none (by omega)]
    exact hd
theorem txW_l (p : Nat) : (txW p).length < 8 := getD_all (Q := fun l : List Int => l.length < 8) (by decide) (by decide)
theorem txW_b (p i : Nat) : 0 ≤ (txW p).getD i 0 ∧ (txW p).getD i 0 < 128 :=
  getD_all (Q := fun v : Int => 0 ≤ v ∧ v < 128) (getD_all (Q := fun l : List Int => ∀ v ∈ l, 0 ≤ v ∧ v < (128 : Int)) (by decide) (by decide)) (by decide)
/-- a text of the grammar lies at p -/
def isTs (g : Gm) (I : Mm) (p : Nat) : Prop := gt g p = 8 ∧ gt g (p + 20) = 9 ∧ gn g (p + 20) = (txW p).length ∧ ∀ i, 0 ≤ i → i < ((txW p).length : Int) → I (p + 20) i = (txW p).getD i.toNat 0
def isW (B : Int → Int) (n b : Int) (p : Nat) : Prop := tkK B n b = 1 ∧ tkE B n b - tkS B n b = (txW p).length ∧ ∀ j, 0 ≤ j → j < ((txW p).length : Int) → B (tkS B n b + j) = (txW p).getD j.toNat 0
noncomputable def wdS (B : Int → Int) (n b : Int) (p : Nat) : Int := @ite Int (isW B n b p) (Classical.propDecidable _) 1 0
theorem wdS_01 {B : Int → Int} {n b : Int} {p : Nat} : wdS B n b p = 0 ∨ wdS B n b p = 1 := by
  unfold wdS
  by_cases h : isW B n b p
  · exact Or.inr (if_pos h)
  · exact Or.inl (if_neg h)
theorem wdS_y {B : Int → Int} {n b : Int} {p : Nat} (h : isW B n b p) : wdS B n b p = 1 := by
  unfold wdS; exact if_pos h
theorem wdS_n {B : Int → Int} {n b : Int} {p : Nat} (h : ¬ isW B n b p) : wdS B n b p = 0 := by
  unfold wdS; exact if_neg h
/-- the bytes of a text -/
def txB (B : Int → Int) (n : Int) : Prop := (0 ≤ n ∧ n ≤ 600) ∧ ∀ i, 0 ≤ i → i < n → 0 ≤ B i ∧ B i ≤ 255
/-- an error or an answer -/
abbrev Rz (α : Type) : Type := (Int × Int) ⊕ α
def bnd {α β : Type} (x : Rz α) (f : α → Rz β) : Rz β := match x with
  | .inl e => .inl e
  | .inr a => f a
noncomputable def gWd (B : Int → Int) (n : Int) (p : Nat) (b : Int) : Rz Int := if wdS B n b p = 1 then .inr (tkE B n b) else .inl (-2, tkS B n b)
def gSe (B : Int → Int) (n b : Int) : Rz Int := if tkK B n b = 3 then .inr (tkE B n b) else .inl (-2, tkS B n b)
def gEn (B : Int → Int) (n b : Int) : Rz Int := if tkK B n b = 0 then .inr b else .inl (-2, tkS B n b)
def gNu (B : Int → Int) (n lo hi fi b : Int) : Rz (Int × Int) := if tkK B n b = 2 then (if lo ≤ tkN B n 1000 b ∧ tkN B n 1000 b ≤ hi then (if fi ≤ tkN B n 1000 b then .inr (tkN B n 1000 b, tkE B n b) else .inl (-4, tkS B n b)) else .inl (-3, tkS B n b)) else .inl (-2, tkS B n b)
/-- t has looked at the token behind b -/
def lx (B : Int → Int) (n : Int) (t : Nat) (b : Int) (I : Mm) : Prop := I (t + 2) = B ∧ I t 1 = n ∧ I t 4 = tkK B n b ∧ I t 5 = tkS B n b ∧ I t 6 = tkE B n b ∧ (tkK B n b = 2 → I t 7 = tkN B n 1000000 b) ∧ 0 ≤ b ∧ b ≤ n
def okT (B : Int → Int) (n : Int) (t : Nat) (b : Int) (I J : Mm) : Prop := (∀ p, ¬ p = t → J p = I p) ∧ J t 3 = I t 3 ∧ lx B n t b J
def erT (t : Nat) (e : Int × Int) (I J : Mm) : Prop := (∀ p, ¬ p = t → J p = I p) ∧ J t 2 = e.1 ∧ J t 3 = e.2
theorem okT.trans {B : Int → Int} {n : Int} {t : Nat} {b c : Int} {I J K : Mm} (h : okT B n t b I J) (h' : okT B n t c J K) : okT B n t c I K := ⟨fun p hp => (h'.1 p hp).trans (h.1 p hp), h'.2.1.trans h.2.1, h'.2.2⟩
theorem okT.er {B : Int → Int} {n : Int} {t : Nat} {b : Int} {e : Int × Int} {I J K : Mm} (h : okT B n t b I J) (h' : erT t e J K) : erT t e I K := ⟨fun p hp => (h'.1 p hp).trans (h.1 p hp), h'.2⟩
theorem isTs_c {g : Gm} {I J : Mm} {p : Nat} (h : J (p + 20) = I (p + 20)) (hp : isTs g I p) : isTs g J p := by
  unfold isTs at hp ⊢
  rw [h]; exact hp
section TT
variable {g : Gm} {I : Mm} {t : Nat} {B : Int → Int} {n b : Int}
theorem tkK_b : 0 ≤ tkK B n b ∧ tkK B n b ≤ 4 := by
  unfold tkK
  (repeat' split) <;> decide
theorem lx_b (h : lx B n t b I) (hO : txB B n) : 0 ≤ tkS B n b ∧ tkS B n b ≤ tkE B n b ∧ tkE B n b ≤ n ∧ n ≤ 600 ∧ b ≤ tkS B n b ∧ (¬ tkK B n b = 0 → tkS B n b < tkE B n b) := by
  obtain ⟨_, _, _, _, _, _, h0, h1⟩ := h
  have a := tkS_b (B := B) h1
  have c := tkE_b (B := B) h1
  exact ⟨by omega, c.1, c.2.1, hO.1.2, a.1, c.2.2⟩
theorem s_next (hT : isTx g t) (hO : txB B n) (h2 : I (t + 2) = B) (h1 : I t 1 = n) (hb : 0 ≤ I t 6 ∧ I t 6 ≤ n) : ∃ J, cl 89 [.ref t] (mk g I) = some (.inl none, mk g J) ∧ okT B n t (I t 6) I J ∧ tkF t I J := by
  have hO' : txO I t := by
    unfold txO
    rw [h1, h2]
    exact hO
  obtain ⟨J, j1, j2, j3⟩ := s_scan (g := g) (I := I) (t := t) hT hO' (by rw [h1]; exact hb)
  obtain ⟨a4, a5, a6, a7⟩ := j3
  rw [j2.2 1 (by decide) (by decide) (by decide) (by decide), j2.1 (t + 2) (by omega), h1, h2] at a4 a5 a6 a7
  refine ⟨J, j1, ⟨j2.1, j2.2 3 (by decide) (by decide) (by decide) (by decide), (j2.1 _ (by omega)).trans h2, (j2.2 1 (by decide) (by decide) (by decide) (by decide)).trans h1, a4, a5, a6, fun z => a7 (a4.trans z), hb.1, hb.2⟩, j2⟩
theorem s_scan2 (hT : isTx g t) (hO : txB B n) (h : lx B n t b I) : ∃ J, cl 89 [.ref t] (mk g I) = some (.inl none, mk g J) ∧ okT B n t (tkE B n b) I J ∧ tkF t I J := by
  have hb := lx_b h hO
  have q := s_next (g := g) (I := I) hT hO h.1 h.2.1 (by rw [h.2.2.2.2.1]; omega)
  rw [h.2.2.2.2.1] at q
  exact q
theorem s_fail {c : Int} (hT : isTx g t) (h : lx B n t b I) : ∃ J, cl 83 [.ref t, .int (iI c)] (mk g I) = some (.inl (some (.int (iI 0))), mk g J) ∧ erT t (c, tkS B n b) I J := by
  have t4 := hT.1
  have h5 := h.2.2.2.1
  refine ⟨upd2 (upd2 I t 2 c) t 3 (tkS B n b), ?_, fun p hp => by funext i; rw [upd2_p hp, upd2_p hp], by rw [upd2_i (by decide), upd2_at], upd2_at⟩
  have u : upd2 I t 2 c t 5 = tkS B n b := by rw [upd2_i (by decide)]; exact h5
  simp (maxSteps := 2000000) (disch := first | assumption | omega) only [aft_v, aft_n, aft_t, Nat.add_assoc, Nat.reduceAdd, if_true, if_false, not_true_eq_false, not_false_eq_true, Classical.not_not, Int.reduceAdd, Int.reduceSub, Int.reduceMul, Int.reduceNeg, Int.reduceLT, Int.reduceLE, Int.reduceEq, Int.add_zero, Int.zero_add, Int.sub_zero, c_83, w_83_0, u]
theorem s_isWord' {p : Nat} (hT : isTx g t) (hO : txB B n) (h : lx B n t b I) (hp : isTs g I p) : cl 88 [.ref t, .ref p] (mk g I) = some (.inl (some (.int (iI (wdS B n b p)))), mk g I) := by
  have hb := lx_b h hO
  obtain ⟨t4, tR, t2, tn⟩ := hT
  have tn : gn g (t + 1 + 1) = 600 := tn
  obtain ⟨hB, hn, h4, h5, h6, h7, b0, b1⟩ := h
  obtain ⟨p8, p9, pn, pv⟩ := hp
  have hkb := tkK_b (B := B) (n := n) (b := b)
  have hl := txW_l p
  have hlen := s_strlen (g := g) (I := I) (p := p) p8 p9 (by omega)
  rw [pn] at hlen
  by_cases k1 : tkK B n b = 1
  · by_cases k2 : tkE B n b - tkS B n b = (txW p).length
    · have key := loop_find (σ := Unit) (head := fun i _ => rn 88 5 [some (.ref t), some (.ref p), some (.int (iI i))] [] (mk g I)) (p := fun j => ¬ B (tkS B n b + j) = (txW p).getD j.toNat 0) (n := (txW p).length) (res := fun _ => some (.inl (some (.int (iI 0))), mk g I)) (re := some (.inl (some (.int (iI 1))), mk g I))
        (fun i _ i0 i1 hne => by
          have q1 := s_row_get (g := g) (I := I) (p := t + 1) (i := tkS B n b + i) tR (by omega) (by omega)
          rw [show I (t + 1 + 1) = B from hB] at q1
          have cb := txW_b p i.toNat
          have q2 := s_charAt (g := g) (I := I) (p := p) (i := i) p8 p9 i0 (by omega) (by omega) (by rw [pv i i0 i1]; exact cb)
          rw [pv i i0 i1] at q2
          have bb := hO.2 (tkS B n b + i) (by omega) (by omega)
          show rn _ _ _ _ _ = _
          simp (maxSteps := 2000000) (disch := first | assumption | omega) only [aft_v, aft_n, aft_t, Nat.add_assoc, Nat.reduceAdd, if_true, if_false, not_true_eq_false, not_false_eq_true, Classical.not_not, Int.reduceAdd, Int.reduceSub, Int.reduceMul, Int.reduceNeg, Int.reduceLT, Int.reduceLE, Int.reduceEq, Int.add_zero, Int.zero_add, Int.sub_zero, w_88_5, w_88_6, w_88_7, w_88_8, w_88_9, w_88_10, hlen, h5, q1, q2, show ¬ ((txW p).length : Int) ≤ i by omega, hne])
        (fun i _ i0 i1 hne => by
          have hne := Classical.not_not.mp hne
          have q1 := s_row_get (g := g) (I := I) (p := t + 1) (i := tkS B n b + i) tR (by omega) (by omega)
          rw [show I (t + 1 + 1) = B from hB, hne] at q1
          have cb := txW_b p i.toNat
          have q2 := s_charAt (g := g) (I := I) (p := p) (i := i) p8 p9 i0 (by omega) (by omega) (by rw [pv i i0 i1]; exact cb)
          rw [pv i i0 i1] at q2
          refine ⟨(), ?_⟩
          show rn _ _ _ _ _ = rn _ _ _ _ _
          refine (w_88_5 (by first | assumption | omega)).trans ?_
          rw [hlen, aft_v]
          refine (w_88_6 (by first | omega | assumption) (by first | omega | assumption) (by first | omega | assumption) (by first | omega | assumption)).trans ?_
          refine (if_neg (by omega)).trans ?_
          simp (maxSteps := 2000000) (disch := first | assumption | omega) only [aft_v, aft_n, aft_t, Nat.add_assoc, Nat.reduceAdd, if_true, if_false, not_true_eq_false, not_false_eq_true, Classical.not_not, Int.reduceAdd, Int.reduceSub, Int.reduceMul, Int.reduceNeg, Int.reduceLT, Int.reduceLE, Int.reduceEq, Int.add_zero, Int.zero_add, Int.sub_zero, w_88_7, w_88_8, w_88_9, w_88_11, hlen, h5, q1, q2])
        (fun _ => by
          show rn _ _ _ _ _ = _
          simp (maxSteps := 2000000) (disch := first | assumption | omega) only [aft_v, aft_n, aft_t, Nat.add_assoc, Nat.reduceAdd, if_true, if_false, not_true_eq_false, not_false_eq_true, Classical.not_not, Int.reduceAdd, Int.reduceSub, Int.reduceMul, Int.reduceNeg, Int.reduceLT, Int.reduceLE, Int.reduceEq, Int.add_zero, Int.zero_add, Int.sub_zero, w_88_5, w_88_6, w_88_12, hlen, Int.le_refl])
        (by omega) ()
      have key : rn 88 5 [some (.ref t), some (.ref p), some (.int (iI 0))] [] (mk g I) = _ := key
      have e1 : iI (tkE B n b - tkS B n b) = iI ((txW p).length : Int) := by rw [k2]
      have start : cl 88 [.ref t, .ref p] (mk g I) = rn 88 5 [some (.ref t), some (.ref p), some (.int (iI 0))] [] (mk g I) := by
        simp (maxSteps := 2000000) (disch := first | assumption | omega) only [aft_v, aft_n, aft_t, Nat.add_assoc, Nat.reduceAdd, if_true, if_false, not_true_eq_false, not_false_eq_true, Classical.not_not, Int.reduceAdd, Int.reduceSub, Int.reduceMul, Int.reduceNeg, Int.reduceLT, Int.reduceLE, Int.reduceEq, Int.add_zero, Int.zero_add, Int.sub_zero, c_88, w_88_0, w_88_1, h4, h5, h6, k1, hlen]
        rw [k2]
        simp (maxSteps := 2000000) (disch := first | assumption | omega) only [aft_v, aft_n, aft_t, Nat.add_assoc, Nat.reduceAdd, if_true, if_false, not_true_eq_false, not_false_eq_true, Classical.not_not, Int.reduceAdd, Int.reduceSub, Int.reduceMul, Int.reduceNeg, Int.reduceLT, Int.reduceLE, Int.reduceEq, Int.add_zero, Int.zero_add, Int.sub_zero, w_88_2, w_88_4]
      rw [start, key]
      rcases fnd_spec (p := fun j => ¬ B (tkS B n b + j) = (txW p).getD j.toNat 0) (n := (txW p).length) (by omega) with ⟨f1, f2⟩ | ⟨f0, f1, f2, f3⟩
      · rw [f1, if_pos (by decide), wdS_y ⟨k1, k2, fun j j0 j1 => Classical.not_not.mp (f2 j j0 j1)⟩]
      · rw [if_neg (by omega), wdS_n (fun z => f2 (z.2.2 _ f0 f1))]
    · rw [wdS_n (fun z => k2 z.2.1)]
      simp (maxSteps := 2000000) (disch := first | assumption | omega) only [aft_v, aft_n, aft_t, Nat.add_assoc, Nat.reduceAdd, if_true, if_false, not_true_eq_false, not_false_eq_true, Classical.not_not, Int.reduceAdd, Int.reduceSub, Int.reduceMul, Int.reduceNeg, Int.reduceLT, Int.reduceLE, Int.reduceEq, Int.add_zero, Int.zero_add, Int.sub_zero, c_88, w_88_0, w_88_1, h4, h5, h6, k1, hlen]
      simp (maxSteps := 2000000) (disch := first | assumption | omega) only [aft_v, aft_n, aft_t, Nat.add_assoc, Nat.reduceAdd, if_true, if_false, not_true_eq_false, not_false_eq_true, Classical.not_not, Int.reduceAdd, Int.reduceSub, Int.reduceMul, Int.reduceNeg, Int.reduceLT, Int.reduceLE, Int.reduceEq, Int.add_zero, Int.zero_add, Int.sub_zero, w_88_2, w_88_3, k2]
  · rw [wdS_n (fun z => k1 z.1)]
    simp (maxSteps := 2000000) (disch := first | assumption | omega) only [aft_v, aft_n, aft_t, Nat.add_assoc, Nat.reduceAdd, if_true, if_false, not_true_eq_false, not_false_eq_true, Classical.not_not, Int.reduceAdd, Int.reduceSub, Int.reduceMul, Int.reduceNeg, Int.reduceLT, Int.reduceLE, Int.reduceEq, Int.add_zero, Int.zero_add, Int.sub_zero, c_88, w_88_0, w_88_3, h4, k1]
theorem s_takeWord {p : Nat} (hT : isTx g t) (hO : txB B n) (h : lx B n t b I) (hp : isTs g I p) :
    (∃ e J, gWd B n p b = .inl e ∧ cl 84 [.ref t, .ref p] (mk g I) = some (.inl (some (.int (iI 0))), mk g J) ∧ erT t e I J) ∨ ∃ b' J, gWd B n p b = .inr b' ∧ b < b' ∧ cl 84 [.ref t, .ref p] (mk g I) = some (.inl (some (.int (iI 1))), mk g J) ∧ okT B n t b' I J := by
  have q := s_isWord' hT hO h hp
  have t4 := hT.1
  have hb := lx_b h hO
  by_cases hw : isW B n b p
  · rw [wdS_y hw] at q
    obtain ⟨J, j1, j2, _⟩ := s_scan2 hT hO h
    refine Or.inr ⟨tkE B n b, J, by unfold gWd; rw [wdS_y hw, if_pos rfl], by have := hb.2.2.2.2.2 (by rw [hw.1]; decide); omega, ?_, j2⟩
    simp (maxSteps := 2000000) (disch := first | assumption | omega) only [aft_v, aft_n, aft_t, Nat.add_assoc, Nat.reduceAdd, if_true, if_false, not_true_eq_false, not_false_eq_true, Classical.not_not, Int.reduceAdd, Int.reduceSub, Int.reduceMul, Int.reduceNeg, Int.reduceLT, Int.reduceLE, Int.reduceEq, Int.add_zero, Int.zero_add, Int.sub_zero, c_84, w_84_0, w_84_1, w_84_2, w_84_3, w_84_4, w_84_5, q, j1, show ¬ (1 : Int) = 0 by decide]
  · rw [wdS_n hw] at q
    obtain ⟨J, j1, j2⟩ := s_fail (c := -2) hT h
    refine Or.inl ⟨_, J, by unfold gWd; rw [wdS_n hw, if_neg (by decide)], ?_, j2⟩
    simp (maxSteps := 2000000) (disch := first | assumption | omega) only [aft_v, aft_n, aft_t, Nat.add_assoc, Nat.reduceAdd, if_true, if_false, not_true_eq_false, not_false_eq_true, Classical.not_not, Int.reduceAdd, Int.reduceSub, Int.reduceMul, Int.reduceNeg, Int.reduceLT, Int.reduceLE, Int.reduceEq, Int.add_zero, Int.zero_add, Int.sub_zero, c_84, w_84_0, w_84_1, w_84_2, w_84_3, w_84_4, w_84_5, q, j1]
theorem s_takeSemicolon (hT : isTx g t) (hO : txB B n) (h : lx B n t b I) :
    (∃ e J, gSe B n b = .inl e ∧ cl 85 [.ref t] (mk g I) = some (.inl (some (.int (iI 0))), mk g J) ∧ erT t e I J) ∨ ∃ b' J, gSe B n b = .inr b' ∧ b < b' ∧ cl 85 [.ref t] (mk g I) = some (.inl (some (.int (iI 1))), mk g J) ∧ okT B n t b' I J := by
  have t4 := hT.1
  have hb := lx_b h hO
  have h4 := h.2.2.1
  have hkb := tkK_b (B := B) (n := n) (b := b)
  by_cases hw : tkK B n b = 3
  · obtain ⟨J, j1, j2, _⟩ := s_scan2 hT hO h
    refine Or.inr ⟨tkE B n b, J, by unfold gSe; rw [if_pos hw], by have := hb.2.2.2.2.2 (by omega); omega, ?_, j2⟩
    simp (maxSteps := 2000000) (disch := first | assumption | omega) only [aft_v, aft_n, aft_t, Nat.add_assoc, Nat.reduceAdd, if_true, if_false, not_true_eq_false, not_false_eq_true, Classical.not_not, Int.reduceAdd, Int.reduceSub, Int.reduceMul, Int.reduceNeg, Int.reduceLT, Int.reduceLE, Int.reduceEq, Int.add_zero, Int.zero_add, Int.sub_zero, c_85, w_85_0, w_85_1, w_85_2, w_85_3, w_85_4, h4, hw, j1]
  · obtain ⟨J, j1, j2⟩ := s_fail (c := -2) hT h
    refine Or.inl ⟨_, J, by unfold gSe; rw [if_neg hw], ?_, j2⟩
    simp (maxSteps := 2000000) (disch := first | assumption | omega) only [aft_v, aft_n, aft_t, Nat.add_assoc, Nat.reduceAdd, if_true, if_false, not_true_eq_false, not_false_eq_true, Classical.not_not, Int.reduceAdd, Int.reduceSub, Int.reduceMul, Int.reduceNeg, Int.reduceLT, Int.reduceLE, Int.reduceEq, Int.add_zero, Int.zero_add, Int.sub_zero, c_85, w_85_0, w_85_1, w_85_2, w_85_3, w_85_4, h4, hw, j1]
theorem s_takeEnd (hT : isTx g t) (h : lx B n t b I) :
    (∃ e J, gEn B n b = .inl e ∧ cl 86 [.ref t] (mk g I) = some (.inl (some (.int (iI 0))), mk g J) ∧ erT t e I J) ∨ (gEn B n b = .inr b ∧ cl 86 [.ref t] (mk g I) = some (.inl (some (.int (iI 1))), mk g I)) := by
  have t4 := hT.1
  have h4 := h.2.2.1
  have hkb := tkK_b (B := B) (n := n) (b := b)
  by_cases hw : tkK B n b = 0
  · refine Or.inr ⟨by unfold gEn; rw [if_pos hw], ?_⟩
    simp (maxSteps := 2000000) (disch := first | assumption | omega) only [aft_v, aft_n, aft_t, Nat.add_assoc, Nat.reduceAdd, if_true, if_false, not_true_eq_false, not_false_eq_true, Classical.not_not, Int.reduceAdd, Int.reduceSub, Int.reduceMul, Int.reduceNeg, Int.reduceLT, Int.reduceLE, Int.reduceEq, Int.add_zero, Int.zero_add, Int.sub_zero, c_86, w_86_0, w_86_1, w_86_2, w_86_3, w_86_4, w_86_5, h4, hw]
  · obtain ⟨J, j1, j2⟩ := s_fail (c := -2) hT h
    refine Or.inl ⟨_, J, by unfold gEn; rw [if_neg hw], ?_, j2⟩
    simp (maxSteps := 2000000) (disch := first | assumption | omega) only [aft_v, aft_n, aft_t, Nat.add_assoc, Nat.reduceAdd, if_true, if_false, not_true_eq_false, not_false_eq_true, Classical.not_not, Int.reduceAdd, Int.reduceSub, Int.reduceMul, Int.reduceNeg, Int.reduceLT, Int.reduceLE, Int.reduceEq, Int.add_zero, Int.zero_add, Int.sub_zero, c_86, w_86_0, w_86_1, w_86_2, w_86_3, w_86_4, w_86_5, h4, hw, j1]
theorem tkN_2 : 0 ≤ tkN B n 1000000 b ∧ tkN B n 1000000 b ≤ 1000000 ∧ tkN B n 1000 b = min 1000 (tkN B n 1000000 b) := by
  have h := nuS_r (B := B) (n := n) (c := 1000000) (a := 0) (b := tkS B n b) (by decide) (by decide)
  exact ⟨h.1, h.2, nuS_c (by decide) (by decide) (by decide)⟩
theorem s_takeNumber {lo hi fi : Int} (hT : isTx g t) (hO : txB B n) (h : lx B n t b I) (hlo : 0 ≤ lo) (hhi : hi < 1000) (hfi : 0 ≤ fi ∧ fi < 1000) (hr : lo ≤ hi) :
    (∃ e J, gNu B n lo hi fi b = .inl e ∧ cl 87 [.ref t, .int (iI lo), .int (iI hi), .int (iI fi)] (mk g I) = some (.inl (some (.int (iI 0))), mk g J) ∧ erT t e I J) ∨ ∃ v b' J, gNu B n lo hi fi b = .inr (v, b') ∧ (lo ≤ v ∧ v ≤ hi ∧ fi ≤ v) ∧ b < b' ∧ cl 87 [.ref t, .int (iI lo), .int (iI hi), .int (iI fi)] (mk g I) = some (.inl (some (.int (iI 1))), mk g J) ∧ okT B n t b' I J ∧ J t 8 = v := by
  have t4 := hT.1
  have hb := lx_b h hO
  have h4 := h.2.2.1
  have hkb := tkK_b (B := B) (n := n) (b := b)
  obtain ⟨N, hN⟩ : ∃ N, N = tkN B n 1000000 b := ⟨_, rfl⟩
  have hnb := tkN_2 (B := B) (n := n) (b := b)
  rw [← hN] at hnb
  by_cases k2 : tkK B n b = 2
  · have h7 : I t 7 = N := (h.2.2.2.2.2.1 k2).trans hN.symm
    have q := s_isWithin (g := g) (I := I) (a := N) (b := lo) (c := hi) (by omega) (by omega) (by omega)
    by_cases hw : lo ≤ N ∧ N ≤ hi
    · rw [if_pos hw] at q
      have e1 : tkN B n 1000 b = N := by omega
      by_cases hf : fi ≤ N
      · have h' : lx B n t b (upd2 I t 8 N) := by
          obtain ⟨a2, a1, a4, a5, a6, a7, a8⟩ := h
          exact ⟨by funext i; rw [upd2_p (by omega), a2], by rw [upd2_i (by decide), a1], by rw [upd2_i (by decide), a4], by rw [upd2_i (by decide), a5], by rw [upd2_i (by decide), a6], fun z => by rw [upd2_i (by decide), a7 z], a8⟩
        obtain ⟨J, j1, j2, j3⟩ := s_scan2 (g := g) hT hO h'
        refine Or.inr ⟨N, tkE B n b, J, by unfold gNu; rw [if_pos k2, e1, if_pos hw, if_pos hf], ⟨hw.1, hw.2, hf⟩, by have := hb.2.2.2.2.2 (by omega); omega, ?_, ⟨fun p hp => by rw [j2.1 p hp]; funext i; rw [upd2_p hp], by rw [j2.2.1, upd2_i (by decide)], j2.2.2⟩, by rw [j3.2 8 (by decide) (by decide) (by decide) (by decide), upd2_at]⟩
        simp (maxSteps := 2000000) (disch := first | assumption | omega) only [aft_v, aft_n, aft_t, Nat.add_assoc, Nat.reduceAdd, if_true, if_false, not_true_eq_false, not_false_eq_true, Classical.not_not, Int.reduceAdd, Int.reduceSub, Int.reduceMul, Int.reduceNeg, Int.reduceLT, Int.reduceLE, Int.reduceEq, Int.add_zero, Int.zero_add, Int.sub_zero, c_87, w_87_0, w_87_1, w_87_2, w_87_3, w_87_4, w_87_5, w_87_6, w_87_7, w_87_8, w_87_9, w_87_10, w_87_11, h4, h7, k2, q, hf, j1, show ¬ (1 : Int) = 0 by decide]
      · obtain ⟨J, j1, j2⟩ := s_fail (c := -4) hT h
        refine Or.inl ⟨_, J, by unfold gNu; rw [if_pos k2, e1, if_pos hw, if_neg hf], ?_, j2⟩
        simp (maxSteps := 2000000) (disch := first | assumption | omega) only [aft_v, aft_n, aft_t, Nat.add_assoc, Nat.reduceAdd, if_true, if_false, not_true_eq_false, not_false_eq_true, Classical.not_not, Int.reduceAdd, Int.reduceSub, Int.reduceMul, Int.reduceNeg, Int.reduceLT, Int.reduceLE, Int.reduceEq, Int.add_zero, Int.zero_add, Int.sub_zero, c_87, w_87_0, w_87_1, w_87_2, w_87_3, w_87_4, w_87_5, w_87_6, w_87_7, w_87_8, w_87_9, w_87_10, w_87_11, h4, h7, k2, q, hf, j1, show ¬ (1 : Int) = 0 by decide]
    · rw [if_neg hw] at q
      have e1 : ¬ (lo ≤ tkN B n 1000 b ∧ tkN B n 1000 b ≤ hi) := by omega
      obtain ⟨J, j1, j2⟩ := s_fail (c := -3) hT h
      refine Or.inl ⟨_, J, by unfold gNu; rw [if_pos k2, if_neg e1], ?_, j2⟩
      simp (maxSteps := 2000000) (disch := first | assumption | omega) only [aft_v, aft_n, aft_t, Nat.add_assoc, Nat.reduceAdd, if_true, if_false, not_true_eq_false, not_false_eq_true, Classical.not_not, Int.reduceAdd, Int.reduceSub, Int.reduceMul, Int.reduceNeg, Int.reduceLT, Int.reduceLE, Int.reduceEq, Int.add_zero, Int.zero_add, Int.sub_zero, c_87, w_87_0, w_87_1, w_87_2, w_87_3, w_87_4, w_87_5, w_87_6, w_87_7, w_87_8, w_87_9, w_87_10, w_87_11, h4, h7, k2, q, j1]
  · obtain ⟨J, j1, j2⟩ := s_fail (c := -2) hT h
    refine Or.inl ⟨_, J, by unfold gNu; rw [if_neg k2], ?_, j2⟩
    simp (maxSteps := 2000000) (disch := first | assumption | omega) only [aft_v, aft_n, aft_t, Nat.add_assoc, Nat.reduceAdd, if_true, if_false, not_true_eq_false, not_false_eq_true, Classical.not_not, Int.reduceAdd, Int.reduceSub, Int.reduceMul, Int.reduceNeg, Int.reduceLT, Int.reduceLE, Int.reduceEq, Int.add_zero, Int.zero_add, Int.sub_zero, c_87, w_87_0, w_87_1, w_87_2, w_87_3, w_87_4, w_87_5, w_87_6, w_87_7, w_87_8, w_87_9, w_87_10, w_87_11, h4, k2, j1]
theorem s_beginReading (hT : isTx g t) (hO : txB B n) (h2 : I (t + 2) = B) (h1 : I t 1 = n) : ∃ J, cl 82 [.ref t] (mk g I) = some (.inl none, mk g J) ∧ (∀ p, ¬ p = t → J p = I p) ∧ J t 3 = -1 ∧ lx B n t 0 J := by
  have t4 := hT.1
  obtain ⟨K, hK⟩ : ∃ K, K = upd2 (upd2 I t 3 (-1)) t 6 0 := ⟨_, rfl⟩
  have k6 : K t 6 = 0 := by rw [hK, upd2_at]
  obtain ⟨J, j1, j2, _⟩ := s_next (g := g) (I := K) (t := t) (B := B) (n := n) hT hO (by rw [hK]; funext i; rw [upd2_p (by omega), upd2_p (by omega), h2]) (by rw [hK, upd2_i (by decide), upd2_i (by decide), h1]) (by rw [k6]; exact ⟨by decide, hO.1.1⟩)
  rw [k6] at j2
  refine ⟨J, ?_, fun p hp => by rw [j2.1 p hp, hK]; funext i; rw [upd2_p hp, upd2_p hp], by rw [j2.2.1, hK, upd2_i (by decide), upd2_at], j2.2.2⟩
  simp (maxSteps := 2000000) (disch := first | assumption | omega) only [aft_v, aft_n, aft_t, Nat.add_assoc, Nat.reduceAdd, if_true, if_false, not_true_eq_false, not_false_eq_true, Classical.not_not, Int.reduceAdd, Int.reduceSub, Int.reduceMul, Int.reduceNeg, Int.reduceLT, Int.reduceLE, Int.reduceEq, Int.add_zero, Int.zero_add, Int.sub_zero, c_82, w_82_0, w_82_1, ← hK, j1]
end TT
