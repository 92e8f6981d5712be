/-! Tokens of a text, and how the class looks for them. -/
theorem upd2_2 {I : Mm} {p : Nat} {i v w : Int} : upd2 (upd2 I p i v) p i w = upd2 I p i w := by
  funext q j
  by_cases h : q = p ∧ j = i
  · rw [h.1, h.2, upd2_at, upd2_at]
  · show (if q = p ∧ j = i then w else if q = p ∧ j = i then v else I q j) = if q = p ∧ j = i then w else I q j
    rw [if_neg h, if_neg h, if_neg h]
theorem upd2_x {I : Mm} {p : Nat} {i j v w : Int} (h : ¬ i = j) : upd2 (upd2 I p i v) p j w = upd2 (upd2 I p j w) p i v := by
  funext q k
  show (if q = p ∧ k = j then w else if q = p ∧ k = i then v else I q k) = if q = p ∧ k = i then v else if q = p ∧ k = j then w else I q k
  by_cases h1 : q = p ∧ k = j
  · rw [if_pos h1, if_neg (fun z => h (z.2.symm.trans h1.2)), if_pos h1]
  · rw [if_neg h1]
    by_cases h2 : q = p ∧ k = i
    · rw [if_pos h2, if_pos h2]
    · rw [if_neg h2, if_neg h2, if_neg h1]
def spB (B : Int → Int) (n k : Int) : Bool := decide (k < n ∧ B k = 32)
def ltB (B : Int → Int) (n k : Int) : Bool := decide (k < n ∧ 97 ≤ B k ∧ B k ≤ 122)
def dgB (B : Int → Int) (n k : Int) : Bool := decide (k < n ∧ 48 ≤ B k ∧ B k ≤ 57)
def runF (q : Int → Bool) : Nat → Int → Int
  | 0, b => b
  | f + 1, b => if q b = true then runF q f (b + 1) else b
/-- where the run ends that begins here -/
def runS (q : Int → Bool) (n b : Int) : Int := runF q (n - b).toNat b
def nuF (B : Int → Int) (n c : Int) : Nat → Int → Int → Int
  | 0, a, _ => a
  | f + 1, a, b => if dgB B n b = true then nuF B n c f (min c (a * 10 + B b - 48)) (b + 1) else a
/-- the number that goes on here, not above c -/
def nuS (B : Int → Int) (n c a b : Int) : Int := nuF B n c (n - b).toNat a b
theorem runS_y {q : Int → Bool} {n b : Int} (hn : b < n) (h : q b = true) : runS q n b = runS q n (b + 1) := by
  unfold runS
  rw [show (n - b).toNat = (n - (b + 1)).toNat + 1 by omega]
  simp only [runF, h, if_true]
theorem runS_n {q : Int → Bool} {n b : Int} (h : ¬ q b = true) : runS q n b = b := by
  unfold runS
  cases (n - b).toNat with
  | zero => rfl
  | succ d => simp only [runF, h, if_false]; simp
theorem runS_b {q : Int → Bool} {n b : Int} (hq : ∀ k, q k = true → k < n) (hb : b ≤ n) : b ≤ runS q n b ∧ runS q n b ≤ n ∧ ¬ q (runS q n b) = true := by
  have key : ∀ (d : Nat) (b : Int), (n - b).toNat = d → b ≤ n → b ≤ runS q n b ∧ runS q n b ≤ n ∧ ¬ q (runS q n b) = true := by
    intro d
    induction d with
    | zero =>
      intro b hd hb
      have h : ¬ q b = true := fun z => by have := hq b z; omega
      rw [runS_n h]
      exact ⟨by omega, hb, h⟩
    | succ d ih =>
      intro b hd hb
      by_cases h : q b = true
      · have := hq b h
        have := ih (b + 1) (by omega) (by omega)
        rw [runS_y (by omega) h]
        exact ⟨by omega, this.2⟩
      · rw [runS_n h]
        exact ⟨by omega, hb, h⟩
  exact key _ b rfl hb
theorem nuS_y {B : Int → Int} {n c a b : Int} (hn : b < n) (h : dgB B n b = true) : nuS B n c a b = nuS B n c (min c (a * 10 + B b - 48)) (b + 1) := by
  unfold nuS
  rw [show (n - b).toNat = (n - (b + 1)).toNat + 1 by omega]
  simp only [nuF, h, if_true]
theorem nuS_n {B : Int → Int} {n c a b : Int} (h : ¬ dgB B n b = true) : nuS B n c a b = a := by
  unfold nuS
  cases (n - b).toNat with
  | zero => rfl
  | succ d => simp only [nuF, h, if_false]; simp
theorem loop_run {head : Int → Option Rs} {q : Int → Bool} {n : Int} (hq : ∀ k, q k = true → k < n) : ∀ b : Int, (∀ k, b ≤ k → q k = true → head k = head (k + 1)) → head b = head (runS q n b) := by
  have key : ∀ (d : Nat) (b : Int), (n - b).toNat = d → (∀ k, b ≤ k → q k = true → head k = head (k + 1)) → head b = head (runS q n b) := by
    intro d
    induction d with
    | zero =>
      intro b hd hs
      have h : ¬ q b = true := fun z => by have := hq b z; omega
      rw [runS_n h]
    | succ d ih =>
      intro b hd hs
      by_cases h : q b = true
      · rw [hs b (Int.le_refl _) h, runS_y (by omega) h]
        exact ih (b + 1) (by omega) (fun k hk => hs k (by omega))
      · rw [runS_n h]
  exact fun b => key _ b rfl
theorem loop_num {head : Int → Int → Option Rs} {B : Int → Int} {n c : Int} : ∀ a b : Int, (0 ≤ a ∧ a ≤ c) → 0 ≤ c → (∀ a k, 0 ≤ a → a ≤ c → b ≤ k → dgB B n k = true → head a k = head (min c (a * 10 + B k - 48)) (k + 1)) → head a b = head (nuS B n c a b) (runS (dgB B n) n b) := by
  have key : ∀ (d : Nat) (a b : Int), (n - b).toNat = d → (0 ≤ a ∧ a ≤ c) → 0 ≤ c → (∀ a k, 0 ≤ a → a ≤ c → b ≤ k → dgB B n k = true → head a k = head (min c (a * 10 + B k - 48)) (k + 1)) → head a b = head (nuS B n c a b) (runS (dgB B n) n b) := by
    intro d
    induction d with
    | zero =>
      intro a b hd ha hc hs
      have h : ¬ dgB B n b = true := fun z => by have := of_decide_eq_true z; omega
      rw [runS_n h, nuS_n h]
    | succ d ih =>
      intro a b hd ha hc hs
      by_cases h : dgB B n b = true
      · have hb := of_decide_eq_true h
        rw [hs a b ha.1 ha.2 (Int.le_refl _) h, runS_y (by omega) h, nuS_y (by omega) h]
        exact ih _ (b + 1) (by omega) (by omega) hc (fun a k h1 h2 hk => hs a k h1 h2 (by omega))
      · rw [runS_n h, nuS_n h]
  exact fun a b => key _ a b rfl
theorem nuS_c {B : Int → Int} {n c d a a' b : Int} (hd : 0 ≤ d ∧ d ≤ c) (ha : 0 ≤ a) (h : a' = min d a) : nuS B n d a' b = min d (nuS B n c a b) := by
  have key : ∀ (f : Nat) (a a' b : Int), (n - b).toNat = f → 0 ≤ a → a' = min d a → nuS B n d a' b = min d (nuS B n c a b) := by
    intro f
    induction f with
    | zero =>
      intro a a' b hf ha h
      have hn : ¬ dgB B n b = true := fun z => by have := of_decide_eq_true z; omega
      rw [nuS_n hn, nuS_n hn]; exact h
    | succ f ih =>
      intro a a' b hf ha h
      by_cases hn : dgB B n b = true
      · have hb := of_decide_eq_true hn
        rw [nuS_y (by omega) hn, nuS_y (by omega) hn]
        exact ih _ _ (b + 1) (by omega) (by omega) (by omega)
      · rw [nuS_n hn, nuS_n hn]; exact h
  exact key _ a a' b rfl ha h
theorem nuS_r {B : Int → Int} {n c a b : Int} (hc : 0 ≤ c) (ha : 0 ≤ a ∧ a ≤ c) : 0 ≤ nuS B n c a b ∧ nuS B n c a b ≤ c := by
  have key : ∀ (f : Nat) (a b : Int), (n - b).toNat = f → (0 ≤ a ∧ a ≤ c) → 0 ≤ nuS B n c a b ∧ nuS B n c a b ≤ c := by
    intro f
    induction f with
    | zero =>
      intro a b hf ha
      have hn : ¬ dgB B n b = true := fun z => by have := of_decide_eq_true z; omega
      rw [nuS_n hn]; exact ha
    | succ f ih =>
      intro a b hf ha
      by_cases hn : dgB B n b = true
      · have hb := of_decide_eq_true hn
        rw [nuS_y (by omega) hn]
        exact ih _ (b + 1) (by omega) (by omega)
      · rw [nuS_n hn]; exact ha
  exact key _ a b rfl ha
/-- the token behind b: where it starts, its kind, where it ends, its number -/
def tkS (B : Int → Int) (n b : Int) : Int := runS (spB B n) n b
def tkK (B : Int → Int) (n b : Int) : Int := if n ≤ tkS B n b then 0 else if ltB B n (tkS B n b) = true then 1 else if dgB B n (tkS B n b) = true then 2 else if B (tkS B n b) = 59 then 3 else 4
def tkE (B : Int → Int) (n b : Int) : Int := if tkK B n b = 0 then tkS B n b else if tkK B n b = 1 then runS (ltB B n) n (tkS B n b) else if tkK B n b = 2 then runS (dgB B n) n (tkS B n b) else tkS B n b + 1
def tkN (B : Int → Int) (n c b : Int) : Int := nuS B n c 0 (tkS B n b)
theorem spB_n {B : Int → Int} {n k : Int} (h : spB B n k = true) : k < n := (of_decide_eq_true h).1
theorem ltB_n {B : Int → Int} {n k : Int} (h : ltB B n k = true) : k < n := (of_decide_eq_true h).1
theorem dgB_n {B : Int → Int} {n k : Int} (h : dgB B n k = true) : k < n := (of_decide_eq_true h).1
theorem tkS_b {B : Int → Int} {n b : Int} (h : b ≤ n) : b ≤ tkS B n b ∧ tkS B n b ≤ n ∧ ¬ spB B n (tkS B n b) = true := runS_b (fun _ => spB_n) h
theorem tkE_b {B : Int → Int} {n b : Int} (h : b ≤ n) : tkS B n b ≤ tkE B n b ∧ tkE B n b ≤ n ∧ (¬ tkK B n b = 0 → tkS B n b < tkE B n b) := by
  have h1 := tkS_b (B := B) h
  unfold tkE
  by_cases k0 : tkK B n b = 0
  · rw [if_pos k0]; exact ⟨by omega, by omega, fun z => absurd k0 z⟩
  rw [if_neg k0]
  have hs : ¬ n ≤ tkS B n b := fun z => k0 (if_pos z)
  by_cases k1 : tkK B n b = 1
  · rw [if_pos k1]
    have h2 := runS_b (q := ltB B n) (fun _ => ltB_n) h1.2.1
    have hl : ltB B n (tkS B n b) = true := by
      unfold tkK at k1
      rw [if_neg hs] at k1
      by_cases hl : ltB B n (tkS B n b) = true
      · exact hl
      · rw [if_neg hl] at k1
        exfalso; revert k1; (repeat' split) <;> decide
    have h3 := runS_y (q := ltB B n) (n := n) (by omega) hl
    have h4 := runS_b (q := ltB B n) (fun _ => ltB_n) (show tkS B n b + 1 ≤ n by omega)
    exact ⟨by omega, by omega, fun _ => by omega⟩
  rw [if_neg k1]
  by_cases k2 : tkK B n b = 2
  · rw [if_pos k2]
    have hl : dgB B n (tkS B n b) = true := by
      unfold tkK at k2
      rw [if_neg hs] at k2
      by_cases hl : dgB B n (tkS B n b) = true
      · exact hl
      · rw [if_neg hl] at k2
        exfalso; revert k2; (repeat' split) <;> decide
    have h2 := runS_b (q := dgB B n) (fun _ => dgB_n) h1.2.1
    have h3 := runS_y (q := dgB B n) (n := n) (by omega) hl
    have h4 := runS_b (q := dgB B n) (fun _ => dgB_n) (show tkS B n b + 1 ≤ n by omega)
    exact ⟨by omega, by omega, fun _ => by omega⟩
  rw [if_neg k2]
  exact ⟨by omega, by omega, fun _ => by omega⟩
/-- the class has looked at the token behind b -/
def tkI (I : Mm) (t : Nat) (b : Int) : Prop := I t 4 = tkK (I (t + 2)) (I t 1) b ∧ I t 5 = tkS (I (t + 2)) (I t 1) b ∧ I t 6 = tkE (I (t + 2)) (I t 1) b ∧ (I t 4 = 2 → I t 7 = tkN (I (t + 2)) (I t 1) 1000000 b)
/-- only the token of t has changed -/
def tkF (t : Nat) (I J : Mm) : Prop := (∀ p, ¬ p = t → J p = I p) ∧ ∀ i, ¬ i = 4 → ¬ i = 5 → ¬ i = 6 → ¬ i = 7 → J t i = I t i
/-- the bytes of a text -/
def txO (I : Mm) (t : Nat) : Prop := (0 ≤ I t 1 ∧ I t 1 ≤ 600) ∧ ∀ i, 0 ≤ i → i < I t 1 → 0 ≤ I (t + 2) i ∧ I (t + 2) i ≤ 255
section LX
variable {g : Gm} {I : Mm} {t : Nat}
theorem s_isLet {k : Int} (hT : isTx g t) (hO : txO I t) (h0 : 0 ≤ k) (h1 : k < I t 1) : cl 90 [.ref t, .int (iI k)] (mk g I) = some (.inl (some (.int (iI (if ltB (I (t + 2)) (I t 1) k = true then 1 else 0)))), mk g I) := by
  obtain ⟨t4, tR, t2, tn⟩ := hT
  have tn : gn g (t + 1 + 1) = 600 := tn
  have hO1 := hO.1
  have q := s_row_get (g := g) (I := I) (p := t + 1) (i := k) tR h0 (by omega)
  have hb := hO.2 k h0 h1
  have q2 := s_isWithin (g := g) (I := I) (a := I (t + 2) k) (b := 97) (c := 122) (by omega) (by omega) (by omega)
  have e : (ltB (I (t + 2)) (I t 1) k = true) = (97 ≤ I (t + 2) k ∧ I (t + 2) k ≤ 122) := by
    unfold ltB
    rw [decide_eq_true_eq]
    exact propext ⟨fun z => z.2, fun z => ⟨h1, z⟩⟩
  simp only [e]
  simp (maxSteps := 2000000) (disch := first | assumption | omega) only [aft_v, aft_n, aft_t, Nat.add_assoc, Nat.reduceAdd, if_true, if_false, not_true_eq_false, not_false_eq_true, Classical.not_not, Int.reduceAdd, Int.reduceSub, Int.reduceMul, Int.reduceNeg, Int.reduceLT, Int.reduceLE, Int.reduceEq, Int.add_zero, Int.zero_add, Int.sub_zero, c_90, w_90_0, w_90_1, w_90_2, q, q2, bz01]
theorem s_isDig {k : Int} (hT : isTx g t) (hO : txO I t) (h0 : 0 ≤ k) (h1 : k < I t 1) : cl 91 [.ref t, .int (iI k)] (mk g I) = some (.inl (some (.int (iI (if dgB (I (t + 2)) (I t 1) k = true then 1 else 0)))), mk g I) := by
  obtain ⟨t4, tR, t2, tn⟩ := hT
  have tn : gn g (t + 1 + 1) = 600 := tn
  have hO1 := hO.1
  have q := s_row_get (g := g) (I := I) (p := t + 1) (i := k) tR h0 (by omega)
  have hb := hO.2 k h0 h1
  have q2 := s_isWithin (g := g) (I := I) (a := I (t + 2) k) (b := 48) (c := 57) (by omega) (by omega) (by omega)
  have e : (dgB (I (t + 2)) (I t 1) k = true) = (48 ≤ I (t + 2) k ∧ I (t + 2) k ≤ 57) := by
    unfold dgB
    rw [decide_eq_true_eq]
    exact propext ⟨fun z => z.2, fun z => ⟨h1, z⟩⟩
  simp only [e]
  simp (maxSteps := 2000000) (disch := first | assumption | omega) only [aft_v, aft_n, aft_t, Nat.add_assoc, Nat.reduceAdd, if_true, if_false, not_true_eq_false, not_false_eq_true, Classical.not_not, Int.reduceAdd, Int.reduceSub, Int.reduceMul, Int.reduceNeg, Int.reduceLT, Int.reduceLE, Int.reduceEq, Int.add_zero, Int.zero_add, Int.sub_zero, c_91, w_91_0, w_91_1, w_91_2, q, q2, bz01]
theorem txO_c {J : Mm} (h1 : J t 1 = I t 1) (h2 : J (t + 2) = I (t + 2)) (hO : txO I t) : txO J t := by
  unfold txO at hO ⊢
  rw [h1, h2]; exact hO
theorem s_scan (hT : isTx g t) (hO : txO I t) (hb : 0 ≤ I t 6 ∧ I t 6 ≤ I t 1) : ∃ J, cl 89 [.ref t] (mk g I) = some (.inl none, mk g J) ∧ tkF t I J ∧ tkI J t (I t 6) := by
  have hT' := hT
  obtain ⟨t4, tR, t2, tn⟩ := hT
  have tn : gn g (t + 1 + 1) = 600 := tn
  obtain ⟨B, hB⟩ : ∃ B, B = I (t + 2) := ⟨_, rfl⟩
  obtain ⟨n, hn⟩ : ∃ n, n = I t 1 := ⟨_, rfl⟩
  obtain ⟨b, hbb⟩ : ∃ b, b = I t 6 := ⟨_, rfl⟩
  have hO1 := hO.1
  rw [← hbb, ← hn] at hb
  rw [← hn] at hO1
  have hbt := hO.2
  rw [← hn, ← hB] at hbt
  -- a byte
  have hget : ∀ J k, J (t + 2) = B → 0 ≤ k → k < n → cl 62 [.ref (t + 1), .int (iI k)] (mk g J) = some (.inl (some (.int (iI (B k)))), mk g J) := fun J k h2 h0 h1 => by
    have q := s_row_get (g := g) (I := J) (p := t + 1) (i := k) tR h0 (by omega)
    rw [show J (t + 1 + 1) = B from h2] at q
    exact q
  have hlet : ∀ J k, J t 1 = n → J (t + 2) = B → 0 ≤ k → k < n → cl 90 [.ref t, .int (iI k)] (mk g J) = some (.inl (some (.int (iI (if ltB B n k = true then 1 else 0)))), mk g J) := fun J k h1 h2 k0 k1 => by
    have q := s_isLet (g := g) (I := J) (t := t) (k := k) hT' (txO_c (h1.trans hn) (h2.trans hB) hO) k0 (by omega)
    rw [h1, h2] at q
    exact q
  have hdig : ∀ J k, J t 1 = n → J (t + 2) = B → 0 ≤ k → k < n → cl 91 [.ref t, .int (iI k)] (mk g J) = some (.inl (some (.int (iI (if dgB B n k = true then 1 else 0)))), mk g J) := fun J k h1 h2 k0 k1 => by
    have q := s_isDig (g := g) (I := J) (t := t) (k := k) hT' (txO_c (h1.trans hn) (h2.trans hB) hO) k0 (by omega)
    rw [h1, h2] at q
    exact q
  -- the spaces
  have key := loop_run (head := fun k => rn 89 1 [some (.ref t)] [] (mk g (upd2 I t 5 k))) (q := spB B n) (n := n) (fun _ => spB_n) b (fun k hk hs => by
    have hs := of_decide_eq_true hs
    obtain ⟨J, hJ⟩ : ∃ J, J = upd2 I t 5 k := ⟨_, rfl⟩
    have j5 : J t 5 = k := by rw [hJ]; exact upd2_at
    have j1 : J t 1 = n := by rw [hJ, upd2_i (by decide)]; exact hn.symm
    have q := hget J k (by rw [hJ]; funext i; rw [upd2_p (by omega)]; rw [hB]) (by omega) hs.1
    have e : upd2 J t 5 (k + 1) = upd2 I t 5 (k + 1) := by rw [hJ]; exact upd2_2
    show rn _ _ _ _ _ = rn _ _ _ _ (mk g (upd2 I t 5 (k + 1)))
    rw [← e, ← hJ]
    simp (maxSteps := 2000000) (disch := first | assumption | omega) only [aft_v, aft_n, aft_t, Nat.add_assoc, Nat.reduceAdd, if_true, if_false, not_true_eq_false, not_false_eq_true, Classical.not_not, Int.reduceAdd, Int.reduceSub, Int.reduceMul, Int.reduceNeg, Int.reduceLT, Int.reduceLE, Int.reduceEq, Int.add_zero, Int.zero_add, Int.sub_zero, w_89_1, w_89_2, w_89_3, w_89_4, j5, j1, q, hs.2, show ¬ n ≤ k by omega, show ¬ (32 : Int) = 32 ↔ False by simp])
  obtain ⟨s, hs⟩ : ∃ s, s = tkS B n b := ⟨_, rfl⟩
  have key : rn 89 1 [some (.ref t)] [] (mk g (upd2 I t 5 b)) = rn 89 1 [some (.ref t)] [] (mk g (upd2 I t 5 s)) := by rw [hs]; exact key
  have sb := tkS_b (B := B) hb.2
  rw [← hs] at sb
  have out : rn 89 1 [some (.ref t)] [] (mk g (upd2 I t 5 s)) = rn 89 5 [some (.ref t)] [] (mk g (upd2 I t 5 s)) := by
    obtain ⟨J, hJ⟩ : ∃ J, J = upd2 I t 5 s := ⟨_, rfl⟩
    have j5 : J t 5 = s := by rw [hJ]; exact upd2_at
    have j1 : J t 1 = n := by rw [hJ, upd2_i (by decide)]; exact hn.symm
    rw [← hJ]
    by_cases hsn : n ≤ s
    · simp (maxSteps := 2000000) (disch := first | assumption | omega) only [aft_v, aft_n, aft_t, Nat.add_assoc, Nat.reduceAdd, if_true, if_false, not_true_eq_false, not_false_eq_true, Classical.not_not, Int.reduceAdd, Int.reduceSub, Int.reduceMul, Int.reduceNeg, Int.reduceLT, Int.reduceLE, Int.reduceEq, Int.add_zero, Int.zero_add, Int.sub_zero, w_89_1, j5, j1, hsn]
    · have q := hget J s (by rw [hJ]; funext i; rw [upd2_p (by omega)]; rw [hB]) (by omega) (by omega)
      have h32 : ¬ B s = 32 := fun z => sb.2.2 (decide_eq_true ⟨by omega, z⟩)
      have hr := hbt s (by omega) (by omega)
      simp (maxSteps := 2000000) (disch := first | assumption | omega) only [aft_v, aft_n, aft_t, Nat.add_assoc, Nat.reduceAdd, if_true, if_false, not_true_eq_false, not_false_eq_true, Classical.not_not, Int.reduceAdd, Int.reduceSub, Int.reduceMul, Int.reduceNeg, Int.reduceLT, Int.reduceLE, Int.reduceEq, Int.add_zero, Int.zero_add, Int.sub_zero, w_89_1, w_89_2, w_89_3, j5, j1, q, hsn, h32]
  obtain ⟨K, hK⟩ : ∃ K, K = upd2 (upd2 I t 5 s) t 6 s := ⟨_, rfl⟩
  have k5 : K t 5 = s := by rw [hK, upd2_i (by decide), upd2_at]
  have k6 : K t 6 = s := by rw [hK, upd2_at]
  have k1 : K t 1 = n := by rw [hK, upd2_i (by decide), upd2_i (by decide)]; exact hn.symm
  have kF : ∀ i, ¬ i = 4 → ¬ i = 5 → ¬ i = 6 → ¬ i = 7 → K t i = I t i := fun i h4 h5 h6 h7 => by rw [hK, upd2_i h6, upd2_i h5]
  have kP : ∀ p, ¬ p = t → K p = I p := fun p h => by rw [hK]; funext i; rw [upd2_p h, upd2_p h]
  have kB : K (t + 2) = B := by rw [kP _ (by omega), hB]
  have z5 : upd2 (upd2 I t 5 s) t 6 (upd2 I t 5 s t 5) = K := by rw [hK, upd2_at]
  have z55 : upd2 (upd2 I t 5 s) t 6 (upd2 I t 5 s t 5) t 5 = s := by rw [z5, k5]
  have z51 : upd2 (upd2 I t 5 s) t 6 (upd2 I t 5 s t 5) t 1 = n := by rw [z5, k1]
  -- what stands there then
  have fin : ∀ J kd en, (∀ p, ¬ p = t → J p = I p) → (∀ i, ¬ i = 4 → ¬ i = 5 → ¬ i = 6 → ¬ i = 7 → J t i = I t i) → J t 4 = kd → J t 5 = s → J t 6 = en → kd = tkK B n b → en = tkE B n b → (kd = 2 → J t 7 = tkN B n 1000000 b) → tkF t I J ∧ tkI J t (I t 6) := fun J kd en h1 h2 h4 h5 h6 e4 e6 h7 => by
    refine ⟨⟨h1, h2⟩, ?_⟩
    unfold tkI
    rw [h2 1 (by decide) (by decide) (by decide) (by decide), h1 (t + 2) (by omega), ← hn, ← hB, ← hbb, h4, h5, h6]
    exact ⟨e4, hs, e6, h7⟩
  by_cases hsn : n ≤ s
  · have e4 : 0 = tkK B n b := by unfold tkK; rw [← hs, if_pos hsn]
    have e6 : s = tkE B n b := by unfold tkE; rw [← e4, if_pos rfl, hs]
    refine ⟨upd2 K t 4 0, ?_, fin _ 0 s (fun p h => by rw [← kP p h]; funext i; rw [upd2_p h]) (fun i h4 h5 h6 h7 => by rw [upd2_i h4]; exact kF i h4 h5 h6 h7) upd2_at (by rw [upd2_i (by decide), k5]) (by rw [upd2_i (by decide), k6]) e4 e6 (fun z => absurd z (by decide))⟩
    simp (maxSteps := 2000000) (disch := first | assumption | omega) only [aft_v, aft_n, aft_t, Nat.add_assoc, Nat.reduceAdd, if_true, if_false, not_true_eq_false, not_false_eq_true, Classical.not_not, Int.reduceAdd, Int.reduceSub, Int.reduceMul, Int.reduceNeg, Int.reduceLT, Int.reduceLE, Int.reduceEq, Int.add_zero, Int.zero_add, Int.sub_zero, c_89, w_89_0, ← hbb]
    rw [key, out]
    refine (w_89_5 (by first | assumption | omega) (by first | assumption | omega) (by first | assumption | omega) (by first | assumption | omega) (by first | assumption | omega)).trans ?_
    rw [z5, k5, k1]
    refine (if_neg (by omega)).trans ?_
    simp (maxSteps := 2000000) (disch := first | assumption | omega) only [aft_v, aft_n, aft_t, Nat.add_assoc, Nat.reduceAdd, if_true, if_false, not_true_eq_false, not_false_eq_true, Classical.not_not, Int.reduceAdd, Int.reduceSub, Int.reduceMul, Int.reduceNeg, Int.reduceLT, Int.reduceLE, Int.reduceEq, Int.add_zero, Int.zero_add, Int.sub_zero, w_89_6, w_89_27]
  have start : cl 89 [.ref t] (mk g I) = rn 89 7 [some (.ref t)] [] (mk g K) := by
    simp (maxSteps := 2000000) (disch := first | assumption | omega) only [aft_v, aft_n, aft_t, Nat.add_assoc, Nat.reduceAdd, if_true, if_false, not_true_eq_false, not_false_eq_true, Classical.not_not, Int.reduceAdd, Int.reduceSub, Int.reduceMul, Int.reduceNeg, Int.reduceLT, Int.reduceLE, Int.reduceEq, Int.add_zero, Int.zero_add, Int.sub_zero, c_89, w_89_0, ← hbb]
    rw [key, out]
    refine (w_89_5 (by first | assumption | omega) (by first | assumption | omega) (by first | assumption | omega) (by first | assumption | omega) (by first | assumption | omega)).trans ?_
    rw [z5, k5, k1]
    exact if_pos (by omega)
  have hr := hbt s (by omega) (by omega)
  by_cases hl : ltB B n s = true
  · have e4 : 1 = tkK B n b := by unfold tkK; rw [← hs, if_neg hsn, if_pos hl]
    have e6 : runS (ltB B n) n s = tkE B n b := by unfold tkE; rw [← e4, if_neg (by decide), if_pos rfl, ← hs]
    have key2 := loop_run (head := fun k => rn 89 10 [some (.ref t)] [] (mk g (upd2 (upd2 K t 4 1) t 6 k))) (q := ltB B n) (n := n) (fun _ => ltB_n) s (fun k hk hq => by
      have hq' := of_decide_eq_true hq
      obtain ⟨J, hJ⟩ : ∃ J, J = upd2 (upd2 K t 4 1) t 6 k := ⟨_, rfl⟩
      have j6 : J t 6 = k := by rw [hJ]; exact upd2_at
      have j1 : J t 1 = n := by rw [hJ, upd2_i (by decide), upd2_i (by decide)]; exact k1
      have q := hlet J k j1 (by rw [hJ]; funext i; rw [upd2_p (by omega), upd2_p (by omega)]; rw [kB]) (by omega) hq'.1
      rw [if_pos hq] at q
      have e : upd2 J t 6 (k + 1) = upd2 (upd2 K t 4 1) t 6 (k + 1) := by rw [hJ]; exact upd2_2
      show rn _ _ _ _ _ = rn _ _ _ _ (mk g (upd2 (upd2 K t 4 1) t 6 (k + 1)))
      rw [← e, ← hJ]
      simp (maxSteps := 2000000) (disch := first | assumption | omega) only [aft_v, aft_n, aft_t, Nat.add_assoc, Nat.reduceAdd, if_true, if_false, not_true_eq_false, not_false_eq_true, Classical.not_not, Int.reduceAdd, Int.reduceSub, Int.reduceMul, Int.reduceNeg, Int.reduceLT, Int.reduceLE, Int.reduceEq, Int.add_zero, Int.zero_add, Int.sub_zero, w_89_10, w_89_11, w_89_12, w_89_13, j6, j1, q, show ¬ n ≤ k by omega, show ¬ (1 : Int) = 0 by decide])
    obtain ⟨en, hen⟩ : ∃ en, en = runS (ltB B n) n s := ⟨_, rfl⟩
    have eb := runS_b (q := ltB B n) (fun _ => ltB_n) (show s ≤ n by omega)
    rw [← hen] at eb e6
    have key2 : rn 89 10 [some (.ref t)] [] (mk g (upd2 (upd2 K t 4 1) t 6 s)) = rn 89 10 [some (.ref t)] [] (mk g (upd2 (upd2 K t 4 1) t 6 en)) := by rw [hen]; exact key2
    have e0 : upd2 (upd2 K t 4 1) t 6 s = upd2 K t 4 1 := by
      funext p i
      by_cases h : p = t ∧ i = 6
      · rw [h.1, h.2, upd2_at, upd2_i (by decide), k6]
      · exact if_neg h
    rw [e0] at key2
    obtain ⟨J, hJ⟩ : ∃ J, J = upd2 (upd2 K t 4 1) t 6 en := ⟨_, rfl⟩
    have j6 : J t 6 = en := by rw [hJ]; exact upd2_at
    have j1 : J t 1 = n := by rw [hJ, upd2_i (by decide), upd2_i (by decide)]; exact k1
    rw [← hJ] at key2
    refine ⟨J, ?_, fin J 1 en (fun p h => by rw [hJ, ← kP p h]; funext i; rw [upd2_p h, upd2_p h]) (fun i h4 h5 h6 h7 => by rw [hJ, upd2_i h6, upd2_i h4]; exact kF i h4 h5 h6 h7) (by rw [hJ, upd2_i (by decide), upd2_at]) (by rw [hJ, upd2_i (by decide), upd2_i (by decide), k5]) j6 e4 e6 (fun z => absurd z (by decide))⟩
    have q := hlet K s k1 kB (by omega) (by omega)
    rw [if_pos hl] at q
    rw [start]
    simp (maxSteps := 2000000) (disch := first | assumption | omega) only [aft_v, aft_n, aft_t, Nat.add_assoc, Nat.reduceAdd, if_true, if_false, not_true_eq_false, not_false_eq_true, Classical.not_not, Int.reduceAdd, Int.reduceSub, Int.reduceMul, Int.reduceNeg, Int.reduceLT, Int.reduceLE, Int.reduceEq, Int.add_zero, Int.zero_add, Int.sub_zero, w_89_7, w_89_8, w_89_9, k5, q, show ¬ (1 : Int) = 0 by decide]
    rw [key2]
    by_cases hen2 : n ≤ en
    · simp (maxSteps := 2000000) (disch := first | assumption | omega) only [aft_v, aft_n, aft_t, Nat.add_assoc, Nat.reduceAdd, if_true, if_false, not_true_eq_false, not_false_eq_true, Classical.not_not, Int.reduceAdd, Int.reduceSub, Int.reduceMul, Int.reduceNeg, Int.reduceLT, Int.reduceLE, Int.reduceEq, Int.add_zero, Int.zero_add, Int.sub_zero, w_89_10, w_89_27, j6, j1, hen2]
    · have q := hlet J en j1 (by rw [hJ]; funext i; rw [upd2_p (by omega), upd2_p (by omega)]; rw [kB]) (by omega) (by omega)
      rw [if_neg eb.2.2] at q
      simp (maxSteps := 2000000) (disch := first | assumption | omega) only [aft_v, aft_n, aft_t, Nat.add_assoc, Nat.reduceAdd, if_true, if_false, not_true_eq_false, not_false_eq_true, Classical.not_not, Int.reduceAdd, Int.reduceSub, Int.reduceMul, Int.reduceNeg, Int.reduceLT, Int.reduceLE, Int.reduceEq, Int.add_zero, Int.zero_add, Int.sub_zero, w_89_10, w_89_11, w_89_12, w_89_27, j6, j1, hen2, q]
  have qL := hlet K s k1 kB (by omega) (by omega)
  rw [if_neg hl] at qL
  have qD := hdig K s k1 kB (by omega) (by omega)
  by_cases hd : dgB B n s = true
  · rw [if_pos hd] at qD
    have e4 : 2 = tkK B n b := by unfold tkK; rw [← hs, if_neg hsn, if_neg hl, if_pos hd]
    have e6 : runS (dgB B n) n s = tkE B n b := by unfold tkE; rw [← e4, if_neg (by decide), if_neg (by decide), if_pos rfl, ← hs]
    have key2 := loop_num (head := fun a k => rn 89 17 [some (.ref t)] [] (mk g (upd2 (upd2 (upd2 K t 4 2) t 7 a) t 6 k))) (B := B) (n := n) (c := 1000000) 0 s (by decide) (by decide) (fun a k a0 a1 hk hq => by
      have hq' := of_decide_eq_true hq
      obtain ⟨J, hJ⟩ : ∃ J, J = upd2 (upd2 (upd2 K t 4 2) t 7 a) t 6 k := ⟨_, rfl⟩
      have j6 : J t 6 = k := by rw [hJ]; exact upd2_at
      have j7 : J t 7 = a := by rw [hJ, upd2_i (by decide)]; exact upd2_at
      have j1 : J t 1 = n := by rw [hJ, upd2_i (by decide), upd2_i (by decide), upd2_i (by decide)]; exact k1
      have jB : J (t + 2) = B := by rw [hJ]; funext i; rw [upd2_p (by omega), upd2_p (by omega), upd2_p (by omega)]; rw [kB]
      have q := hdig J k j1 jB (by omega) hq'.1
      rw [if_pos hq] at q
      have q2 := hget J k jB (by omega) hq'.1
      have hr := hbt k (by omega) (by omega)
      obtain ⟨v, hv⟩ : ∃ v, v = min 1000000 (a * 10 + B k - 48) := ⟨_, rfl⟩
      have j76 : upd2 J t 7 v t 6 = k := by rw [upd2_i (by decide), j6]
      have e : upd2 (upd2 J t 7 v) t 6 (k + 1) = upd2 (upd2 (upd2 K t 4 2) t 7 v) t 6 (k + 1) := by
        rw [hJ, upd2_x (i := 6) (j := 7) (by decide), upd2_2, upd2_2]
      show rn _ _ _ _ _ = rn _ _ _ _ (mk g (upd2 (upd2 (upd2 K t 4 2) t 7 (min 1000000 (a * 10 + B k - 48))) t 6 (k + 1)))
      rw [← hv, ← e, ← hJ]
      simp (maxSteps := 2000000) (disch := first | assumption | omega) only [aft_v, aft_n, aft_t, Nat.add_assoc, Nat.reduceAdd, if_true, if_false, not_true_eq_false, not_false_eq_true, Classical.not_not, Int.reduceAdd, Int.reduceSub, Int.reduceMul, Int.reduceNeg, Int.reduceLT, Int.reduceLE, Int.reduceEq, Int.add_zero, Int.zero_add, Int.sub_zero, w_89_17, w_89_18, w_89_19, w_89_20, w_89_21, j6, j1, j7, q, q2, ← hv, j76, show ¬ n ≤ k by omega, show ¬ (1 : Int) = 0 by decide])
    obtain ⟨en, hen⟩ : ∃ en, en = runS (dgB B n) n s := ⟨_, rfl⟩
    obtain ⟨v, hv⟩ : ∃ v, v = tkN B n 1000000 b := ⟨_, rfl⟩
    have eb := runS_b (q := dgB B n) (fun _ => dgB_n) (show s ≤ n by omega)
    rw [← hen] at eb e6
    have key2 : rn 89 17 [some (.ref t)] [] (mk g (upd2 (upd2 (upd2 K t 4 2) t 7 0) t 6 s)) = rn 89 17 [some (.ref t)] [] (mk g (upd2 (upd2 (upd2 K t 4 2) t 7 v) t 6 en)) := by rw [hen, hv]; unfold tkN; rw [← hs]; exact key2
    have e0 : upd2 (upd2 (upd2 K t 4 2) t 7 0) t 6 s = upd2 (upd2 K t 4 2) t 7 0 := by
      funext p i
      by_cases h : p = t ∧ i = 6
      · rw [h.1, h.2, upd2_at, upd2_i (by decide), upd2_i (by decide), k6]
      · exact if_neg h
    rw [e0] at key2
    obtain ⟨J, hJ⟩ : ∃ J, J = upd2 (upd2 (upd2 K t 4 2) t 7 v) t 6 en := ⟨_, rfl⟩
    have j6 : J t 6 = en := by rw [hJ]; exact upd2_at
    have j1 : J t 1 = n := by rw [hJ, upd2_i (by decide), upd2_i (by decide), upd2_i (by decide)]; exact k1
    have jB : J (t + 2) = B := by rw [hJ]; funext i; rw [upd2_p (by omega), upd2_p (by omega), upd2_p (by omega)]; rw [kB]
    rw [← hJ] at key2
    refine ⟨J, ?_, fin J 2 en (fun p h => by rw [hJ, ← kP p h]; funext i; rw [upd2_p h, upd2_p h, upd2_p h]) (fun i h4 h5 h6 h7 => by rw [hJ, upd2_i h6, upd2_i h7, upd2_i h4]; exact kF i h4 h5 h6 h7) (by rw [hJ, upd2_i (by decide), upd2_i (by decide), upd2_at]) (by rw [hJ, upd2_i (by decide), upd2_i (by decide), upd2_i (by decide), k5]) j6 e4 e6 (fun _ => by rw [hJ, upd2_i (by decide), upd2_at, hv])⟩
    rw [start]
    simp (maxSteps := 2000000) (disch := first | assumption | omega) only [aft_v, aft_n, aft_t, Nat.add_assoc, Nat.reduceAdd, if_true, if_false, not_true_eq_false, not_false_eq_true, Classical.not_not, Int.reduceAdd, Int.reduceSub, Int.reduceMul, Int.reduceNeg, Int.reduceLT, Int.reduceLE, Int.reduceEq, Int.add_zero, Int.zero_add, Int.sub_zero, w_89_7, w_89_8, w_89_14, w_89_15, w_89_16, k5, qL, qD, show ¬ (1 : Int) = 0 by decide]
    rw [key2]
    by_cases hen2 : n ≤ en
    · simp (maxSteps := 2000000) (disch := first | assumption | omega) only [aft_v, aft_n, aft_t, Nat.add_assoc, Nat.reduceAdd, if_true, if_false, not_true_eq_false, not_false_eq_true, Classical.not_not, Int.reduceAdd, Int.reduceSub, Int.reduceMul, Int.reduceNeg, Int.reduceLT, Int.reduceLE, Int.reduceEq, Int.add_zero, Int.zero_add, Int.sub_zero, w_89_17, w_89_27, j6, j1, hen2]
    · have q := hdig J en j1 jB (by omega) (by omega)
      rw [if_neg eb.2.2] at q
      simp (maxSteps := 2000000) (disch := first | assumption | omega) only [aft_v, aft_n, aft_t, Nat.add_assoc, Nat.reduceAdd, if_true, if_false, not_true_eq_false, not_false_eq_true, Classical.not_not, Int.reduceAdd, Int.reduceSub, Int.reduceMul, Int.reduceNeg, Int.reduceLT, Int.reduceLE, Int.reduceEq, Int.add_zero, Int.zero_add, Int.sub_zero, w_89_17, w_89_18, w_89_19, w_89_27, j6, j1, hen2, q]
  rw [if_neg hd] at qD
  have q := hget K s kB (by omega) (by omega)
  by_cases hc : B s = 59
  · have e4 : 3 = tkK B n b := by unfold tkK; rw [← hs, if_neg hsn, if_neg hl, if_neg hd, if_pos hc]
    have e6 : s + 1 = tkE B n b := by unfold tkE; rw [← e4, if_neg (by decide), if_neg (by decide), if_neg (by decide), ← hs]
    have k45 : upd2 K t 4 3 t 5 = s := by rw [upd2_i (by decide), k5]
    refine ⟨upd2 (upd2 K t 4 3) t 6 (s + 1), ?_, fin _ 3 (s + 1) (fun p h => by rw [← kP p h]; funext i; rw [upd2_p h, upd2_p h]) (fun i h4 h5 h6 h7 => by rw [upd2_i h6, upd2_i h4]; exact kF i h4 h5 h6 h7) (by rw [upd2_i (by decide), upd2_at]) (by rw [upd2_i (by decide), k45]) upd2_at e4 e6 (fun z => absurd z (by decide))⟩
    rw [start]
    refine (w_89_7 (by first | assumption | omega)).trans ?_
    rw [k5, qL]
    simp (maxSteps := 2000000) (disch := first | assumption | omega) only [aft_v, aft_n, aft_t, Nat.add_assoc, Nat.reduceAdd, if_true, if_false, not_true_eq_false, not_false_eq_true, Classical.not_not, Int.reduceAdd, Int.reduceSub, Int.reduceMul, Int.reduceNeg, Int.reduceLT, Int.reduceLE, Int.reduceEq, Int.add_zero, Int.zero_add, Int.sub_zero, w_89_8, w_89_14]
    rw [k5, qD]
    simp (maxSteps := 2000000) (disch := first | assumption | omega) only [aft_v, aft_n, aft_t, Nat.add_assoc, Nat.reduceAdd, if_true, if_false, not_true_eq_false, not_false_eq_true, Classical.not_not, Int.reduceAdd, Int.reduceSub, Int.reduceMul, Int.reduceNeg, Int.reduceLT, Int.reduceLE, Int.reduceEq, Int.add_zero, Int.zero_add, Int.sub_zero, w_89_15, w_89_22, k5]
    rw [q]
    simp (maxSteps := 2000000) (disch := first | assumption | omega) only [aft_v, aft_n, aft_t, Nat.add_assoc, Nat.reduceAdd, if_true, if_false, not_true_eq_false, not_false_eq_true, Classical.not_not, Int.reduceAdd, Int.reduceSub, Int.reduceMul, Int.reduceNeg, Int.reduceLT, Int.reduceLE, Int.reduceEq, Int.add_zero, Int.zero_add, Int.sub_zero, w_89_23, w_89_24, w_89_26, w_89_27, k45, hc]
  · have e4 : 4 = tkK B n b := by unfold tkK; rw [← hs, if_neg hsn, if_neg hl, if_neg hd, if_neg hc]
    have e6 : s + 1 = tkE B n b := by unfold tkE; rw [← e4, if_neg (by decide), if_neg (by decide), if_neg (by decide), ← hs]
    have k45 : upd2 K t 4 4 t 5 = s := by rw [upd2_i (by decide), k5]
    refine ⟨upd2 (upd2 K t 4 4) t 6 (s + 1), ?_, fin _ 4 (s + 1) (fun p h => by rw [← kP p h]; funext i; rw [upd2_p h, upd2_p h]) (fun i h4 h5 h6 h7 => by rw [upd2_i h6, upd2_i h4]; exact kF i h4 h5 h6 h7) (by rw [upd2_i (by decide), upd2_at]) (by rw [upd2_i (by decide), k45]) upd2_at e4 e6 (fun z => absurd z (by decide))⟩
    rw [start]
    refine (w_89_7 (by first | assumption | omega)).trans ?_
    rw [k5, qL]
    simp (maxSteps := 2000000) (disch := first | assumption | omega) only [aft_v, aft_n, aft_t, Nat.add_assoc, Nat.reduceAdd, if_true, if_false, not_true_eq_false, not_false_eq_true, Classical.not_not, Int.reduceAdd, Int.reduceSub, Int.reduceMul, Int.reduceNeg, Int.reduceLT, Int.reduceLE, Int.reduceEq, Int.add_zero, Int.zero_add, Int.sub_zero, w_89_8, w_89_14]
    rw [k5, qD]
    simp (maxSteps := 2000000) (disch := first | assumption | omega) only [aft_v, aft_n, aft_t, Nat.add_assoc, Nat.reduceAdd, if_true, if_false, not_true_eq_false, not_false_eq_true, Classical.not_not, Int.reduceAdd, Int.reduceSub, Int.reduceMul, Int.reduceNeg, Int.reduceLT, Int.reduceLE, Int.reduceEq, Int.add_zero, Int.zero_add, Int.sub_zero, w_89_15, w_89_22, k5]
    rw [q]
    simp (maxSteps := 2000000) (disch := first | assumption | omega) only [aft_v, aft_n, aft_t, Nat.add_assoc, Nat.reduceAdd, if_true, if_false, not_true_eq_false, not_false_eq_true, Classical.not_not, Int.reduceAdd, Int.reduceSub, Int.reduceMul, Int.reduceNeg, Int.reduceLT, Int.reduceLE, Int.reduceEq, Int.add_zero, Int.zero_add, Int.sub_zero, w_89_23, w_89_25, w_89_26, w_89_27, k45, hc]
end LX
