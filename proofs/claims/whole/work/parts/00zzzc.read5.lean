/-! Pieces that are read are allowed ones; the class reads a piece and loads it. -/
theorem bnd_inr {α β : Type} {x : Rz α} {f : α → Rz β} {y : β} (h : bnd x f = .inr y) : ∃ a, x = .inr a ∧ f a = .inr y := by
  cases x with
  | inl e => cases h
  | inr a => exact ⟨a, rfl, h⟩
theorem paR_Wf {P : PT} {r : Int} (h : Wf P) (hr : r = 0 ∨ r = 1) : Wf (paR P r) := ⟨hr, h.2⟩
theorem paW_Wf {P : PT} {w v : Int} (h : Wf P) (hv : 0 ≤ v ∧ v ≤ 99) : Wf (paW P w v) := by
  obtain ⟨h0, h1, h2, h3, h4⟩ := h
  refine ⟨h0, h1, h2, fun i i0 i1 => ?_, h4⟩
  show 0 ≤ (if i = w then v else pW P i) ∧ (if i = w then v else pW P i) ≤ 99
  by_cases hi : i = w
  · rw [if_pos hi]; exact hv
  · rw [if_neg hi]; exact h3 i i0 i1
theorem paS_Wf {P : PT} {a b lo hi li : Int} (h : Wf P) (h1' : 1 ≤ lo) (h2' : lo ≤ hi) (h3' : hi ≤ li) (h4' : li ≤ 24) : Wf (paS P a b lo hi li) := by
  obtain ⟨h0, h1, h2, h3, h4⟩ := h
  refine ⟨h0, h1, h2, h3, fun i j i0 i1 j0 j1 hij => ?_⟩
  show 1 ≤ (if (i = a ∧ j = b) ∨ (i = b ∧ j = a) then lo else pLo P i j) ∧ (if (i = a ∧ j = b) ∨ (i = b ∧ j = a) then lo else pLo P i j) ≤ (if (i = a ∧ j = b) ∨ (i = b ∧ j = a) then hi else pHi P i j) ∧ (if (i = a ∧ j = b) ∨ (i = b ∧ j = a) then hi else pHi P i j) ≤ (if (i = a ∧ j = b) ∨ (i = b ∧ j = a) then li else pLi P i j) ∧ (if (i = a ∧ j = b) ∨ (i = b ∧ j = a) then li else pLi P i j) ≤ 24
  by_cases hh : (i = a ∧ j = b) ∨ (i = b ∧ j = a)
  · rw [if_pos hh, if_pos hh, if_pos hh]; exact ⟨h1', h2', h3', h4'⟩
  · rw [if_neg hh, if_neg hh, if_neg hh]; exact h4 i j i0 i1 j0 j1 hij
theorem paV_Wf {P : PT} {n r : Int} {ky se : Int → Int} (h : Wf P) (he : pE P < 40) (hn : 1 ≤ n ∧ n ≤ 3) (hr : 0 ≤ r ∧ r ≤ 9) (hk : ∀ i, 0 ≤ i → i < n → 21 ≤ ky i ∧ ky i ≤ 108) (ha : ∀ i, 0 ≤ i → i + 1 < n → ky i < ky (i + 1)) (hs : ∀ i, 0 ≤ se i ∧ se i ≤ 31) : Wf (paV P n r ky se) := by
  obtain ⟨h0, h1, h2, h3, h4⟩ := h
  refine ⟨h0, ⟨by show 0 ≤ pE P + 1; omega, by show pE P + 1 ≤ 40; omega⟩, fun e e0 e1 => ?_, h3, h4⟩
  have e1 : e < pE P + 1 := e1
  show (1 ≤ (if e = pE P then n else pSz P e) ∧ (if e = pE P then n else pSz P e) ≤ 3) ∧ (0 ≤ (if e = pE P then r else pRe P e) ∧ (if e = pE P then r else pRe P e) ≤ 9) ∧ (∀ k, 0 ≤ k → k < (if e = pE P then n else pSz P e) → (21 ≤ (if e = pE P then ky k else pKy P e k) ∧ (if e = pE P then ky k else pKy P e k) ≤ 108) ∧ (0 ≤ (if e = pE P then se k else pSe P e k) ∧ (if e = pE P then se k else pSe P e k) ≤ 31)) ∧ (∀ k, 0 ≤ k → k + 1 < (if e = pE P then n else pSz P e) → (if e = pE P then ky k else pKy P e k) < (if e = pE P then ky (k + 1) else pKy P e (k + 1)))
  by_cases he : e = pE P
  · rw [if_pos he, if_pos he]
    refine ⟨hn, hr, fun k k0 k1 => ?_, fun k k0 k1 => ?_⟩
    · rw [if_pos he, if_pos he]; exact ⟨hk k k0 k1, hs k⟩
    · rw [if_pos he, if_pos he]; exact ha k k0 k1
  · obtain ⟨a1, a2, a3, a4⟩ := h2 e e0 (by omega)
    rw [if_neg he, if_neg he]
    refine ⟨a1, a2, fun k k0 k1 => ?_, fun k k0 k1 => ?_⟩
    · rw [if_neg he, if_neg he]; exact a3 k k0 k1
    · rw [if_neg he, if_neg he]; exact a4 k k0 k1
section OK
variable {B : Int → Int} {n b : Int} {P : PT}
theorem gLp_inv {p : Nat} {F : PT → Int → Rz (PT × Int)} {Q : PT → Prop} (hF : ∀ P b x, Q P → F P b = .inr x → Q x.1) : ∀ (f : Nat) (P : PT) (b : Int) (x : PT × Int), Q P → gLp B n p F f P b = .inr x → Q x.1 := by
  intro f
  induction f with
  | zero => intro P b x h e; simp only [gLp] at e; have e := Sum.inr.inj e; rw [← e]; exact h
  | succ f ih =>
    intro P b x h e
    simp only [gLp] at e
    by_cases hw : wdS B n b p = 0
    · rw [if_pos hw] at e; have e := Sum.inr.inj e; rw [← e]; exact h
    · rw [if_neg hw] at e
      obtain ⟨y, y1, y2⟩ := bnd_inr e
      exact ih y.1 y.2 x (hF P b y h y1) y2
theorem gFn_ok : ∀ (m : Nat) (k : Int) (se : Int → Int) (b : Int) (x : (Int → Int) × Int), (∀ i, 0 ≤ se i ∧ se i ≤ 31) → gFn B n m k se b = .inr x → ∀ i, 0 ≤ x.1 i ∧ x.1 i ≤ 31 := by
  intro m
  induction m with
  | zero =>
    intro k se b x h e
    simp only [gFn] at e
    by_cases hk : tkK B n b = 2
    · rw [if_pos hk] at e; cases e
    · rw [if_neg hk] at e; have e := Sum.inr.inj e; rw [← e]; exact h
  | succ m ih =>
    intro k se b x h e
    simp only [gFn] at e
    obtain ⟨y, y1, y2⟩ := bnd_inr e
    have hy := gNu_ok y1
    refine ih (k + 1) _ y.2 x (fun i => ?_) y2
    by_cases hi : i = k
    · rw [if_pos hi]; exact bitF_31 ⟨hy.1, hy.2.1⟩
    · rw [if_neg hi]; exact h i
theorem gHd_ok {x : PT × Int} (h : Wf P ∧ pE P = 0) (e : gHd B n P b = .inr x) : Wf x.1 ∧ pE x.1 = 0 := by
  unfold gHd at e
  obtain ⟨b1, _, e⟩ := bnd_inr e
  obtain ⟨b2, _, e⟩ := bnd_inr e
  obtain ⟨b3, _, e⟩ := bnd_inr e
  have e := Sum.inr.inj e
  rw [← e]
  exact ⟨paR_Wf h.1 wdS_01, h.2⟩
theorem gWt_ok {x : PT × Int} (h : Wf P ∧ pE P = 0) (e : gWt B n P b = .inr x) : Wf x.1 ∧ pE x.1 = 0 := by
  unfold gWt at e
  by_cases hn : gNm B n (tkE B n b) < 0
  · rw [if_pos hn] at e; cases e
  rw [if_neg hn] at e
  obtain ⟨v, hv, e⟩ := bnd_inr e
  obtain ⟨b3, _, e⟩ := bnd_inr e
  have e := Sum.inr.inj e
  have hv := gNu_ok hv
  rw [← e]
  exact ⟨paW_Wf h.1 ⟨hv.1, hv.2.1⟩, h.2⟩
theorem gSp_ok {x : PT × Int} (h : Wf P ∧ pE P = 0) (e : gSp B n P b = .inr x) : Wf x.1 ∧ pE x.1 = 0 := by
  unfold gSp at e
  obtain ⟨x1, h1, e⟩ := bnd_inr e
  obtain ⟨x2, h2, e⟩ := bnd_inr e
  obtain ⟨x3, h3, e⟩ := bnd_inr e
  obtain ⟨x4, h4, e⟩ := bnd_inr e
  obtain ⟨x5, h5, e⟩ := bnd_inr e
  obtain ⟨b6, _, e⟩ := bnd_inr e
  have e := Sum.inr.inj e
  have h3 := gNu_ok h3
  have h4 := gNu_ok h4
  have h5 := gNu_ok h5
  rw [← e]
  exact ⟨paS_Wf h.1 h3.1 h4.2.2 h5.2.2 h5.2.1, h.2⟩
theorem gEv_ok {x : PT × Int} (h : Wf P) (e : gEv B n P b = .inr x) : Wf x.1 := by
  unfold gEv at e
  by_cases hn : 40 ≤ pE P
  · rw [if_pos hn] at e; cases e
  rw [if_neg hn] at e
  obtain ⟨x1, h1, e⟩ := bnd_inr e
  obtain ⟨x2, h2, e⟩ := bnd_inr e
  obtain ⟨x3, h3, e⟩ := bnd_inr e
  obtain ⟨b4, _, e⟩ := bnd_inr e
  have e := Sum.inr.inj e
  obtain ⟨k1, k2, k3⟩ := gKl_ok 3 0 20 (fun _ => 0) _ x1 (by decide) (by decide) (fun i i0 i1 => by omega) (fun i i0 i1 => by omega) (fun z => absurd z (by decide)) h1
  have hr : 0 ≤ x2.1 ∧ x2.1 ≤ 9 := by
    unfold gRe at h2
    by_cases hw : wdS B n x1.2.2 9 = 0
    · rw [if_pos hw] at h2; have h2 := Sum.inr.inj h2; rw [← h2]; exact ⟨Int.le_refl 0, by show (0 : Int) ≤ 9; decide⟩
    · rw [if_neg hw] at h2; have h2 := gNu_ok h2; exact ⟨h2.1, h2.2.1⟩
  have hf : ∀ i, 0 ≤ x3.1 i ∧ x3.1 i ≤ 31 := by
    unfold gFg at h3
    by_cases hw : wdS B n x2.2 10 = 0
    · rw [if_pos hw] at h3; have h3 := Sum.inr.inj h3; rw [← h3]; exact fun _ => ⟨by show (0 : Int) ≤ 31; decide, by show (31 : Int) ≤ 31; decide⟩
    · rw [if_neg hw] at h3; exact gFn_ok _ _ _ _ _ (fun _ => by decide) h3
  rw [← e]
  exact paV_Wf h (by omega) k1 hr k2 k3 hf
theorem gPc_ok {x : PT × Int} (h : Wf P ∧ pE P = 0) (e : gPc B n P = .inr x) : Wf x.1 := by
  unfold gPc at e
  obtain ⟨x1, h1, e⟩ := bnd_inr e
  obtain ⟨x2, h2, e⟩ := bnd_inr e
  obtain ⟨x3, h3, e⟩ := bnd_inr e
  obtain ⟨x4, h4, e⟩ := bnd_inr e
  obtain ⟨b5, _, e⟩ := bnd_inr e
  have e := Sum.inr.inj e
  rw [← e]
  have q1 := gHd_ok h h1
  have q2 := gLp_inv (Q := fun P => Wf P ∧ pE P = 0) (fun P b x hP hx => gWt_ok hP hx) _ _ _ _ q1 h2
  have q3 := gLp_inv (Q := fun P => Wf P ∧ pE P = 0) (fun P b x hP hx => gSp_ok hP hx) _ _ _ _ q2 h3
  have q4 : Wf x4.1 := gLp_inv (B := B) (n := n) (F := gEv B n) (p := 8) (Q := Wf) (fun P b x hP hx => gEv_ok hP hx) _ _ _ _ q3.1 h4
  exact q4
end OK
/-- the piece that is begun -/
def bg0 : PT := (1, 0, fun _ => 0, fun _ => 0, fun _ _ => 0, fun _ _ => 0, fW, fS 0, fS 1, fS 2)
theorem bg0_bg : bgP bg0 := ⟨rfl, rfl, fun _ _ _ => rfl, fun _ _ _ _ _ _ _ => ⟨rfl, rfl, rfl⟩⟩
theorem bg0_ok : Wf bg0 ∧ pE bg0 = 0 := ⟨bg_Wf bg0_bg, rfl⟩
section RP
variable {g : Gm} {I J : Mm} {t q : Nat} {B : Int → Int} {n b : Int}
theorem s_readPiece (hT : isTx g t) (hq : isPc g q) (hO : txB B n) (hd : q + 17 ≤ t) (hs : ∀ p, 3 ≤ p → p ≤ 20 → isTs g I p) (hx : 64 ≤ q) (hst : isSt g I) (hB : pB I q) (h2 : I (t + 2) = B) (h1 : I t 1 = n) : pan B n t q g I (gPc B n bg0) (cl 71 [.ref t, .ref q] (mk g I)) := by
  have t4 := hT.1
  have q0 := hq.1
  have o1 : ¬ (1 : Int) = 0 := by decide
  obtain ⟨K, k1, k2, k3, k4⟩ := s_beginReading (g := g) hT hO h2 h1
  have kst : isSt g K := isSt_c (k2 0 (by omega)) (k2 1 (by omega)) hst
  have kB : pB K q := pB_c (fun p p0 p1 => k2 p (by omega)) hB
  have qb := s_begin (g := g) (I := K) hq kst (by omega)
  obtain ⟨L, hL⟩ : ∃ L, L = bgM K q := ⟨_, rfl⟩
  have lt : ∀ p, (p < q ∨ q + 16 < p) → L p = K p := fun p hp => by rw [hL]; exact bgM_o (by omega) (by omega) (by omega) (by omega) (by omega)
  have lB : pB L q := by rw [hL]; exact bgM_pB kB.2.2.1 kB.2.2.2.1 kB.2.2.2.2.1 kB.2.2.2.2.2.1 kB.2.2.2.2.2.2.1 kB.2.2.2.2.2.2.2.1 kB.2.2.2.2.2.2.2.2.1 kB.2.2.2.2.2.2.2.2.2
  have lA : Agr (pv L q) bg0 := by rw [hL]; exact bg_A bgM_bg bg0_bg
  have h0 : pst B n t q bg0 0 I L := ⟨fun p h1 h2 => (lt p h2).trans (k2 p h1), by rw [lt t (by omega)]; exact k3, lx_w (lt t (by omega)) (lt _ (by omega)) k4, lB, lA⟩
  rw [← hL] at qb
  have w0 := bg0_ok
  rcases s_readHand hT hq hO hd hs hx h0 with ⟨e, M, g1, m1, m2⟩ | ⟨P1, b1, M, g1, m1, hM⟩
  · refine Or.inl ⟨e, M, by unfold gPc; rw [g1]; rfl, ?_, m2⟩
    simp (maxSteps := 2000000) (disch := first | assumption | omega) only [aft_v, aft_n, aft_t, Nat.add_assoc, Nat.reduceAdd, if_true, if_false, not_true_eq_false, not_false_eq_true, Classical.not_not, Int.reduceAdd, Int.reduceSub, Int.reduceMul, Int.reduceNeg, Int.reduceLT, Int.reduceLE, Int.reduceEq, Int.add_zero, Int.zero_add, Int.sub_zero, c_71, w_71_0, w_71_1, w_71_2, w_71_3, w_71_13, w_71_14, k1, qb, m1]
  have eg : gPc B n bg0 = bnd (gLo B n 6 (gWt B n) P1 b1) fun x2 => bnd (gLo B n 7 (gSp B n) x2.1 x2.2) fun x3 => bnd (gLo B n 8 (gEv B n) x3.1 x3.2) fun x4 => bnd (gEn B n x4.2) fun b5 => .inr (x4.1, b5) := by unfold gPc; rw [g1]; rfl
  have w1 := gHd_ok w0 g1
  rcases s_readWeights hT hq hO hd hs hx hM with ⟨e, N, g2, n1, n2⟩ | ⟨P2, b2, N, g2, n1, hN⟩
  · refine Or.inl ⟨e, N, by rw [eg, g2]; rfl, ?_, n2⟩
    simp (maxSteps := 2000000) (disch := first | assumption | omega) only [aft_v, aft_n, aft_t, Nat.add_assoc, Nat.reduceAdd, if_true, if_false, not_true_eq_false, not_false_eq_true, Classical.not_not, Int.reduceAdd, Int.reduceSub, Int.reduceMul, Int.reduceNeg, Int.reduceLT, Int.reduceLE, Int.reduceEq, Int.add_zero, Int.zero_add, Int.sub_zero, c_71, w_71_0, w_71_1, w_71_2, w_71_3, w_71_4, w_71_5, w_71_13, w_71_14, k1, qb, m1, o1, n1]
  rw [g2] at eg
  have w2 := gLp_inv (Q := fun P => Wf P ∧ pE P = 0) (fun P b x hP hx => gWt_ok hP hx) _ _ _ _ w1 g2
  rcases s_readSpans hT hq hO hd hs hx hN with ⟨e, R, g3, r1, r2⟩ | ⟨P3, b3, R, g3, r1, hR⟩
  · refine Or.inl ⟨e, R, by rw [eg]; show bnd (gLo B n 7 (gSp B n) P2 b2) _ = _; rw [g3]; rfl, ?_, r2⟩
    simp (maxSteps := 2000000) (disch := first | assumption | omega) only [aft_v, aft_n, aft_t, Nat.add_assoc, Nat.reduceAdd, if_true, if_false, not_true_eq_false, not_false_eq_true, Classical.not_not, Int.reduceAdd, Int.reduceSub, Int.reduceMul, Int.reduceNeg, Int.reduceLT, Int.reduceLE, Int.reduceEq, Int.add_zero, Int.zero_add, Int.sub_zero, c_71, w_71_0, w_71_1, w_71_2, w_71_3, w_71_4, w_71_5, w_71_6, w_71_7, w_71_13, w_71_14, k1, qb, m1, o1, n1, r1]
  have w3 := gLp_inv (Q := fun P => Wf P ∧ pE P = 0) (fun P b x hP hx => gSp_ok hP hx) _ _ _ _ w2 g3
  have eg : gPc B n bg0 = bnd (gLo B n 8 (gEv B n) P3 b3) fun x4 => bnd (gEn B n x4.2) fun b5 => .inr (x4.1, b5) := by rw [eg]; show bnd (gLo B n 7 (gSp B n) P2 b2) _ = _; rw [g3]; rfl
  rcases s_readEvents hT hq hO hd hs hx w3.2 hR with ⟨e, S, g4, s1, s2⟩ | ⟨P4, b4, S, g4, s1, hS⟩
  · refine Or.inl ⟨e, S, by rw [eg, g4]; rfl, ?_, s2⟩
    simp (maxSteps := 2000000) (disch := first | assumption | omega) only [aft_v, aft_n, aft_t, Nat.add_assoc, Nat.reduceAdd, if_true, if_false, not_true_eq_false, not_false_eq_true, Classical.not_not, Int.reduceAdd, Int.reduceSub, Int.reduceMul, Int.reduceNeg, Int.reduceLT, Int.reduceLE, Int.reduceEq, Int.add_zero, Int.zero_add, Int.sub_zero, c_71, w_71_0, w_71_1, w_71_2, w_71_3, w_71_4, w_71_5, w_71_6, w_71_7, w_71_8, w_71_9, w_71_13, w_71_14, k1, qb, m1, o1, n1, r1, s1]
  rw [g4] at eg
  rcases s_takeEnd (g := g) hT hS.2.2.1 with ⟨e, V, g5, v1, v2⟩ | ⟨g5, v1⟩
  · refine Or.inl ⟨e, V, by rw [eg]; show bnd (gEn B n b4) _ = _; rw [g5]; rfl, ?_, hS.er hd v2⟩
    simp (maxSteps := 2000000) (disch := first | assumption | omega) only [aft_v, aft_n, aft_t, Nat.add_assoc, Nat.reduceAdd, if_true, if_false, not_true_eq_false, not_false_eq_true, Classical.not_not, Int.reduceAdd, Int.reduceSub, Int.reduceMul, Int.reduceNeg, Int.reduceLT, Int.reduceLE, Int.reduceEq, Int.add_zero, Int.zero_add, Int.sub_zero, c_71, w_71_0, w_71_1, w_71_2, w_71_3, w_71_4, w_71_5, w_71_6, w_71_7, w_71_8, w_71_9, w_71_10, w_71_11, w_71_13, w_71_14, k1, qb, m1, o1, n1, r1, s1, v1]
  · refine Or.inr ⟨P4, b4, S, by rw [eg]; show bnd (gEn B n b4) _ = _; rw [g5]; rfl, ?_, hS⟩
    simp (maxSteps := 2000000) (disch := first | assumption | omega) only [aft_v, aft_n, aft_t, Nat.add_assoc, Nat.reduceAdd, if_true, if_false, not_true_eq_false, not_false_eq_true, Classical.not_not, Int.reduceAdd, Int.reduceSub, Int.reduceMul, Int.reduceNeg, Int.reduceLT, Int.reduceLE, Int.reduceEq, Int.add_zero, Int.zero_add, Int.sub_zero, c_71, w_71_0, w_71_1, w_71_2, w_71_3, w_71_4, w_71_5, w_71_6, w_71_7, w_71_8, w_71_9, w_71_10, w_71_11, w_71_12, w_71_14, k1, qb, m1, o1, n1, r1, s1, v1]
theorem rmOk_c {x s : Nat} {i : Int} (h0 : J 0 = I 0) (h1 : J 1 = I 1) (h : ∀ p, x + 86 ≤ p → J p = I p) (hk : rmOk g I x s i) : rmOk g J x s i := by
  rcases hk with ⟨A, a1, a2, a3, a4⟩ | ⟨a1, a2, a3, a4, a5, a6⟩
  · exact Or.inl ⟨A, a1, a2, pB_c (fun p p0 p1 => h p (by omega)) a3, a4⟩
  · exact Or.inr ⟨a1, a2, fun j hj i => by rw [h _ (by omega)]; exact a3 j hj i, isSt_c h0 h1 a4, a5, a6⟩
theorem s_hload {x : Nat} (hH : isH g x) (hO : txB B n) (hx : 64 ≤ x) (hs : ∀ p, 3 ≤ p → p ≤ 20 → isTs g I p) (hst : isSt g I) (hB1 : pB I (x + 1)) (hB : pB I (x + 18)) (h2 : I (x + 75 + 2) = B) (h1 : I (x + 75) 1 = n) (h9 : 0 ≤ I x 9 ∧ I x 9 < 8) (h10 : 0 ≤ I x 10 ∧ I x 10 ≤ 8) (hk : rmOk g I x (x + 82) (rmT I x)) :
    (∃ e J, gPc B n bg0 = .inl e ∧ cl 94 [.ref x] (mk g I) = some (.inl (some (.int (iI e.1))), mk g J) ∧ (∀ p, ¬ p = x + 75 → (p < x + 18 ∨ x + 34 < p) → J p = I p) ∧ J (x + 75) 1 = 0 ∧ J (x + 75) 3 = e.2 ∧ pB J (x + 18)) ∨
    ∃ P c J g' I1 A, gPc B n bg0 = .inr (P, c) ∧ cl 94 [.ref x] (mk g I) = some (.inl (some (.int (iI (pE P)))), mk g' (cpP I1 (x + 1) (x + 18))) ∧ (∀ p, ¬ p = x + 75 → (p < x + 18 ∨ x + 34 < p) → J p = I p) ∧ J (x + 75) 1 = 0 ∧ J (x + 75) 3 = -1 ∧ pB J (x + 18) ∧ Agr (pv J (x + 18)) P ∧ rmF x g g' J I1 A := by
  have hH' := hH
  obtain ⟨h_0, h_1, h_18, h_35, h_55, h_75, h_78, h_80, h_82, h_84⟩ := hH
  have t4 := h_75.1
  have o1 : ¬ (1 : Int) = 0 := by decide
  rcases s_readPiece (g := g) (I := I) (t := x + 75) (q := x + 18) h_75 h_18 hO (by omega) hs (by omega) hst hB h2 h1 with ⟨e, K, g1, k1, k2⟩ | ⟨P, c, K, g1, k1, k2⟩
  · have kt : ∀ p, ¬ p = x + 75 → upd2 K (x + 75) 1 0 p = K p := fun p hp => by funext i; exact upd2_p hp
    have u2 : upd2 K (x + 75) 1 0 (x + 75) 2 = e.1 := by rw [upd2_i (by decide)]; exact k2.2.1
    refine Or.inl ⟨e, upd2 K (x + 75) 1 0, g1, ?_, fun p p0 p1 => (kt p p0).trans (k2.1 p p0 (by omega)), upd2_at, by rw [upd2_i (by decide)]; exact k2.2.2.1, pB_c (fun p p0 p1 => kt p (by omega)) k2.2.2.2⟩
    simp (maxSteps := 2000000) (disch := first | assumption | omega) only [aft_v, aft_n, aft_t, Nat.add_assoc, Nat.reduceAdd, if_true, if_false, not_true_eq_false, not_false_eq_true, Classical.not_not, Int.reduceAdd, Int.reduceSub, Int.reduceMul, Int.reduceNeg, Int.reduceLT, Int.reduceLE, Int.reduceEq, Int.add_zero, Int.zero_add, Int.sub_zero, c_94, w_94_0, w_94_1, w_94_2, k1, u2]
  · obtain ⟨L, hL⟩ : ∃ L, L = upd2 K (x + 75) 1 0 := ⟨_, rfl⟩
    have kt : ∀ p, ¬ p = x + 75 → L p = K p := fun p hp => by rw [hL]; funext i; exact upd2_p hp
    have lf : ∀ p, ¬ p = x + 75 → (p < x + 18 ∨ x + 34 < p) → L p = I p := fun p p0 p1 => (kt p p0).trans (k2.1 p p0 (by omega))
    have lB : pB L (x + 18) := pB_c (fun p p0 p1 => kt p (by omega)) k2.2.2.2.1
    have lA : Agr (pv L (x + 18)) P := by rw [pv_c (fun p p0 p1 => kt p (by omega))]; exact k2.2.2.2.2
    have lx0 : L x = I x := lf x (by omega) (by omega)
    obtain ⟨g', I1, A, e, f⟩ := s_remember (g := g) (I := L) hH' (pB_c (fun p p0 p1 => lf p (by omega) (by omega)) hB1) (by rw [lx0]; exact h9) (by rw [lx0]; exact h10) (by omega) (by
      rw [show rmT L x = rmT I x by unfold rmT rmO rmU; rw [lx0]]
      exact rmOk_c (lf 0 (by omega) (by omega)) (lf 1 (by omega) (by omega)) (fun p hp => lf p (by omega) (by omega)) hk)
    have ge := f.e
    have hHg := isH_e ge hH'
    have i18 : ∀ p, x + 18 ≤ p → p ≤ x + 18 + 16 → I1 p = L p := fun p a b => f.2.2.1 p (by omega) (by omega) (by have := f.2.1; omega)
    have c18 := pB_c i18 lB
    have pc := s_pcopy (g := g') (I := I1) (q := x + 1) (o := x + 18) hHg.2.1 hHg.2.2.1 (by omega) c18.1
    have e1 : cpP I1 (x + 1) (x + 18) (x + 1) 1 = pE P := by
      rw [cp_01, i18 (x + 18) (Nat.le_refl _) (by omega)]
      exact lA.2.1
    have h0' : g'.1 x = sX5 x := by rw [ge]; exact h_0
    have h1' : g'.1 (x + 1) = sX0 (x + 1) := by rw [ge]; exact h_1.1
    refine Or.inr ⟨P, c, L, g', I1, A, g1, ?_, lf, by rw [hL, upd2_at], by rw [hL, upd2_i (by decide)]; exact k2.2.1, lB, lA, f⟩
    simp (maxSteps := 2000000) (disch := first | assumption | omega) only [aft_v, aft_n, aft_t, Nat.add_assoc, Nat.reduceAdd, if_true, if_false, not_true_eq_false, not_false_eq_true, Classical.not_not, Int.reduceAdd, Int.reduceSub, Int.reduceMul, Int.reduceNeg, Int.reduceLT, Int.reduceLE, Int.reduceEq, Int.add_zero, Int.zero_add, Int.sub_zero, c_94, w_94_0, w_94_1, w_94_3, w_94_4, w_94_5, k1, o1, ← hL, e, pc, e1]
theorem s_herrorPosition {x : Nat} (hH : isH g x) : cl 95 [.ref x] (mk g I) = some (.inl (some (.int (iI (I (x + 75) 3)))), mk g I) := by
  obtain ⟨h_0, h_1, h_18, h_35, h_55, h_75, h_78, h_80, h_82, h_84⟩ := hH
  have t4 := h_75.1
  simp (maxSteps := 2000000) (disch := first | assumption | omega) only [aft_v, aft_n, aft_t, Nat.add_assoc, Nat.reduceAdd, if_true, if_false, not_true_eq_false, not_false_eq_true, Classical.not_not, Int.reduceAdd, Int.reduceSub, Int.reduceMul, Int.reduceNeg, Int.reduceLT, Int.reduceLE, Int.reduceEq, Int.add_zero, Int.zero_add, Int.sub_zero, c_95, w_95_0]
end RP
