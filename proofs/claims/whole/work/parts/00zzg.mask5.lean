/-! The reference: costs with a finger, how far, how many, sure notes. -/
theorem far_les {a b A : Int} (ha : -1 ≤ a ∧ a ≤ A) (hb : -1 ≤ b ∧ b ≤ A) (hA : A < 1000000000) : farS (lesS a b) = min (farS a) (farS b) := by
  unfold farS lesS
  (repeat' split) <;> omega
theorem far_inj {a b A : Int} (ha : -1 ≤ a ∧ a ≤ A) (hb : -1 ≤ b ∧ b ≤ A) (hA : A < 1000000000) : farS a = farS b ↔ a = b := by
  unfold farS
  constructor
  · intro h
    (repeat' split at h) <;> omega
  · rintro rfl; rfl
theorem or_2 {C f : Int} (hC : 0 ≤ C ∧ C ≤ 31) (hf : 1 ≤ f ∧ f ≤ 5) : orI (2 * C) (shlI 1 f) = 2 * orI C (bitF f) := by
  have key : ∀ (n : Fin 32) (m : Fin 5), orI (2 * (n.val : Int)) (shlI 1 ((m.val : Int) + 1)) = 2 * orI (n.val : Int) (bitF ((m.val : Int) + 1)) := by decide +kernel
  have := key ⟨C.toNat, by omega⟩ ⟨(f - 1).toNat, by omega⟩
  simp only at this
  rw [show ((C.toNat : Nat) : Int) = C by omega, show (((f - 1).toNat : Nat) : Int) + 1 = f by omega] at this
  exact this
theorem or_20 {C : Int} (hC : 0 ≤ C ∧ C ≤ 31) : orI (2 * C) 0 = 2 * C := by
  have key : ∀ (n : Fin 32), orI (2 * (n.val : Int)) 0 = 2 * (n.val : Int) := by decide +kernel
  have := key ⟨C.toNat, by omega⟩
  simp only at this
  rw [show ((C.toNat : Nat) : Int) = C by omega] at this
  exact this
theorem and_2 {C : Int} (hC : 0 ≤ C ∧ C ≤ 31) : andI (2 * C) (2 * C - 1) = 0 ↔ andI C (C - 1) = 0 := by
  have key : ∀ (n : Fin 32), decide (andI (2 * (n.val : Int)) (2 * (n.val : Int) - 1) = 0) = decide (andI (n.val : Int) ((n.val : Int) - 1) = 0) := by decide +kernel
  have := key ⟨C.toNat, by omega⟩
  simp only at this
  rw [show ((C.toNat : Nat) : Int) = C by omega] at this
  exact decide_eq_decide.mp this
theorem or_nz {a b : Int} (ha : 0 ≤ a ∧ a ≤ 31) (hb : 0 ≤ b ∧ b ≤ 31) (h : orI a b = 0) : a = 0 ∧ b = 0 := by
  have key : ∀ (n m : Fin 32), orI (n.val : Int) (m.val : Int) = 0 → n.val = 0 ∧ m.val = 0 := by decide +kernel
  have := key ⟨a.toNat, by omega⟩ ⟨b.toNat, by omega⟩
  simp only at this
  rw [show ((a.toNat : Nat) : Int) = a by omega, show ((b.toNat : Nat) : Int) = b by omega] at this
  have := this h
  omega
theorem and_b {a b : Int} : -2147483648 ≤ andI a b ∧ andI a b < 2147483648 := iI_rng _
/-- some fingering is cheapest: some finger plays the note in one -/
theorem chS_nz {P : PT} (hbd : bdP P) (hz : ¬ lsS P 0 = -1) {e k : Int} (e0 : 0 ≤ e) (e1 : e < pE P) : ¬ chS P e k = 0 := by
  obtain ⟨n, hn⟩ : ∃ n : Nat, e = n := ⟨e.toNat, by omega⟩
  have h1 := tG_ls hbd (by omega) (e := n) (by omega)
  rw [← hn] at h1
  have n0 := hbd.2.2.1 e e0 e1
  have lsb := ls_b hbd (b := 0)
  obtain ⟨c, c0, c1, hc⟩ := mn_at (x := lsS P 0) n0.2.1 (fun i _ _ => (sum_b (ahS_b hbd (b := 0) (c := i) e0 e1) (bhS_b hbd (c := i) e0 e1) (by decide) (by decide)).1) (by omega) h1.symm
  have key : (0 ≤ chS P e k ∧ chS P e k ≤ 31) ∧ (c < cntS P e → ¬ chS P e k = 0) := by
    unfold chS
    refine itI_ind (fun i a => (0 ≤ a ∧ a ≤ 31) ∧ (c < i → ¬ a = 0)) ⟨by decide, fun h => by omega⟩ ?_ n0.2.1
    intro i a i0 i1 ⟨ha, hb⟩
    try dsimp only
    have bF := fgP_b (P := P) (e := e) (c := i) (k := k) n0.1
    have bb := bit_b bF
    by_cases hx : sumS (ahS P 0 e i) (bhS P e i) = lsS P 0
    · rw [if_pos hx]
      exact ⟨or_b ha (by omega), fun _ h => by have := (or_nz ha (by omega) h).2; omega⟩
    · rw [if_neg hx]
      refine ⟨ha, fun h => ?_⟩
      by_cases hci : c = i
      · subst hci; exact absurd hc hx
      · exact hb (by omega)
  exact key.2 c1
/-- reached events -/
theorem rch_mono {P : PT} (hbd : bdP P) {e : Int} (e0 : 0 ≤ e) (e1 : e + 1 < pE P) (h : rchS P (e + 1)) : rchS P e := by
  obtain ⟨c, c0, c1, hc⟩ := h
  rw [ahS_s (by omega), show e + 1 - 1 = e by omega] at hc
  refine Classical.byContradiction fun hn => hc ?_
  have n0 := hbd.2.2.1 e e0 (by omega)
  have hm : mnI (fun c' => sumS (ahS P 0 e c') (stepS P e c' c)) (cntS P e) = -1 := by
    have : mnI (fun c' => sumS (ahS P 0 e c') (stepS P e c' c)) (cntS P e) = mnI (fun _ => -1) (cntS P e) := mnI_congr (fun i i0 i1 => by
      have : ahS P 0 e i = -1 := Classical.byContradiction fun hx => hn ⟨i, i0, i1, hx⟩
      rw [this]; unfold sumS; rw [if_pos (Or.inl rfl)]) n0.2.1
    rw [this]
    have := mnI_b (f := fun _ => -1) (n := cntS P e) (A := 0) n0.2.1 (by decide) (fun _ _ _ => by decide)
    rcases (show mnI (fun _ => -1) (cntS P e) = -1 ∨ mnI (fun _ => -1) (cntS P e) = 0 by omega) with h | h
    · exact h
    · obtain ⟨i, _, _, hi⟩ := mn_at n0.2.1 (fun i _ _ => by decide) (by decide) h
      exact absurd hi (by decide)
  rw [hm]; unfold sumS; rw [if_pos (Or.inl rfl)]
theorem rc_b {P : PT} (hn : 0 ≤ pE P) : 0 ≤ rcS P ∧ rcS P ≤ pE P := by
  unfold rcS
  rcases fnd_spec (p := fun e => ¬ rchS P e) hn with ⟨h1, _⟩ | ⟨h1, h2, _⟩
  · rw [h1, if_pos (by decide)]; omega
  · rw [if_neg (by omega)]; omega
theorem rch_iff {P : PT} (hbd : bdP P) {e : Int} (e0 : 0 ≤ e) (e1 : e < pE P) : rchS P e ↔ e < rcS P := by
  have hn := hbd.2.1.1
  have down : ∀ d : Nat, ∀ i : Int, 0 ≤ i → i + d < pE P → rchS P (i + d) → rchS P i := by
    intro d
    induction d with
    | zero => intro i _ _ h; rw [show i + ((0 : Nat) : Int) = i by omega] at h; exact h
    | succ d ih =>
      intro i i0 i1 h
      refine ih i i0 (by omega) (rch_mono hbd (by omega) (by omega) ?_)
      rw [show i + (d : Int) + 1 = i + ((d + 1 : Nat) : Int) by omega]; exact h
  unfold rcS
  rcases fnd_spec (p := fun e => ¬ rchS P e) hn with ⟨h1, h2⟩ | ⟨h1, h2, h3, h4⟩
  · rw [h1, if_pos (by decide)]
    exact ⟨fun _ => e1, fun _ => Classical.byContradiction fun h => h2 e e0 e1 h⟩
  · rw [if_neg (by omega)]
    constructor
    · intro h
      refine Classical.byContradiction fun hx => h3 ?_
      obtain ⟨d, hd⟩ : ∃ d : Nat, e = fnd (fun e => ¬ rchS P e) (pE P) + d := ⟨(e - fnd (fun e => ¬ rchS P e) (pE P)).toNat, by omega⟩
      exact down d _ h1 (by omega) (by rw [← hd]; exact h)
    · intro h
      exact Classical.byContradiction fun hx => h4 e e0 h hx
section MQ5
variable {g : Gm} {I : Mm} {m : Nat} {P : PT}
theorem s_through {e c : Int} (hm : isM g m) (hbd : bdP P) (he : 0 ≤ e ∧ e < pE P) (hc : 0 ≤ c ∧ c < cntS P e) (hS : ShM P m I e) (h13 : I (m + 13) (10 * e + c) = farS (frS P e c)) (hU : UpM P m I e) :
    cl 231 [.ref m, .int (iI (10 * e + c))] (mk g I) = some (.inl (some (.int (iI (farS (sumS (ahS P 0 e c) (bhS P e c)))))), mk g I) := by
  have w1 := hbd.2.1
  have n0 := hbd.2.2.1 e he.1 he.2
  have nO := it_ok hc.1 hc.2
  have y2 := (hS.2 c hc.1 hc.2).2
  have h14 := hU c hc.1 hc.2
  have bA := ahS_b hbd (b := 0) (c := c) he.1 he.2
  have bB := bhS_b hbd (c := c) he.1 he.2
  have bO := hbd.2.2.2.1 0 e c he.1 he.2
  obtain ⟨t_0, ⟨t_1, d_1, n_1⟩, ⟨t_2, d_2, n_2⟩, ⟨t_3, d_3, n_3⟩, ⟨t_4, d_4, n_4⟩, ⟨t_5, d_5, n_5⟩, ⟨t_6, n_6⟩, ⟨t_7, d_7, n_7⟩, ⟨t_8, d_8, n_8⟩, ⟨t_9, d_9, n_9⟩, ⟨t_10, d_10, n_10⟩, ⟨t_11, d_11, n_11⟩, ⟨t_12, d_12, n_12⟩, ⟨t_13, d_13, n_13⟩, ⟨t_14, d_14, n_14⟩, ⟨t_15, n_15⟩, ⟨t_16, n_16⟩, ⟨t_17, d_17, n_17⟩, ⟨t_18, d_18, n_18⟩⟩ := hm
  by_cases hB : bhS P e c = -1
  · have f1 : frS P e c = -1 := by unfold frS sumS; rw [if_pos (Or.inr hB)]
    have f2 : sumS (ahS P 0 e c) (bhS P e c) = -1 := by unfold sumS; rw [if_pos (Or.inr hB)]
    rw [f1, show farS (-1) = 1000000000 from rfl] at h13
    rw [f2, show farS (-1) = 1000000000 from rfl]
    simp (maxSteps := 2000000) (disch := first | assumption | omega) only [aft_v, aft_n, aft_t, Nat.add_assoc, Nat.reduceAdd, if_true, if_false, not_true_eq_false, not_false_eq_true, Classical.not_not, Int.reduceAdd, Int.reduceSub, Int.reduceMul, Int.reduceNeg, Int.reduceLT, Int.reduceLE, Int.reduceEq, Int.add_zero, Int.zero_add, Int.sub_zero, c_231, w_231_0, w_231_2, w_231_4, h13]
  · have f1 : frS P e c = ownS P 0 e c + bhS P e c := by unfold frS sumS; rw [if_neg (fun z => by rcases z with z | z; exact nO z; exact hB z)]
    have f3 : farS (frS P e c) = ownS P 0 e c + bhS P e c := by rw [f1]; unfold farS; rw [if_neg (by omega)]
    rw [f3] at h13
    by_cases hA : ahS P 0 e c = -1
    · have f2 : sumS (ahS P 0 e c) (bhS P e c) = -1 := by unfold sumS; rw [if_pos (Or.inl hA)]
      rw [hA, show farS (-1) = 1000000000 from rfl] at h14
      rw [f2, show farS (-1) = 1000000000 from rfl]
      simp (maxSteps := 2000000) (disch := first | assumption | omega) only [aft_v, aft_n, aft_t, Nat.add_assoc, Nat.reduceAdd, if_true, if_false, not_true_eq_false, not_false_eq_true, Classical.not_not, Int.reduceAdd, Int.reduceSub, Int.reduceMul, Int.reduceNeg, Int.reduceLT, Int.reduceLE, Int.reduceEq, Int.add_zero, Int.zero_add, Int.sub_zero, c_231, w_231_0, w_231_1, w_231_2, w_231_4, h13, h14, if_neg (show ¬ 1000000000 ≤ ownS P 0 e c + bhS P e c by omega)]
    · have f2 : sumS (ahS P 0 e c) (bhS P e c) = ahS P 0 e c + bhS P e c := by unfold sumS; rw [if_neg (fun z => by rcases z with z | z; exact hA z; exact hB z)]
      have f4 : farS (ahS P 0 e c) = ahS P 0 e c := by unfold farS; rw [if_neg hA]
      rw [f4] at h14
      have f5 : farS (ahS P 0 e c + bhS P e c) = ownS P 0 e c + bhS P e c + ahS P 0 e c - ownS P 0 e c := by unfold farS; rw [if_neg (by omega)]; omega
      rw [f2, f5]
      simp (maxSteps := 2000000) (disch := first | assumption | omega) only [aft_v, aft_n, aft_t, Nat.add_assoc, Nat.reduceAdd, if_true, if_false, not_true_eq_false, not_false_eq_true, Classical.not_not, Int.reduceAdd, Int.reduceSub, Int.reduceMul, Int.reduceNeg, Int.reduceLT, Int.reduceLE, Int.reduceEq, Int.add_zero, Int.zero_add, Int.sub_zero, c_231, w_231_0, w_231_1, w_231_3, w_231_4, h13, h14, y2, if_neg (show ¬ 1000000000 ≤ ownS P 0 e c + bhS P e c by omega), if_pos (show ahS P 0 e c < 1000000000 by omega)]
theorem s_costWithM {L : Nat → Int → Int} {e k f : Int} (hm : isM g m) (hW : Wf P) (hP : P = mv I m) (he : 0 ≤ e ∧ e < pE P) (hk : 0 ≤ k ∧ k < pSz P e) (hf : 1 ≤ f ∧ f ≤ 5) :
    ∃ I' L', cl 230 [.ref m, .int (iI e), .int (iI k), .int (iI f)] (mk (gL g L) I) = some (.inl (some (.int (iI (lwS P e k f)))), mk (gL g L') I') ∧ frQ m 0 I I' ∧ frML m L L' := by
  have hbd := Wf_bd hW
  have w1 := hW.2.1
  have n0 := hbd.2.2.1 e he.1 he.2
  obtain ⟨J, L1, j1, j2, j3, j4⟩ := s_laysLeast (g := g) (I := upd2 I m 7 0) (L := L) (P := P) hm hW (by rw [mv_u]; exact hP)
  have fJ : frQ m 0 I J := frQ_fC frQ_u (frM_C j2)
  have pJ : mv J m = P := by rw [hP]; exact frQ_mv fJ
  obtain ⟨K, k1, k2, k3⟩ := s_laysUpTo (g := gL g L1) (I := J) (P := P) hm hW pJ.symm j4.1
  have fK : frQ m 0 I K := frQ_14 fJ k2
  refine ⟨K, L1, ?_, fK, j3⟩
  have hSK : ShM P m K e := (j4.1 e he.1 he.2).mono (k2 _ (by omega)) (k2 _ (by omega)) (k2 _ (by omega))
  have h13 : ∀ c, 0 ≤ c → c < cntS P e → K (m + 13) (10 * e + c) = farS (frS P e c) := fun c c0 c1 => by rw [k2 (m + 13) (by omega)]; exact (j4.2 e he.1 he.2 c c0 c1).1
  have hU := k3 e he.1 he.2
  have h11 : K (m + 11) e = cntS P e := hSK.1
  have q := s_isNote (g := gL g L) (I := I) (e := e) (k := k) hm (by rw [← hP]; exact hW) (by omega) (by omega)
  rw [if_pos (show (0 ≤ e ∧ e < I (m + 1) 0) ∧ 0 ≤ k ∧ k < I (m + 1) (42 + 8 * e) by rw [hP] at he hk; exact ⟨he, hk⟩)] at q
  have q1 := s_isFinger (g := gL g L) (I := I) (a := f) (by omega)
  rw [if_pos hf] at q1
  have u7 : upd2 I m 7 0 m 7 = 0 := upd2_at
  obtain ⟨g2, hg2⟩ : ∃ g2, g2 = gL g L1 := ⟨_, rfl⟩
  have hm2 : isM g2 m := by rw [hg2]; exact hm
  have hm3 := hm2
  have hm0 := hm
  rw [← hg2] at k1 ⊢
  obtain ⟨t_0, ⟨t_1, d_1, n_1⟩, ⟨t_2, d_2, n_2⟩, ⟨t_3, d_3, n_3⟩, ⟨t_4, d_4, n_4⟩, ⟨t_5, d_5, n_5⟩, ⟨t_6, n_6⟩, ⟨t_7, d_7, n_7⟩, ⟨t_8, d_8, n_8⟩, ⟨t_9, d_9, n_9⟩, ⟨t_10, d_10, n_10⟩, ⟨t_11, d_11, n_11⟩, ⟨t_12, d_12, n_12⟩, ⟨t_13, d_13, n_13⟩, ⟨t_14, d_14, n_14⟩, ⟨t_15, n_15⟩, ⟨t_16, n_16⟩, ⟨t_17, d_17, n_17⟩, ⟨t_18, d_18, n_18⟩⟩ := hm2
  have hsm := fun c => sum_b (ahS_b hbd (b := 0) (c := c) he.1 he.2) (bhS_b hbd (c := c) he.1 he.2) (by decide) (by decide)
  obtain ⟨B, hB⟩ : ∃ B : Int → Int, B = fun i => itI (fun c a => if fgP P e c k = f then lesS a (sumS (ahS P 0 e c) (bhS P e c)) else a) (-1 : Int) i := ⟨_, rfl⟩
  have hB0 : B 0 = -1 := by rw [hB]; rfl
  have hBs : ∀ i, 0 ≤ i → B (i + 1) = if fgP P e i k = f then lesS (B i) (sumS (ahS P 0 e i) (bhS P e i)) else B i := fun i h => by rw [hB]; exact itI_s h
  have hBb : ∀ i, 0 ≤ i → -1 ≤ B i ∧ B i ≤ 2400000 := fun i h => by
    rw [hB]
    refine itI_ind (fun _ x => -1 ≤ x ∧ x ≤ 2400000) (by decide) (fun c x _ _ hx => ?_) h
    try dsimp only
    split
    · exact les_b hx (hsm c)
    · exact hx
  have key := loop_up (σ := Unit) (head := fun c _ => rn 230 11 [some (.ref m), some (.int (iI e)), some (.int (iI k)), some (.int (iI f)), some (.int (iI (farS (B c)))), some (.int (iI (10 * e + c)))] [] (mk g2 K)) (Inv := fun c _ => 0 ≤ c) (n := cntS P e) (by
    intro c s c1 c0
    have nO := it_ok c0 c1
    have bA := ahS_b hbd (b := 0) (c := c) he.1 he.2
    have bB := bhS_b hbd (c := c) he.1 he.2
    have bO := hbd.2.2.2.1 0 e c he.1 he.2
    have bC := hBb c c0
    have bS := hsm c
    have fC := far_b bC (by decide)
    have y1 := (hSK.2 c c0 c1).1
    have y3 := h13 c c0 c1
    have y4 := hU c c0 c1
    have ib := itS_b (P := P) (e := e) (c := c) n0.1
    have q3 := s_fingerIn (g := g2) (I := K) (a := itS P e c) (k := k) (by omega) (by omega)
    have q4 := s_through (g := g2) (I := K) hm3 hbd he ⟨c0, c1⟩ hSK y3 hU
    have bF := fgP_b (P := P) (e := e) (c := c) (k := k) n0.1
    have eF : fgS (itS P e c) k = fgP P e c k := rfl
    rw [eF] at q3
    refine ⟨(), ?_, by omega⟩
    show rn _ _ _ _ _ = rn _ _ [_, _, _, _, _, some (.int (iI (10 * e + (c + 1))))] _ _
    rw [hBs c c0, ← Int.add_assoc]
    refine (w_230_11 (by first | assumption | omega) (by first | assumption | omega) (by first | assumption | omega) (by first | assumption | omega) (by first | assumption | omega) (by first | assumption | omega) (by first | assumption | omega) (by first | assumption | omega) (by first | assumption | omega)).trans ?_
    rw [h11]
    refine (if_neg (by omega)).trans ?_
    by_cases hff : fgP P e c k = f
    · rw [if_pos hff]
      rw [hff] at q3
      by_cases hBB : bhS P e c = -1
      · have f1 : frS P e c = -1 := by unfold frS sumS; rw [if_pos (Or.inr hBB)]
        have f2 : sumS (ahS P 0 e c) (bhS P e c) = -1 := by unfold sumS; rw [if_pos (Or.inr hBB)]
        rw [f1, show farS (-1) = 1000000000 from rfl] at y3
        rw [f2, show lesS (B c) (-1) = B c by unfold lesS; split <;> simp_all]
        simp (maxSteps := 2000000) (disch := first | assumption | omega) only [aft_v, aft_n, aft_t, Nat.add_assoc, Nat.reduceAdd, if_true, if_false, not_true_eq_false, not_false_eq_true, Classical.not_not, Int.reduceAdd, Int.reduceSub, Int.reduceMul, Int.reduceNeg, Int.reduceLT, Int.reduceLE, Int.reduceEq, Int.add_zero, Int.zero_add, Int.sub_zero, w_230_12, w_230_13, w_230_14, w_230_18, y1, q3, y3]
      · have f1 : frS P e c = ownS P 0 e c + bhS P e c := by unfold frS sumS; rw [if_neg (fun z => by rcases z with z | z; exact nO z; exact hBB z)]
        have f3 : farS (frS P e c) = ownS P 0 e c + bhS P e c := by rw [f1]; unfold farS; rw [if_neg (by omega)]
        rw [f3] at y3
        by_cases hA : ahS P 0 e c = -1
        · have f2 : sumS (ahS P 0 e c) (bhS P e c) = -1 := by unfold sumS; rw [if_pos (Or.inl hA)]
          rw [hA, show farS (-1) = 1000000000 from rfl] at y4
          rw [f2, show lesS (B c) (-1) = B c by unfold lesS; split <;> simp_all]
          simp (maxSteps := 2000000) (disch := first | assumption | omega) only [aft_v, aft_n, aft_t, Nat.add_assoc, Nat.reduceAdd, if_true, if_false, not_true_eq_false, not_false_eq_true, Classical.not_not, Int.reduceAdd, Int.reduceSub, Int.reduceMul, Int.reduceNeg, Int.reduceLT, Int.reduceLE, Int.reduceEq, Int.add_zero, Int.zero_add, Int.sub_zero, w_230_12, w_230_13, w_230_14, w_230_15, w_230_18, y1, q3, y3, y4, if_neg (show ¬ 1000000000 ≤ ownS P 0 e c + bhS P e c by omega)]
        · have f4 : farS (ahS P 0 e c) = ahS P 0 e c := by unfold farS; rw [if_neg hA]
          rw [f4] at y4
          have fS := far_b bS (by decide)
          rw [far_les bC bS (by decide)]
          simp (maxSteps := 2000000) (disch := first | assumption | omega) only [aft_v, aft_n, aft_t, Nat.add_assoc, Nat.reduceAdd, if_true, if_false, not_true_eq_false, not_false_eq_true, Classical.not_not, Int.reduceAdd, Int.reduceSub, Int.reduceMul, Int.reduceNeg, Int.reduceLT, Int.reduceLE, Int.reduceEq, Int.add_zero, Int.zero_add, Int.sub_zero, w_230_12, w_230_13, w_230_14, w_230_15, w_230_16, w_230_17, w_230_18, y1, q3, q4, y3, y4, if_neg (show ¬ 1000000000 ≤ ownS P 0 e c + bhS P e c by omega), if_neg (show ¬ 1000000000 ≤ ahS P 0 e c by omega)]
    · rw [if_neg hff]
      simp (maxSteps := 2000000) (disch := first | assumption | omega) only [aft_v, aft_n, aft_t, Nat.add_assoc, Nat.reduceAdd, if_true, if_false, not_true_eq_false, not_false_eq_true, Classical.not_not, Int.reduceAdd, Int.reduceSub, Int.reduceMul, Int.reduceNeg, Int.reduceLT, Int.reduceLE, Int.reduceEq, Int.add_zero, Int.zero_add, Int.sub_zero, w_230_12, w_230_13, w_230_18, y1, q3, hff]) 0 () n0.2.1 (Int.le_refl _)
  obtain ⟨-, key, -⟩ := key
  have key : rn 230 11 [some (.ref m), some (.int (iI e)), some (.int (iI k)), some (.int (iI f)), some (.int (iI (farS (B 0)))), some (.int (iI (10 * e + 0)))] [] (mk g2 K) = rn 230 11 [some (.ref m), some (.int (iI e)), some (.int (iI k)), some (.int (iI f)), some (.int (iI (farS (B (cntS P e))))), some (.int (iI (10 * e + cntS P e)))] [] (mk g2 K) := key
  rw [hB0, show farS (-1) = 1000000000 from rfl, Int.add_zero] at key
  have hlw : B (cntS P e) = lwS P e k f := by rw [hB]; rfl
  have bL := hBb (cntS P e) n0.2.1
  rw [hlw] at key bL
  have fL := far_b bL (by decide)
  have q5 := s_orNone (g := g2) (I := K) (a := farS (lwS P e k f)) (by omega)
  rw [far_back bL (by decide)] at q5
  rw [← hg2] at j1
  have h6 : (gL g L).1 m = sX6 m := hm0.1
  simp (maxSteps := 2000000) (disch := first | assumption | omega) only [aft_v, aft_n, aft_t, Nat.add_assoc, Nat.reduceAdd, if_true, if_false, not_true_eq_false, not_false_eq_true, Classical.not_not, Int.reduceAdd, Int.reduceSub, Int.reduceMul, Int.reduceNeg, Int.reduceLT, Int.reduceLE, Int.reduceEq, Int.add_zero, Int.zero_add, Int.sub_zero, c_230, w_230_0, w_230_1, w_230_2, w_230_3, w_230_4, q, q1, show ¬ (1 : Int) = 0 by decide]
  refine (w_230_6 (by first | assumption | omega) (by first | assumption | omega) (by first | assumption | omega) (by first | assumption | omega)).trans ?_
  simp (maxSteps := 2000000) (disch := first | assumption | omega) only [aft_v, aft_n, aft_t, Nat.add_assoc, Nat.reduceAdd, if_true, if_false, not_true_eq_false, not_false_eq_true, Classical.not_not, Int.reduceAdd, Int.reduceSub, Int.reduceMul, Int.reduceNeg, Int.reduceLT, Int.reduceLE, Int.reduceEq, Int.add_zero, Int.zero_add, Int.sub_zero, w_230_8, w_230_9, w_230_10, u7, j1, k1, if_pos (Int.le_refl 0)]
  rw [key]
  refine (w_230_11 (by first | assumption | omega) (by first | assumption | omega) (by first | assumption | omega) (by first | assumption | omega) (by first | assumption | omega) (by first | assumption | omega) (by first | assumption | omega) (by first | assumption | omega) (by first | assumption | omega)).trans ?_
  rw [h11]
  refine (if_pos (by omega)).trans ?_
  simp (maxSteps := 2000000) (disch := first | assumption | omega) only [aft_v, aft_n, aft_t, Nat.add_assoc, Nat.reduceAdd, if_true, if_false, not_true_eq_false, not_false_eq_true, Classical.not_not, Int.reduceAdd, Int.reduceSub, Int.reduceMul, Int.reduceNeg, Int.reduceLT, Int.reduceLE, Int.reduceEq, Int.add_zero, Int.zero_add, Int.sub_zero, w_230_19, w_230_20, q5]
theorem s_costWithBad {e k f : Int} (hm : isM g m) (hW : Wf (mv I m)) (hr : (-2147483648 ≤ e ∧ e < 2147483648)) (hr2 : (-2147483648 ≤ k ∧ k < 2147483648)) (hr3 : (-2147483648 ≤ f ∧ f < 2147483648)) (h : ¬ (((0 ≤ e ∧ e < I (m + 1) 0) ∧ 0 ≤ k ∧ k < I (m + 1) (42 + 8 * e)) ∧ 1 ≤ f ∧ f ≤ 5)) : cl 230 [.ref m, .int (iI e), .int (iI k), .int (iI f)] (mk g I) = some (.inl (some (.int (iI 0))), mk g (upd2 I m 7 1)) := by
  have q := s_isNote (g := g) (I := I) (e := e) (k := k) hm hW hr hr2
  have q1 := s_isFinger (g := g) (I := I) (a := f) hr3
  have u7 : upd2 I m 7 1 m 7 = 1 := upd2_at
  obtain ⟨t_0, ⟨t_1, d_1, n_1⟩, ⟨t_2, d_2, n_2⟩, ⟨t_3, d_3, n_3⟩, ⟨t_4, d_4, n_4⟩, ⟨t_5, d_5, n_5⟩, ⟨t_6, n_6⟩, ⟨t_7, d_7, n_7⟩, ⟨t_8, d_8, n_8⟩, ⟨t_9, d_9, n_9⟩, ⟨t_10, d_10, n_10⟩, ⟨t_11, d_11, n_11⟩, ⟨t_12, d_12, n_12⟩, ⟨t_13, d_13, n_13⟩, ⟨t_14, d_14, n_14⟩, ⟨t_15, n_15⟩, ⟨t_16, n_16⟩, ⟨t_17, d_17, n_17⟩, ⟨t_18, d_18, n_18⟩⟩ := hm
  by_cases h1 : (0 ≤ e ∧ e < I (m + 1) 0) ∧ 0 ≤ k ∧ k < I (m + 1) (42 + 8 * e)
  · rw [if_pos h1] at q
    rw [if_neg (fun z => h ⟨h1, z⟩)] at q1
    simp (maxSteps := 2000000) (disch := first | assumption | omega) only [aft_v, aft_n, aft_t, Nat.add_assoc, Nat.reduceAdd, if_true, if_false, not_true_eq_false, not_false_eq_true, Classical.not_not, Int.reduceAdd, Int.reduceSub, Int.reduceMul, Int.reduceNeg, Int.reduceLT, Int.reduceLE, Int.reduceEq, Int.add_zero, Int.zero_add, Int.sub_zero, c_230, w_230_0, w_230_1, w_230_2, w_230_3, w_230_5, w_230_6, w_230_7, q, q1, u7, if_neg (show ¬ (1 : Int) ≤ 0 by decide), show ¬ (1 : Int) = 0 by decide]
  · rw [if_neg h1] at q
    simp (maxSteps := 2000000) (disch := first | assumption | omega) only [aft_v, aft_n, aft_t, Nat.add_assoc, Nat.reduceAdd, if_true, if_false, not_true_eq_false, not_false_eq_true, Classical.not_not, Int.reduceAdd, Int.reduceSub, Int.reduceMul, Int.reduceNeg, Int.reduceLT, Int.reduceLE, Int.reduceEq, Int.add_zero, Int.zero_add, Int.sub_zero, c_230, w_230_0, w_230_1, w_230_5, w_230_6, w_230_7, q, u7, if_neg (show ¬ (1 : Int) ≤ 0 by decide)]
theorem s_reachesM (hm : isM g m) (hW : Wf P) (hP : P = mv I m) :
    ∃ I', cl 232 [.ref m] (mk g I) = some (.inl (some (.int (iI (rcS P)))), mk g I') ∧ frQ m 0 I I' := by
  have hbd := Wf_bd hW
  have w1 := hW.2.1
  obtain ⟨J, j1, j2, j3⟩ := s_laysShapes (g := g) (I := upd2 I m 7 0) (P := P) hm (by rw [mv_u, ← hP]; exact hW) (by rw [mv_u]; exact hP)
  have fJ : frQ m 0 I J := ⟨fun p hp hq => by rw [j2 p (by omega) (by omega) (by omega) (by omega)]; exact funext fun j => upd2_p hp, fun i hi => by rw [j2 m (by omega) (by omega) (by omega) (by omega), upd2_i hi], by rw [j2 m (by omega) (by omega) (by omega) (by omega), upd2_at]⟩
  have pJ : mv J m = P := by rw [hP]; exact frQ_mv fJ
  obtain ⟨K, k1, k2, k3⟩ := s_laysUpTo (g := g) (I := J) (P := P) hm hW pJ.symm j3
  have fK : frQ m 0 I K := frQ_14 fJ k2
  refine ⟨K, ?_, fK⟩
  have pK : mv K m = P := by rw [hP]; exact frQ_mv fK
  have h11 : ∀ e, 0 ≤ e → e < pE P → K (m + 11) e = cntS P e := fun e a b => by rw [k2 (m + 11) (by omega)]; exact (j3 e a b).1
  have hm' := hm
  obtain ⟨t_0, ⟨t_1, d_1, n_1⟩, ⟨t_2, d_2, n_2⟩, ⟨t_3, d_3, n_3⟩, ⟨t_4, d_4, n_4⟩, ⟨t_5, d_5, n_5⟩, ⟨t_6, n_6⟩, ⟨t_7, d_7, n_7⟩, ⟨t_8, d_8, n_8⟩, ⟨t_9, d_9, n_9⟩, ⟨t_10, d_10, n_10⟩, ⟨t_11, d_11, n_11⟩, ⟨t_12, d_12, n_12⟩, ⟨t_13, d_13, n_13⟩, ⟨t_14, d_14, n_14⟩, ⟨t_15, n_15⟩, ⟨t_16, n_16⟩, ⟨t_17, d_17, n_17⟩, ⟨t_18, d_18, n_18⟩⟩ := hm
  have hev : cl 182 [.ref m] (mk g K) = some (.inl (some (.int (iI (pE P)))), mk g K) := by rw [← pK]; exact s_events hm'
  obtain ⟨V, hV⟩ : ∃ V : Int → Int, V = fun i => min i (rcS P) := ⟨_, rfl⟩
  have hVv : ∀ i, V i = min i (rcS P) := fun i => by rw [hV]
  have rb := rc_b (P := P) w1.1
  have key := loop_up (σ := Option Value) (head := fun e o => rn 232 3 [some (.ref m), some (.int (iI (V e))), some (.int (iI e)), o] [] (mk g K)) (Inv := fun e _ => 0 ≤ e) (n := pE P) (by
    intro e o e1 e0
    have n0 := hbd.2.2.1 e e0 e1
    have hc := h11 e e0 e1
    obtain ⟨A, hA⟩ : ∃ A : Int → Int, A = fun i => itI (fun c a => if ahS P 0 e c = -1 then a else e + 1) (V e) i := ⟨_, rfl⟩
    have hAs : ∀ i, 0 ≤ i → A (i + 1) = if ahS P 0 e i = -1 then A i else e + 1 := fun i h => by rw [hA]; exact itI_s h
    have inner := loop_up (σ := Unit) (head := fun c _ => rn 232 6 [some (.ref m), some (.int (iI (A c))), some (.int (iI e)), some (.int (iI (10 * e + c)))] [] (mk g K)) (Inv := fun c _ => 0 ≤ c) (n := cntS P e) (by
      intro c s c1 c0
      have y4 := k3 e e0 e1 c c0 c1
      have bA := ahS_b hbd (b := 0) (c := c) e0 e1
      refine ⟨(), ?_, by omega⟩
      show rn _ _ _ _ _ = rn _ _ [_, _, _, some (.int (iI (10 * e + (c + 1))))] _ _
      rw [hAs c c0, ← Int.add_assoc]
      refine (w_232_6 (by first | assumption | omega) (by first | assumption | omega) (by first | assumption | omega) (by first | assumption | omega) (by first | assumption | omega) (by first | assumption | omega) (by first | assumption | omega) (by first | assumption | omega) (by first | assumption | omega)).trans ?_
      rw [hc]
      refine (if_neg (by omega)).trans ?_
      by_cases hx : ahS P 0 e c = -1
      · rw [if_pos hx]
        rw [hx, show farS (-1) = 1000000000 from rfl] at y4
        simp (maxSteps := 2000000) (disch := first | assumption | omega) only [aft_v, aft_n, aft_t, Nat.add_assoc, Nat.reduceAdd, if_true, if_false, not_true_eq_false, not_false_eq_true, Classical.not_not, Int.reduceAdd, Int.reduceSub, Int.reduceMul, Int.reduceNeg, Int.reduceLT, Int.reduceLE, Int.reduceEq, Int.add_zero, Int.zero_add, Int.sub_zero, w_232_7, w_232_9, w_232_10, y4]
      · rw [if_neg hx]
        have f4 : farS (ahS P 0 e c) = ahS P 0 e c := by unfold farS; rw [if_neg hx]
        rw [f4] at y4
        simp (maxSteps := 2000000) (disch := first | assumption | omega) only [aft_v, aft_n, aft_t, Nat.add_assoc, Nat.reduceAdd, if_true, if_false, not_true_eq_false, not_false_eq_true, Classical.not_not, Int.reduceAdd, Int.reduceSub, Int.reduceMul, Int.reduceNeg, Int.reduceLT, Int.reduceLE, Int.reduceEq, Int.add_zero, Int.zero_add, Int.sub_zero, w_232_7, w_232_8, w_232_10, y4, if_neg (show ¬ 1000000000 ≤ ahS P 0 e c by omega)]) 0 () n0.2.1 (Int.le_refl _)
    obtain ⟨-, ie, -⟩ := inner
    have hA0 : A 0 = V e := by rw [hA]; rfl
    have hAl : A (cntS P e) = V (e + 1) := by
      have hi := itI_ind (F := fun c a => if ahS P 0 e c = -1 then a else e + 1) (a := V e) (n := cntS P e) (fun k v => (v = e + 1 ∧ ∃ c, 0 ≤ c ∧ c < k ∧ ¬ ahS P 0 e c = -1) ∨ (v = V e ∧ ∀ c, 0 ≤ c → c < k → ahS P 0 e c = -1)) (Or.inr ⟨rfl, fun c a b => by omega⟩) (fun i v i0 i1 hv => by
        try dsimp only
        by_cases hx : ahS P 0 e i = -1
        · rw [if_pos hx]
          rcases hv with ⟨hv, c, c0, c1, hc⟩ | ⟨hv, hall⟩
          · exact Or.inl ⟨hv, c, c0, by omega, hc⟩
          · refine Or.inr ⟨hv, fun c a b => ?_⟩
            by_cases hci : c = i
            · subst hci; exact hx
            · exact hall c a (by omega)
        · rw [if_neg hx]
          exact Or.inl ⟨rfl, i, i0, by omega, hx⟩) n0.2.1
      have hr := rch_iff hbd e0 e1
      rw [hA]
      show itI (fun c a => if ahS P 0 e c = -1 then a else e + 1) (V e) (cntS P e) = V (e + 1)
      rcases hi with ⟨h1, c, c0, c1, hc⟩ | ⟨h1, h2⟩
      · have := hr.mp ⟨c, c0, c1, hc⟩
        rw [h1, hVv]
        omega
      · have : ¬ e < rcS P := fun h => by
          obtain ⟨c, c0, c1, hc⟩ := hr.mpr h
          exact hc (h2 c c0 c1)
        rw [h1, hVv, hVv]
        omega
    have ie : rn 232 6 [some (.ref m), some (.int (iI (A 0))), some (.int (iI e)), some (.int (iI (10 * e + 0)))] [] (mk g K) = rn 232 6 [some (.ref m), some (.int (iI (A (cntS P e)))), some (.int (iI e)), some (.int (iI (10 * e + cntS P e)))] [] (mk g K) := ie
    rw [hA0, hAl, Int.add_zero] at ie
    refine ⟨some (.int (iI (10 * e + cntS P e))), ?_, by omega⟩
    show rn _ _ _ _ _ = rn _ _ _ _ _
    refine (w_232_3 (by first | assumption | omega)).trans ?_
    simp (maxSteps := 2000000) (disch := first | assumption | omega) only [aft_v, aft_n, aft_t, Nat.add_assoc, Nat.reduceAdd, if_true, if_false, not_true_eq_false, not_false_eq_true, Classical.not_not, Int.reduceAdd, Int.reduceSub, Int.reduceMul, Int.reduceNeg, Int.reduceLT, Int.reduceLE, Int.reduceEq, Int.add_zero, Int.zero_add, Int.sub_zero, w_232_4, w_232_5, hev, if_neg (show ¬ pE P ≤ e by omega)]
    rw [ie]
    refine (w_232_6 (by first | assumption | omega) (by first | assumption | omega) (by first | assumption | omega) (by first | assumption | omega) (by first | assumption | omega) (by first | assumption | omega) (by first | assumption | omega) (by first | assumption | omega) (by first | assumption | omega)).trans ?_
    rw [hc]
    refine (if_pos (by omega)).trans ?_
    simp (maxSteps := 2000000) (disch := first | assumption | omega) only [aft_v, aft_n, aft_t, Nat.add_assoc, Nat.reduceAdd, if_true, if_false, not_true_eq_false, not_false_eq_true, Classical.not_not, Int.reduceAdd, Int.reduceSub, Int.reduceMul, Int.reduceNeg, Int.reduceLT, Int.reduceLE, Int.reduceEq, Int.add_zero, Int.zero_add, Int.sub_zero, w_232_11]) 0 none w1.1 (Int.le_refl _)
  obtain ⟨o', key, -⟩ := key
  have key : rn 232 3 [some (.ref m), some (.int (iI (V 0))), some (.int (iI 0)), none] [] (mk g K) = rn 232 3 [some (.ref m), some (.int (iI (V (pE P)))), some (.int (iI (pE P))), o'] [] (mk g K) := key
  have hV0 : V 0 = 0 := by rw [hV]; show min 0 (rcS P) = 0; omega
  have hVl : V (pE P) = rcS P := by rw [hV]; show min (pE P) (rcS P) = _; omega
  rw [hV0, hVl] at key
  simp (maxSteps := 2000000) (disch := first | assumption | omega) only [aft_v, aft_n, aft_t, Nat.add_assoc, Nat.reduceAdd, if_true, if_false, not_true_eq_false, not_false_eq_true, Classical.not_not, Int.reduceAdd, Int.reduceSub, Int.reduceMul, Int.reduceNeg, Int.reduceLT, Int.reduceLE, Int.reduceEq, Int.add_zero, Int.zero_add, Int.sub_zero, c_232, w_232_0, w_232_1, w_232_2, j1, k1]
  rw [key]
  refine (w_232_3 (by first | assumption | omega)).trans ?_
  simp (maxSteps := 2000000) (disch := first | assumption | omega) only [aft_v, aft_n, aft_t, Nat.add_assoc, Nat.reduceAdd, if_true, if_false, not_true_eq_false, not_false_eq_true, Classical.not_not, Int.reduceAdd, Int.reduceSub, Int.reduceMul, Int.reduceNeg, Int.reduceLT, Int.reduceLE, Int.reduceEq, Int.add_zero, Int.zero_add, Int.sub_zero, w_232_4, w_232_12, hev, if_pos (Int.le_refl (pE P))]
theorem s_isSure {e k : Int} (hm : isM g m) (hbd : bdP P) (he : 0 ≤ e ∧ e < pE P) (hk : 0 ≤ k ∧ k < pSz P e) (hS : ShM P m I e) (h13 : ∀ c, 0 ≤ c → c < cntS P e → I (m + 13) (10 * e + c) = farS (frS P e c)) (hU : UpM P m I e) :
    cl 234 [.ref m, .int (iI e), .int (iI k), .int (iI (farS (lsS P 0)))] (mk g I) = some (.inl (some (.int (iI (if andI (chS P e k) (chS P e k - 1) = 0 then 1 else 0)))), mk g I) := by
  have w1 := hbd.2.1
  have n0 := hbd.2.2.1 e he.1 he.2
  have lsb := ls_b hbd (b := 0)
  have fls := far_b lsb (by decide)
  have h11 : I (m + 11) e = cntS P e := hS.1
  have hm' := hm
  obtain ⟨t_0, ⟨t_1, d_1, n_1⟩, ⟨t_2, d_2, n_2⟩, ⟨t_3, d_3, n_3⟩, ⟨t_4, d_4, n_4⟩, ⟨t_5, d_5, n_5⟩, ⟨t_6, n_6⟩, ⟨t_7, d_7, n_7⟩, ⟨t_8, d_8, n_8⟩, ⟨t_9, d_9, n_9⟩, ⟨t_10, d_10, n_10⟩, ⟨t_11, d_11, n_11⟩, ⟨t_12, d_12, n_12⟩, ⟨t_13, d_13, n_13⟩, ⟨t_14, d_14, n_14⟩, ⟨t_15, n_15⟩, ⟨t_16, n_16⟩, ⟨t_17, d_17, n_17⟩, ⟨t_18, d_18, n_18⟩⟩ := hm
  obtain ⟨A, hA⟩ : ∃ A : Int → Int, A = fun i => itI (fun c a => if sumS (ahS P 0 e c) (bhS P e c) = lsS P 0 then orI a (bitF (fgP P e c k)) else a) (0 : Int) i := ⟨_, rfl⟩
  have hA0 : A 0 = 0 := by rw [hA]; rfl
  have hAs : ∀ i, 0 ≤ i → A (i + 1) = if sumS (ahS P 0 e i) (bhS P e i) = lsS P 0 then orI (A i) (bitF (fgP P e i k)) else A i := fun i h => by rw [hA]; exact itI_s h
  have hAb : ∀ i, 0 ≤ i → 0 ≤ A i ∧ A i ≤ 31 := fun i h => by
    rw [hA]
    refine itI_ind (fun _ x => 0 ≤ x ∧ x ≤ 31) (by decide) (fun c x _ _ hx => ?_) h
    try dsimp only
    split
    · have := bit_b (fgP_b (P := P) (e := e) (c := c) (k := k) n0.1)
      exact or_b hx (by omega)
    · exact hx
  have key := loop_up (σ := Unit) (head := fun c _ => rn 234 1 [some (.ref m), some (.int (iI e)), some (.int (iI k)), some (.int (iI (farS (lsS P 0)))), some (.int (iI (2 * A c))), some (.int (iI (10 * e + c)))] [] (mk g I)) (Inv := fun c _ => 0 ≤ c) (n := cntS P e) (by
    intro c s c1 c0
    have bA := hAb c c0
    have y1 := (hS.2 c c0 c1).1
    have ib := itS_b (P := P) (e := e) (c := c) n0.1
    have q3 := s_fingerIn (g := g) (I := I) (a := itS P e c) (k := k) (by omega) (by omega)
    have q4 := s_through (g := g) (I := I) hm' hbd he ⟨c0, c1⟩ hS (h13 c c0 c1) hU
    have bF := fgP_b (P := P) (e := e) (c := c) (k := k) n0.1
    have eF : fgS (itS P e c) k = fgP P e c k := rfl
    rw [eF] at q3
    have bS := sum_b (ahS_b hbd (b := 0) (c := c) he.1 he.2) (bhS_b hbd (c := c) he.1 he.2) (by decide) (by decide)
    have fS := far_b bS (by decide)
    have hi := far_inj (A := 2400000) bS (b := lsS P 0) (by omega) (by decide)
    refine ⟨(), ?_, by omega⟩
    show rn _ _ _ _ _ = rn _ _ [_, _, _, _, _, some (.int (iI (10 * e + (c + 1))))] _ _
    rw [hAs c c0, ← Int.add_assoc]
    refine (w_234_1 (by first | assumption | omega) (by first | assumption | omega) (by first | assumption | omega) (by first | assumption | omega) (by first | assumption | omega) (by first | assumption | omega) (by first | assumption | omega) (by first | assumption | omega) (by first | assumption | omega)).trans ?_
    rw [h11]
    refine (if_neg (by omega)).trans ?_
    by_cases hx : sumS (ahS P 0 e c) (bhS P e c) = lsS P 0
    · rw [if_pos hx]
      rw [hx] at q4
      rw [← or_2 bA bF]
      simp (maxSteps := 2000000) (disch := first | assumption | omega) only [aft_v, aft_n, aft_t, Nat.add_assoc, Nat.reduceAdd, if_true, if_false, not_true_eq_false, not_false_eq_true, Classical.not_not, Int.reduceAdd, Int.reduceSub, Int.reduceMul, Int.reduceNeg, Int.reduceLT, Int.reduceLE, Int.reduceEq, Int.add_zero, Int.zero_add, Int.sub_zero, w_234_2, w_234_3, w_234_4, w_234_5, w_234_7, y1, q3, q4]
    · rw [if_neg hx]
      have hx2 : ¬ farS (sumS (ahS P 0 e c) (bhS P e c)) = farS (lsS P 0) := fun h => hx (hi.mp h)
      have o0 := or_20 bA
      simp (maxSteps := 2000000) (disch := first | assumption | omega) only [aft_v, aft_n, aft_t, Nat.add_assoc, Nat.reduceAdd, if_true, if_false, not_true_eq_false, not_false_eq_true, Classical.not_not, Int.reduceAdd, Int.reduceSub, Int.reduceMul, Int.reduceNeg, Int.reduceLT, Int.reduceLE, Int.reduceEq, Int.add_zero, Int.zero_add, Int.sub_zero, w_234_2, w_234_3, w_234_6, w_234_7, q4, hx2, o0]) 0 () n0.2.1 (Int.le_refl _)
  obtain ⟨-, key, -⟩ := key
  have key : rn 234 1 [some (.ref m), some (.int (iI e)), some (.int (iI k)), some (.int (iI (farS (lsS P 0)))), some (.int (iI (2 * A 0))), some (.int (iI (10 * e + 0)))] [] (mk g I) = rn 234 1 [some (.ref m), some (.int (iI e)), some (.int (iI k)), some (.int (iI (farS (lsS P 0)))), some (.int (iI (2 * A (cntS P e)))), some (.int (iI (10 * e + cntS P e)))] [] (mk g I) := key
  have hAl : A (cntS P e) = chS P e k := by rw [hA]; rfl
  have bC := hAb _ n0.2.1
  rw [hAl] at bC
  rw [hA0, hAl, Int.add_zero, show (2 : Int) * 0 = 0 from rfl] at key
  have h2 := and_2 bC
  have ab := and_b (a := 2 * chS P e k) (b := 2 * chS P e k - 1)
  refine c_234.trans ?_
  refine (w_234_0).trans ?_
  refine key.trans ?_
  refine (w_234_1 (by first | assumption | omega) (by first | assumption | omega) (by first | assumption | omega) (by first | assumption | omega) (by first | assumption | omega) (by first | assumption | omega) (by first | assumption | omega) (by first | assumption | omega) (by first | assumption | omega)).trans ?_
  rw [h11]
  refine (if_pos (by omega)).trans ?_
  by_cases hz : andI (chS P e k) (chS P e k - 1) = 0
  · have hz2 := h2.mpr hz
    rw [if_pos hz]
    simp (maxSteps := 2000000) (disch := first | assumption | omega) only [aft_v, aft_n, aft_t, Nat.add_assoc, Nat.reduceAdd, if_true, if_false, not_true_eq_false, not_false_eq_true, Classical.not_not, Int.reduceAdd, Int.reduceSub, Int.reduceMul, Int.reduceNeg, Int.reduceLT, Int.reduceLE, Int.reduceEq, Int.add_zero, Int.zero_add, Int.sub_zero, w_234_8, w_234_9, w_234_11, hz2]
  · have hz2 : ¬ andI (2 * chS P e k) (2 * chS P e k - 1) = 0 := fun h => hz (h2.mp h)
    rw [if_neg hz]
    simp (maxSteps := 2000000) (disch := first | assumption | omega) only [aft_v, aft_n, aft_t, Nat.add_assoc, Nat.reduceAdd, if_true, if_false, not_true_eq_false, not_false_eq_true, Classical.not_not, Int.reduceAdd, Int.reduceSub, Int.reduceMul, Int.reduceNeg, Int.reduceLT, Int.reduceLE, Int.reduceEq, Int.add_zero, Int.zero_add, Int.sub_zero, w_234_8, w_234_10, w_234_11, hz2]
theorem s_sureM {L : Nat → Int → Int} (hm : isM g m) (hW : Wf P) (hP : P = mv I m) (hz : ¬ lsS P 0 = -1) :
    ∃ I' L', cl 235 [.ref m] (mk (gL g L) I) = some (.inl (some (.int (iI (suS P)))), mk (gL g L') I') ∧ frQ m 0 I I' ∧ frML m L L' := by
  have hbd := Wf_bd hW
  have w1 := hW.2.1
  have lsb := ls_b hbd (b := 0)
  have fls := far_b lsb (by decide)
  have fl2 : farS (lsS P 0) = lsS P 0 := by unfold farS; rw [if_neg hz]
  obtain ⟨J, L1, j1, j2, j3, j4⟩ := s_bestNow (g := g) (I := I) (L := L) (P := P) hm hW hP
  have fJ : frQ m 0 I (upd2 J m 7 0) := frQ_C (frM_C j2)
  have pJ : mv (upd2 J m 7 0) m = P := by rw [hP]; exact frQ_mv fJ
  have hSJ : ∀ e, 0 ≤ e → e < pE P → ShM P m (upd2 J m 7 0) e := fun e a b => (j4.1 e a b).mono (funext fun _ => upd2_p (by omega)) (funext fun _ => upd2_p (by omega)) (funext fun _ => upd2_p (by omega))
  obtain ⟨K, k1, k2, k3⟩ := s_laysUpTo (g := gL g L1) (I := upd2 J m 7 0) (P := P) hm hW pJ.symm hSJ
  have fK : frQ m 0 I K := frQ_14 fJ k2
  refine ⟨K, L1, ?_, fK, j3⟩
  have pK : mv K m = P := by rw [hP]; exact frQ_mv fK
  have hSK : ∀ e, 0 ≤ e → e < pE P → ShM P m K e := fun e a b => (hSJ e a b).mono (k2 _ (by omega)) (k2 _ (by omega)) (k2 _ (by omega))
  have h13 : ∀ e, 0 ≤ e → e < pE P → ∀ c, 0 ≤ c → c < cntS P e → K (m + 13) (10 * e + c) = farS (frS P e c) := fun e a b c c0 c1 => by rw [k2 (m + 13) (by omega), upd2_p (by omega)]; exact (j4.2 e a b c c0 c1).1
  have u7 : upd2 J m 7 0 m 7 = 0 := upd2_at
  obtain ⟨g2, hg2⟩ : ∃ g2, g2 = gL g L1 := ⟨_, rfl⟩
  have hm2 : isM g2 m := by rw [hg2]; exact hm
  have hm3 := hm2
  have hm0 := hm
  rw [← hg2] at k1 j1 ⊢
  obtain ⟨t_0, ⟨t_1, d_1, n_1⟩, ⟨t_2, d_2, n_2⟩, ⟨t_3, d_3, n_3⟩, ⟨t_4, d_4, n_4⟩, ⟨t_5, d_5, n_5⟩, ⟨t_6, n_6⟩, ⟨t_7, d_7, n_7⟩, ⟨t_8, d_8, n_8⟩, ⟨t_9, d_9, n_9⟩, ⟨t_10, d_10, n_10⟩, ⟨t_11, d_11, n_11⟩, ⟨t_12, d_12, n_12⟩, ⟨t_13, d_13, n_13⟩, ⟨t_14, d_14, n_14⟩, ⟨t_15, n_15⟩, ⟨t_16, n_16⟩, ⟨t_17, d_17, n_17⟩, ⟨t_18, d_18, n_18⟩⟩ := hm2
  have hev : cl 182 [.ref m] (mk g2 K) = some (.inl (some (.int (iI (pE P)))), mk g2 K) := by rw [← pK]; exact s_events hm3
  have key := loop_sum2 (O := fun e a o => rn 235 8 [some (.ref m), some (.int (iI (farS (lsS P 0)))), some (.int (iI a)), some (.int (iI e)), o] [] (mk g2 K)) (N := fun e k a => rn 235 11 [some (.ref m), some (.int (iI (farS (lsS P 0)))), some (.int (iI a)), some (.int (iI e)), some (.int (iI k))] [] (mk g2 K)) (f := fun e k => if bcI (chS P e k) = 1 then 1 else 0) (sz := pSz P) (n := pE P) hbd.2.1 (fun e e0 e1 => by have := (hbd.2.2.1 e e0 e1).1; omega) (fun e k _ _ _ _ => by split <;> omega)
    (fun e a o e0 e1 a0 a1 => by
      show rn _ _ _ _ _ = rn _ _ _ _ _
      refine (w_235_8 (by first | assumption | omega)).trans ?_
      simp (maxSteps := 2000000) (disch := first | assumption | omega) only [aft_v, aft_n, aft_t, Nat.add_assoc, Nat.reduceAdd, if_true, if_false, not_true_eq_false, not_false_eq_true, Classical.not_not, Int.reduceAdd, Int.reduceSub, Int.reduceMul, Int.reduceNeg, Int.reduceLT, Int.reduceLE, Int.reduceEq, Int.add_zero, Int.zero_add, Int.sub_zero, w_235_9, w_235_10, hev, if_neg (show ¬ pE P ≤ e by omega)])
    (fun e k a e0 e1 k0 k1 a0 a1 => by
      have n0 := hbd.2.2.1 e e0 e1
      have q0 : cl 183 [.ref m, .int (iI e)] (mk g2 K) = some (.inl (some (.int (iI (pSz P e)))), mk g2 K) := by rw [← pK]; exact s_notesOf hm3 (by omega)
      have q3 := s_isSure (g := g2) (I := K) (P := P) hm3 hbd ⟨e0, e1⟩ ⟨k0, k1⟩ (hSK e e0 e1) (h13 e e0 e1) (k3 e e0 e1)
      have hb := bc_1 (chS_b hbd (k := k) e0 e1)
      have nz := chS_nz hbd hz (k := k) e0 e1
      show rn _ _ _ _ _ = rn _ _ _ _ _
      refine (w_235_11 (by first | assumption | omega)).trans ?_
      by_cases hff : andI (chS P e k) (chS P e k - 1) = 0
      · rw [if_pos (hb.1.mpr ⟨hff, nz⟩)]
        rw [if_pos hff] at q3
        simp (maxSteps := 2000000) (disch := first | assumption | omega) only [aft_v, aft_n, aft_t, Nat.add_assoc, Nat.reduceAdd, if_true, if_false, not_true_eq_false, not_false_eq_true, Classical.not_not, Int.reduceAdd, Int.reduceSub, Int.reduceMul, Int.reduceNeg, Int.reduceLT, Int.reduceLE, Int.reduceEq, Int.add_zero, Int.zero_add, Int.sub_zero, w_235_12, w_235_13, w_235_14, w_235_15, w_235_17, q0, q3, if_neg (show ¬ pSz P e ≤ k by omega), show ¬ (1 : Int) = 0 by decide]
      · rw [if_neg (fun z => hff (hb.1.mp z).1)]
        rw [if_neg hff] at q3
        simp (maxSteps := 2000000) (disch := first | assumption | omega) only [aft_v, aft_n, aft_t, Nat.add_assoc, Nat.reduceAdd, if_true, if_false, not_true_eq_false, not_false_eq_true, Classical.not_not, Int.reduceAdd, Int.reduceSub, Int.reduceMul, Int.reduceNeg, Int.reduceLT, Int.reduceLE, Int.reduceEq, Int.add_zero, Int.zero_add, Int.sub_zero, w_235_12, w_235_13, w_235_14, w_235_16, w_235_17, q0, q3, if_neg (show ¬ pSz P e ≤ k by omega)])
    (fun e a e0 e1 a0 a1 => by
      have n0 := hbd.2.2.1 e e0 e1
      have q0 : cl 183 [.ref m, .int (iI e)] (mk g2 K) = some (.inl (some (.int (iI (pSz P e)))), mk g2 K) := by rw [← pK]; exact s_notesOf hm3 (by omega)
      show rn _ _ _ _ _ = rn _ _ _ _ _
      refine (w_235_11 (by first | assumption | omega)).trans ?_
      simp (maxSteps := 2000000) (disch := first | assumption | omega) only [aft_v, aft_n, aft_t, Nat.add_assoc, Nat.reduceAdd, if_true, if_false, not_true_eq_false, not_false_eq_true, Classical.not_not, Int.reduceAdd, Int.reduceSub, Int.reduceMul, Int.reduceNeg, Int.reduceLT, Int.reduceLE, Int.reduceEq, Int.add_zero, Int.zero_add, Int.sub_zero, w_235_12, w_235_18, q0, if_pos (Int.le_refl (pSz P e))]) none
  obtain ⟨o', key⟩ := key
  have key : rn 235 8 [some (.ref m), some (.int (iI (farS (lsS P 0)))), some (.int (iI 0)), some (.int (iI 0)), none] [] (mk g2 K) = rn 235 8 [some (.ref m), some (.int (iI (farS (lsS P 0)))), some (.int (iI (suS P))), some (.int (iI (pE P))), o'] [] (mk g2 K) := key
  have h6 : (gL g L).1 m = sX6 m := hm0.1
  simp (maxSteps := 2000000) (disch := first | assumption | omega) only [aft_v, aft_n, aft_t, Nat.add_assoc, Nat.reduceAdd, if_true, if_false, not_true_eq_false, not_false_eq_true, Classical.not_not, Int.reduceAdd, Int.reduceSub, Int.reduceMul, Int.reduceNeg, Int.reduceLT, Int.reduceLE, Int.reduceEq, Int.add_zero, Int.zero_add, Int.sub_zero, c_235, w_235_0, w_235_1, w_235_2, j1, if_neg (show ¬ 1000000000 ≤ farS (lsS P 0) by omega)]
  refine (w_235_4 (by first | assumption | omega) (by first | assumption | omega) (by first | assumption | omega) (by first | assumption | omega)).trans ?_
  simp (maxSteps := 2000000) (disch := first | assumption | omega) only [aft_v, aft_n, aft_t, Nat.add_assoc, Nat.reduceAdd, if_true, if_false, not_true_eq_false, not_false_eq_true, Classical.not_not, Int.reduceAdd, Int.reduceSub, Int.reduceMul, Int.reduceNeg, Int.reduceLT, Int.reduceLE, Int.reduceEq, Int.add_zero, Int.zero_add, Int.sub_zero, w_235_6, w_235_7, u7, k1, if_pos (Int.le_refl 0)]
  rw [key]
  refine (w_235_8 (by first | assumption | omega)).trans ?_
  simp (maxSteps := 2000000) (disch := first | assumption | omega) only [aft_v, aft_n, aft_t, Nat.add_assoc, Nat.reduceAdd, if_true, if_false, not_true_eq_false, not_false_eq_true, Classical.not_not, Int.reduceAdd, Int.reduceSub, Int.reduceMul, Int.reduceNeg, Int.reduceLT, Int.reduceLE, Int.reduceEq, Int.add_zero, Int.zero_add, Int.sub_zero, w_235_9, w_235_19, hev, if_pos (Int.le_refl (pE P))]
theorem s_sureNo {L : Nat → Int → Int} (hm : isM g m) (hW : Wf P) (hP : P = mv I m) (hz : lsS P 0 = -1) :
    ∃ I' L', cl 235 [.ref m] (mk (gL g L) I) = some (.inl (some (.int (iI 0))), mk (gL g L') I') ∧ frQ m 1 I I' ∧ frML m L L' := by
  obtain ⟨J, L1, j1, j2, j3, j4⟩ := s_bestNow (g := g) (I := I) (L := L) (P := P) hm hW hP
  rw [hz, show farS (-1) = 1000000000 from rfl] at j1
  refine ⟨upd2 J m 7 1, L1, ?_, frQ_C (frM_C j2), j3⟩
  have u7 : upd2 J m 7 1 m 7 = 1 := upd2_at
  obtain ⟨t_0, ⟨t_1, d_1, n_1⟩, ⟨t_2, d_2, n_2⟩, ⟨t_3, d_3, n_3⟩, ⟨t_4, d_4, n_4⟩, ⟨t_5, d_5, n_5⟩, ⟨t_6, n_6⟩, ⟨t_7, d_7, n_7⟩, ⟨t_8, d_8, n_8⟩, ⟨t_9, d_9, n_9⟩, ⟨t_10, d_10, n_10⟩, ⟨t_11, d_11, n_11⟩, ⟨t_12, d_12, n_12⟩, ⟨t_13, d_13, n_13⟩, ⟨t_14, d_14, n_14⟩, ⟨t_15, n_15⟩, ⟨t_16, n_16⟩, ⟨t_17, d_17, n_17⟩, ⟨t_18, d_18, n_18⟩⟩ := hm
  simp (maxSteps := 2000000) (disch := first | assumption | omega | (simp (disch := omega) only [gL_gL, gL_21, gtL, gnL, gL_1, gL_gL, gL_21, upd2_p]; first | assumption | omega)) only [gL_gL, gL_21, aft_v, aft_n, aft_t, Nat.add_assoc, Nat.reduceAdd, if_true, if_false, not_true_eq_false, not_false_eq_true, Classical.not_not, Int.reduceAdd, Int.reduceSub, Int.reduceMul, Int.reduceNeg, Int.reduceLT, Int.reduceLE, Int.reduceEq, Int.add_zero, Int.zero_add, Int.sub_zero, c_235, w_235_0, w_235_1, w_235_3, w_235_4, w_235_5, j1, u7, if_neg (show ¬ (1 : Int) ≤ 0 by decide)]
theorem s_manyM {L : Nat → Int → Int} {ch : Int} (hm : isM g m) (hW : Wf P) (hP : P = mv I m) (hch : ch = 0 ∨ ch = 1) :
    ∃ I' L', cl 229 [.ref m, .int (iI ch)] (mk (gL g L) I) = some (.inl (some (.long (lI (mqS P ch)))), mk (gL g L') I') ∧ frQ m 0 I I' ∧ frML m L L' := by
  have hbd := Wf_bd hW
  have w1 := hW.2.1
  obtain ⟨J, L1, j1, j2, j3, j4⟩ := s_bestNow (g := g) (I := upd2 I m 7 0) (L := L) (P := P) hm hW (by rw [mv_u]; exact hP)
  have fJ : frQ m 0 I J := frQ_fC frQ_u (frM_C j2)
  refine ⟨J, L1, ?_, fJ, j3⟩
  have pJ : mv J m = P := by rw [hP]; exact frQ_mv fJ
  have lsb := ls_b hbd (b := 0)
  have fls := far_b lsb (by decide)
  obtain ⟨g2, hg2⟩ : ∃ g2, g2 = gL g L1 := ⟨_, rfl⟩
  have hm2 : isM g2 m := by rw [hg2]; exact hm
  have hm3 := hm2
  have hm0 := hm
  rw [← hg2] at j1 j4 ⊢
  obtain ⟨t_0, ⟨t_1, d_1, n_1⟩, ⟨t_2, d_2, n_2⟩, ⟨t_3, d_3, n_3⟩, ⟨t_4, d_4, n_4⟩, ⟨t_5, d_5, n_5⟩, ⟨t_6, n_6⟩, ⟨t_7, d_7, n_7⟩, ⟨t_8, d_8, n_8⟩, ⟨t_9, d_9, n_9⟩, ⟨t_10, d_10, n_10⟩, ⟨t_11, d_11, n_11⟩, ⟨t_12, d_12, n_12⟩, ⟨t_13, d_13, n_13⟩, ⟨t_14, d_14, n_14⟩, ⟨t_15, n_15⟩, ⟨t_16, n_16⟩, ⟨t_17, d_17, n_17⟩, ⟨t_18, d_18, n_18⟩⟩ := hm2
  have hev : cl 182 [.ref m] (mk g2 J) = some (.inl (some (.int (iI (pE P)))), mk g2 J) := by rw [← pJ]; exact s_events hm3
  have h6 : (gL g L).1 m = sX6 m := hm0.1
  by_cases h0 : pE P = 0
  · have : mqS P ch = 1 := by unfold mqS; rw [if_pos h0]
    rw [this]
    rw [h0] at hev
    simp (maxSteps := 2000000) (disch := first | assumption | omega) only [aft_v, aft_n, aft_t, Nat.add_assoc, Nat.reduceAdd, if_true, if_false, not_true_eq_false, not_false_eq_true, Classical.not_not, Int.reduceAdd, Int.reduceSub, Int.reduceMul, Int.reduceNeg, Int.reduceLT, Int.reduceLE, Int.reduceEq, Int.add_zero, Int.zero_add, Int.sub_zero, c_229, w_229_0, w_229_1, w_229_2, w_229_3, j1, hev]
  · have n0 := hbd.2.2.1 0 (by decide) (by omega)
    have h11 : J (m + 11) 0 = cntS P 0 := (j4.1 0 (by decide) (by omega)).1
    have bb : ∀ c, tri (bcS P 0 c) := fun c => bcS_b hbd (pE P - 1 - 0).toNat c (by omega)
    obtain ⟨A, hA⟩ : ∃ A : Int → Int, A = fun i => itI (fun c a => min 1000000000000000 (a + (if ch = 0 then (bcS P 0 c).2.1 else if frS P 0 c = lsS P 0 ∧ ¬ lsS P 0 = -1 then (bcS P 0 c).2.2 else 0))) (0 : Int) i := ⟨_, rfl⟩
    have hA0 : A 0 = 0 := by rw [hA]; rfl
    have hAs : ∀ i, 0 ≤ i → A (i + 1) = min 1000000000000000 (A i + (if ch = 0 then (bcS P 0 i).2.1 else if frS P 0 i = lsS P 0 ∧ ¬ lsS P 0 = -1 then (bcS P 0 i).2.2 else 0)) := fun i h => by rw [hA]; exact itI_s h
    have hAb : ∀ i, 0 ≤ i → 0 ≤ A i ∧ A i ≤ 1000000000000000 := fun i h => by
      rw [hA]
      refine itI_ind (fun _ x => 0 ≤ x ∧ x ≤ 1000000000000000) (by decide) (fun c x _ _ hx => ?_) h
      try dsimp only
      have := bb c
      unfold tri at this
      (repeat' split) <;> omega
    have key := loop_up (σ := Unit) (head := fun c _ => rn 229 5 [some (.ref m), some (.int (iI ch)), some (.int (iI (farS (lsS P 0)))), some (.long (lI (A c))), none, some (.int (iI c))] [] (mk g2 J)) (Inv := fun c _ => 0 ≤ c) (n := cntS P 0) (by
      intro c s c1 c0
      obtain ⟨y1, y2, y3⟩ := j4.2 0 (by decide) (by omega) c c0 c1
      rw [show (10 : Int) * 0 + c = c by omega] at y1 y2 y3
      have bA := hAb c c0
      have bc := bb c
      unfold tri at bc
      have bf := fr_ge hbd (e := 0) (c := c) (by decide) (by omega)
      have hi := far_inj (A := 1206000) bf (b := lsS P 0) (by omega) (by decide)
      have fb := far_b bf (by decide)
      refine ⟨(), ?_, by omega⟩
      show rn _ _ _ _ _ = rn _ _ _ _ _
      rw [hAs c c0]
      refine (w_229_5 (by first | assumption | omega) (by first | assumption | omega) (by first | assumption | omega) (by first | assumption | omega) (by first | assumption | omega) (by first | assumption | omega) (by first | assumption | omega)).trans ?_
      rw [h11]
      refine (if_neg (by omega)).trans ?_
      rcases hch with rfl | rfl
      · rw [if_pos rfl]
        simp (maxSteps := 2000000) (disch := first | assumption | omega) only [aft_v, aft_n, aft_t, Nat.add_assoc, Nat.reduceAdd, if_true, if_false, not_true_eq_false, not_false_eq_true, Classical.not_not, Int.reduceAdd, Int.reduceSub, Int.reduceMul, Int.reduceNeg, Int.reduceLT, Int.reduceLE, Int.reduceEq, Int.add_zero, Int.zero_add, Int.sub_zero, w_229_6, w_229_7, w_229_12, y2]
      · rw [if_neg (by decide)]
        by_cases hx : frS P 0 c = lsS P 0 ∧ ¬ lsS P 0 = -1
        · rw [if_pos hx]
          have fl2 : farS (lsS P 0) = lsS P 0 := by unfold farS; rw [if_neg hx.2]
          have hx1 : farS (frS P 0 c) = farS (lsS P 0) := by rw [hx.1]
          simp (maxSteps := 2000000) (disch := first | assumption | omega) only [aft_v, aft_n, aft_t, Nat.add_assoc, Nat.reduceAdd, if_true, if_false, not_true_eq_false, not_false_eq_true, Classical.not_not, Int.reduceAdd, Int.reduceSub, Int.reduceMul, Int.reduceNeg, Int.reduceLT, Int.reduceLE, Int.reduceEq, Int.add_zero, Int.zero_add, Int.sub_zero, w_229_6, w_229_8, w_229_9, w_229_10, w_229_12, y1, y3, hx1, if_neg (show ¬ 1000000000 ≤ farS (lsS P 0) by omega), show ¬ (1 : Int) = 0 by decide]
        · rw [if_neg hx]
          by_cases hx2 : frS P 0 c = lsS P 0
          · have hl : lsS P 0 = -1 := Classical.byContradiction fun h => hx ⟨hx2, h⟩
            have hx1 : farS (frS P 0 c) = farS (lsS P 0) := by rw [hx2]
            have hl2 : farS (lsS P 0) = 1000000000 := by rw [hl]; rfl
            simp (maxSteps := 2000000) (disch := first | assumption | omega) only [aft_v, aft_n, aft_t, Nat.add_assoc, Nat.reduceAdd, if_true, if_false, not_true_eq_false, not_false_eq_true, Classical.not_not, Int.reduceAdd, Int.reduceSub, Int.reduceMul, Int.reduceNeg, Int.reduceLT, Int.reduceLE, Int.reduceEq, Int.add_zero, Int.zero_add, Int.sub_zero, w_229_6, w_229_8, w_229_9, w_229_11, w_229_12, y1, hx1, if_pos (show 1000000000 ≤ farS (lsS P 0) by omega), show ¬ (1 : Int) = 0 by decide]
          · have hx1 : ¬ farS (frS P 0 c) = farS (lsS P 0) := fun h => hx2 (hi.mp h)
            simp (maxSteps := 2000000) (disch := first | assumption | omega) only [aft_v, aft_n, aft_t, Nat.add_assoc, Nat.reduceAdd, if_true, if_false, not_true_eq_false, not_false_eq_true, Classical.not_not, Int.reduceAdd, Int.reduceSub, Int.reduceMul, Int.reduceNeg, Int.reduceLT, Int.reduceLE, Int.reduceEq, Int.add_zero, Int.zero_add, Int.sub_zero, w_229_6, w_229_8, w_229_11, w_229_12, y1, hx1, show ¬ (1 : Int) = 0 by decide]) 0 () n0.2.1 (Int.le_refl _)
    obtain ⟨-, key, -⟩ := key
    have key : rn 229 5 [some (.ref m), some (.int (iI ch)), some (.int (iI (farS (lsS P 0)))), some (.long (lI (A 0))), none, some (.int (iI 0))] [] (mk g2 J) = rn 229 5 [some (.ref m), some (.int (iI ch)), some (.int (iI (farS (lsS P 0)))), some (.long (lI (A (cntS P 0)))), none, some (.int (iI (cntS P 0)))] [] (mk g2 J) := key
    have hAl : A (cntS P 0) = mqS P ch := by rw [hA]; unfold mqS; rw [if_neg h0]
    rw [hA0, hAl] at key
    simp (maxSteps := 2000000) (disch := first | assumption | omega) only [aft_v, aft_n, aft_t, Nat.add_assoc, Nat.reduceAdd, if_true, if_false, not_true_eq_false, not_false_eq_true, Classical.not_not, Int.reduceAdd, Int.reduceSub, Int.reduceMul, Int.reduceNeg, Int.reduceLT, Int.reduceLE, Int.reduceEq, Int.add_zero, Int.zero_add, Int.sub_zero, c_229, w_229_0, w_229_1, w_229_2, w_229_4, j1, hev, h0]
    rw [key]
    refine (w_229_5 (by first | assumption | omega) (by first | assumption | omega) (by first | assumption | omega) (by first | assumption | omega) (by first | assumption | omega) (by first | assumption | omega) (by first | assumption | omega)).trans ?_
    rw [h11]
    refine (if_pos (by omega)).trans ?_
    simp (maxSteps := 2000000) (disch := first | assumption | omega) only [aft_v, aft_n, aft_t, Nat.add_assoc, Nat.reduceAdd, if_true, if_false, not_true_eq_false, not_false_eq_true, Classical.not_not, Int.reduceAdd, Int.reduceSub, Int.reduceMul, Int.reduceNeg, Int.reduceLT, Int.reduceLE, Int.reduceEq, Int.add_zero, Int.zero_add, Int.sub_zero, w_229_13]
end MQ5
