/-! Rounds of the law without refusals; the first whole rounds. -/
section LD
variable {g g1 g2 : Gm} {I I1 I2 : Mm} {s x m o od : Nat} {i v w : Int} {o6 o7 o8 : Option Value}
theorem lt_load (hx : g.1 x = sX5 x) (hm : g1.1 m = sX6 m) (h1 : cl 94 [.ref x] (mk g I) = some (.inl (some (.int (iI v))), mk g1 I1)) (h2 : cl 180 [.ref m] (mk g1 I1) = some (.inl (some (.int (iI w))), mk g2 I2)) (hq : iI v = iI w) :
    rn 291 14 [some (.ref s), some (.ref x), some (.ref m), some (.ref o), some (.ref od), some (.int (iI i)), o6, o7, o8] [] (mk g I) = rn 291 314 [some (.ref s), some (.ref x), some (.ref m), some (.ref o), some (.ref od), some (.int (iI i)), o6, o7, o8] [] (mk g2 I2) := by
  have hr := iI_rng (iI w)
  rw [hq] at h1
  rw [iI_of (iI w)] at h1 h2
  obtain ⟨w', hw'⟩ : ∃ w', w' = (iI w).toInt := ⟨_, rfl⟩
  rw [← hw'] at h1 h2 hr
  refine (w_291_14 (by first | omega | assumption)).trans ?_
  rw [h1, aft_v]
  refine (w_291_15 (by first | omega | assumption)).trans ?_
  rw [h2, aft_v]
  refine (w_291_16 (by first | omega | assumption) (by first | omega | assumption) (by first | omega | assumption) (by first | omega | assumption)).trans ?_
  exact if_pos rfl
theorem lt_errorPosition (hx : g.1 x = sX5 x) (hm : g1.1 m = sX6 m) (h1 : cl 95 [.ref x] (mk g I) = some (.inl (some (.int (iI v))), mk g1 I1)) (h2 : cl 181 [.ref m] (mk g1 I1) = some (.inl (some (.int (iI w))), mk g2 I2)) (hq : iI v = iI w) :
    rn 291 18 [some (.ref s), some (.ref x), some (.ref m), some (.ref o), some (.ref od), some (.int (iI i)), o6, o7, o8] [] (mk g I) = rn 291 314 [some (.ref s), some (.ref x), some (.ref m), some (.ref o), some (.ref od), some (.int (iI i)), o6, o7, o8] [] (mk g2 I2) := by
  have hr := iI_rng (iI w)
  rw [hq] at h1
  rw [iI_of (iI w)] at h1 h2
  obtain ⟨w', hw'⟩ : ∃ w', w' = (iI w).toInt := ⟨_, rfl⟩
  rw [← hw'] at h1 h2 hr
  refine (w_291_18 (by first | omega | assumption)).trans ?_
  rw [h1, aft_v]
  refine (w_291_19 (by first | omega | assumption)).trans ?_
  rw [h2, aft_v]
  refine (w_291_20 (by first | omega | assumption) (by first | omega | assumption) (by first | omega | assumption) (by first | omega | assumption)).trans ?_
  exact if_pos rfl
theorem lt_best (hx : g.1 x = sX5 x) (hm : g1.1 m = sX6 m) (h1 : cl 102 [.ref x] (mk g I) = some (.inl (some (.int (iI v))), mk g1 I1)) (h2 : cl 226 [.ref m] (mk g1 I1) = some (.inl (some (.int (iI w))), mk g2 I2)) (hq : iI v = iI w) :
    rn 291 76 [some (.ref s), some (.ref x), some (.ref m), some (.ref o), some (.ref od), some (.int (iI i)), o6, o7, o8] [] (mk g I) = rn 291 314 [some (.ref s), some (.ref x), some (.ref m), some (.ref o), some (.ref od), some (.int (iI i)), o6, o7, o8] [] (mk g2 I2) := by
  have hr := iI_rng (iI w)
  rw [hq] at h1
  rw [iI_of (iI w)] at h1 h2
  obtain ⟨w', hw'⟩ : ∃ w', w' = (iI w).toInt := ⟨_, rfl⟩
  rw [← hw'] at h1 h2 hr
  refine (w_291_76 (by first | omega | assumption)).trans ?_
  rw [h1, aft_v]
  refine (w_291_77 (by first | omega | assumption)).trans ?_
  rw [h2, aft_v]
  refine (w_291_78 (by first | omega | assumption) (by first | omega | assumption) (by first | omega | assumption) (by first | omega | assumption)).trans ?_
  exact if_pos rfl
theorem lt_reaches (hx : g.1 x = sX5 x) (hm : g1.1 m = sX6 m) (h1 : cl 107 [.ref x] (mk g I) = some (.inl (some (.int (iI v))), mk g1 I1)) (h2 : cl 232 [.ref m] (mk g1 I1) = some (.inl (some (.int (iI w))), mk g2 I2)) (hq : iI v = iI w) :
    rn 291 117 [some (.ref s), some (.ref x), some (.ref m), some (.ref o), some (.ref od), some (.int (iI i)), o6, o7, o8] [] (mk g I) = rn 291 314 [some (.ref s), some (.ref x), some (.ref m), some (.ref o), some (.ref od), some (.int (iI i)), o6, o7, o8] [] (mk g2 I2) := by
  have hr := iI_rng (iI w)
  rw [hq] at h1
  rw [iI_of (iI w)] at h1 h2
  obtain ⟨w', hw'⟩ : ∃ w', w' = (iI w).toInt := ⟨_, rfl⟩
  rw [← hw'] at h1 h2 hr
  refine (w_291_117 (by first | omega | assumption)).trans ?_
  rw [h1, aft_v]
  refine (w_291_118 (by first | omega | assumption)).trans ?_
  rw [h2, aft_v]
  refine (w_291_119 (by first | omega | assumption) (by first | omega | assumption) (by first | omega | assumption) (by first | omega | assumption)).trans ?_
  exact if_pos rfl
theorem lt_costOfTold (hx : g.1 x = sX5 x) (hm : g1.1 m = sX6 m) (h1 : cl 111 [.ref x] (mk g I) = some (.inl (some (.int (iI v))), mk g1 I1)) (h2 : cl 240 [.ref m] (mk g1 I1) = some (.inl (some (.int (iI w))), mk g2 I2)) (hq : iI v = iI w) :
    rn 291 150 [some (.ref s), some (.ref x), some (.ref m), some (.ref o), some (.ref od), some (.int (iI i)), o6, o7, o8] [] (mk g I) = rn 291 314 [some (.ref s), some (.ref x), some (.ref m), some (.ref o), some (.ref od), some (.int (iI i)), o6, o7, o8] [] (mk g2 I2) := by
  have hr := iI_rng (iI w)
  rw [hq] at h1
  rw [iI_of (iI w)] at h1 h2
  obtain ⟨w', hw'⟩ : ∃ w', w' = (iI w).toInt := ⟨_, rfl⟩
  rw [← hw'] at h1 h2 hr
  refine (w_291_150 (by first | omega | assumption)).trans ?_
  rw [h1, aft_v]
  refine (w_291_151 (by first | omega | assumption)).trans ?_
  rw [h2, aft_v]
  refine (w_291_152 (by first | omega | assumption) (by first | omega | assumption) (by first | omega | assumption) (by first | omega | assumption)).trans ?_
  exact if_pos rfl
theorem lt_faultOfTold (hx : g.1 x = sX5 x) (hm : g1.1 m = sX6 m) (h1 : cl 112 [.ref x] (mk g I) = some (.inl (some (.int (iI v))), mk g1 I1)) (h2 : cl 241 [.ref m] (mk g1 I1) = some (.inl (some (.int (iI w))), mk g2 I2)) (hq : iI v = iI w) :
    rn 291 154 [some (.ref s), some (.ref x), some (.ref m), some (.ref o), some (.ref od), some (.int (iI i)), o6, o7, o8] [] (mk g I) = rn 291 314 [some (.ref s), some (.ref x), some (.ref m), some (.ref o), some (.ref od), some (.int (iI i)), o6, o7, o8] [] (mk g2 I2) := by
  have hr := iI_rng (iI w)
  rw [hq] at h1
  rw [iI_of (iI w)] at h1 h2
  obtain ⟨w', hw'⟩ : ∃ w', w' = (iI w).toInt := ⟨_, rfl⟩
  rw [← hw'] at h1 h2 hr
  refine (w_291_154 (by first | omega | assumption)).trans ?_
  rw [h1, aft_v]
  refine (w_291_155 (by first | omega | assumption)).trans ?_
  rw [h2, aft_v]
  refine (w_291_156 (by first | omega | assumption) (by first | omega | assumption) (by first | omega | assumption) (by first | omega | assumption)).trans ?_
  exact if_pos rfl
theorem lt_otherHand (hx : g.1 x = sX5 x) (hm : g1.1 m = sX6 m) (h1 : cl 113 [.ref x] (mk g I) = some (.inl (some (.int (iI v))), mk g1 I1)) (h2 : cl 242 [.ref m] (mk g1 I1) = some (.inl (some (.int (iI w))), mk g2 I2)) (hq : iI v = iI w) :
    rn 291 158 [some (.ref s), some (.ref x), some (.ref m), some (.ref o), some (.ref od), some (.int (iI i)), o6, o7, o8] [] (mk g I) = rn 291 314 [some (.ref s), some (.ref x), some (.ref m), some (.ref o), some (.ref od), some (.int (iI i)), o6, o7, o8] [] (mk g2 I2) := by
  have hr := iI_rng (iI w)
  rw [hq] at h1
  rw [iI_of (iI w)] at h1 h2
  obtain ⟨w', hw'⟩ : ∃ w', w' = (iI w).toInt := ⟨_, rfl⟩
  rw [← hw'] at h1 h2 hr
  refine (w_291_158 (by first | omega | assumption)).trans ?_
  rw [h1, aft_v]
  refine (w_291_159 (by first | omega | assumption)).trans ?_
  rw [h2, aft_v]
  refine (w_291_160 (by first | omega | assumption) (by first | omega | assumption) (by first | omega | assumption) (by first | omega | assumption)).trans ?_
  exact if_pos rfl
theorem lt_restBehind (hx : g.1 x = sX5 x) (hm : g1.1 m = sX6 m) (h1 : cl 116 [.ref x] (mk g I) = some (.inl (some (.int (iI v))), mk g1 I1)) (h2 : cl 248 [.ref m] (mk g1 I1) = some (.inl (some (.int (iI w))), mk g2 I2)) (hq : iI v = iI w) :
    rn 291 180 [some (.ref s), some (.ref x), some (.ref m), some (.ref o), some (.ref od), some (.int (iI i)), o6, o7, o8] [] (mk g I) = rn 291 314 [some (.ref s), some (.ref x), some (.ref m), some (.ref o), some (.ref od), some (.int (iI i)), o6, o7, o8] [] (mk g2 I2) := by
  have hr := iI_rng (iI w)
  rw [hq] at h1
  rw [iI_of (iI w)] at h1 h2
  obtain ⟨w', hw'⟩ : ∃ w', w' = (iI w).toInt := ⟨_, rfl⟩
  rw [← hw'] at h1 h2 hr
  refine (w_291_180 (by first | omega | assumption)).trans ?_
  rw [h1, aft_v]
  refine (w_291_181 (by first | omega | assumption)).trans ?_
  rw [h2, aft_v]
  refine (w_291_182 (by first | omega | assumption) (by first | omega | assumption) (by first | omega | assumption) (by first | omega | assumption)).trans ?_
  exact if_pos rfl
end LD
/-- room that a round may take -/
def budg (g g' : Gm) : Prop := g'.2.2.2.2.2.1 ≤ g.2.2.2.2.2.1 + 17 ∧ g'.2.2.2.2.2.2 ≤ g.2.2.2.2.2.2 + 423
section WH
variable {s x N : Nat} {S : Int → Int} {g : Gm} {I : Mm} {i : Int} {o6 o7 o8 : Option Value}
/-- what a round of the law does from block b on -/
def rndL (s x N : Nat) (S : Int → Int) (b : Nat) (i : Int) (o6 o7 o8 : Option Value) (g : Gm) (I : Mm) : Prop := ∃ p6 p7 p8 g' I', rn 291 b [some (.ref s), some (.ref x), some (.ref (x + 86)), some (.ref (x + 105)), some (.ref (x + 106)), some (.int (iI i)), o6, o7, o8] [] (mk g I) = rn 291 314 [some (.ref s), some (.ref x), some (.ref (x + 86)), some (.ref (x + 105)), some (.ref (x + 106)), some (.int (iI i)), p6, p7, p8] [] (mk g' I') ∧ lawI s x S N g' I' ∧ budg g g'
theorem kpL_7 {v : Int} (hx : 64 ≤ x) (hs : s < x) : kpL s x I (upd2 I (x + 86) 7 v) := ⟨fun p hp => by funext j; exact upd2_p (by omega), fun j hj => upd2_p (by omega), fun j hj => upd2_i (by omega)⟩
theorem plOk_c {J : Mm} (h : ∀ p, x + 1 ≤ p → p ≤ x + 54 → J p = I p) (hp : plOk x I) : plOk x J := by
  have e : pv J (x + 1) = pv I (x + 1) := pv_c (fun p a b => h p a (by omega))
  rcases hp with hp | hp
  · exact Or.inl (by rw [h (x + 35) (by omega) (by omega)]; exact hp)
  · exact Or.inr (by rw [e]; exact hp.mono (fun p a b => h p (by omega) (by omega)) (h _ (by omega) (by omega)))
/-- a question without a trace: only its flag -/
theorem lawI_7 {g' : Gm} {v : Int} (h1 : g'.1 = g.1) (h4 : g'.2.2.2.1 = g.2.2.2.1) (h5 : gnx g' = gnx g) (hx : 64 ≤ x) (hs : s < x) (h : lawI s x S N g I) : lawI s x S N g' (upd2 I (x + 86) 7 v) :=
  lawI_keep h1 h4 h5 (kpL_7 hx hs) (plOk_c (fun p a b => by funext j; exact upd2_p (by omega)) h.2.2.2.2.2.2.1) hx h
theorem budg_L {L : Nat → Int → Int} : budg g (gL g L) := ⟨Nat.le_add_right _ _, Nat.le_add_right _ _⟩
theorem budg_e : budg g (gexc g) := ⟨by show g.2.2.2.2.2.1 + 1 ≤ _; omega, by show g.2.2.2.2.2.2 + 6 ≤ _; omega⟩
theorem rd_count (hx : 64 ≤ x) (hs : s < x) (hi : 0 ≤ i ∧ i + 6 ≤ N) (hN : (N : Int) < 2147483648) (hS : ∀ j, (-2147483648 ≤ S j ∧ S j < 2147483648)) (h : lawI s x S N g I) : rndL s x N S 22 i o6 o7 o8 g I := by
  have h' := h
  obtain ⟨iH, iM, i105, i106, ⟨iS, iN, iI'⟩, ⟨c1, c2, c3, c4, c5, c6⟩, _, _, _, _⟩ := h
  have h0 := iH.1
  have m0 := iM.1
  have hii : 0 ≤ i ∧ i + 6 ≤ gn g s ∧ (gn g s : Int) < 2147483648 := by rw [iN]; omega
  obtain ⟨c, hc⟩ : ∃ c, c = I s (i + 1) := ⟨_, rfl⟩
  have hr : (-2147483648 ≤ c ∧ c < 2147483648) := by rw [hc, iI']; exact hS _
  have hWm : Wf (mv I (x + 86)) := c4.agr c5
  by_cases hb : 0 ≤ c ∧ c ≤ 6
  · have q1 := s_hcount (g := g) (I := I) iH.hn c3 hb
    have l1 := lw_count (o := x + 105) h0 i105.1 i105.2 q1
    obtain ⟨g1, hg1⟩ : ∃ g1, g1 = gL g (upd2 g.2.1 (x + 105) 0 (iI (ctS (pv I (x + 1)) c)).toInt) := ⟨_, rfl⟩
    rw [← hg1] at l1
    have e1 : g1.1 = g.1 := by rw [hg1]; rfl
    have q2 := s_count (g := g1) (I := I) (isM_e e1 iM) hWm hb
    rw [hc] at l1 q2
    obtain ⟨p6, p7, p8, e⟩ := lt_count (od := x + 106) (o6 := o6) (o7 := o7) (o8 := o8) iS hii m0 i105 e1 e1 rfl l1 q2 (by decide) upd2_at (fun _ => by
      rw [hg1]
      show upd2 g.2.1 (x + 105) 0 _ (x + 105) 0 = _
      rw [upd2_at, ct_A c5 (fun e e0 e1 => (c4.2.2.1 e e0 e1).1.1), hc])
    exact ⟨p6, p7, p8, g1, _, e, lawI_7 e1 (by rw [hg1]; rfl) (by rw [hg1]; rfl) hx hs h', by rw [hg1]; exact budg_L⟩
  · have q1 := s_hcountBad (g := g) (I := I) (x := x) hr hb
    have l1 := lw_count_1 (o := x + 105) h0 q1
    have q2 := s_countBad (g := gexc g) (I := I) (isM_e (g := g) rfl iM) hr hb
    rw [hc] at l1 q2
    obtain ⟨p6, p7, p8, e⟩ := lt_count (g := g) (g1 := gexc g) (g2 := gexc g) (v := 1) (od := x + 106) (o6 := o6) (o7 := o7) (o8 := o8) iS hii m0 i105 rfl rfl rfl l1 q2 (by decide) upd2_at (fun z => absurd z (by decide))
    exact ⟨p6, p7, p8, gexc g, _, e, lawI_7 rfl rfl rfl hx hs h', budg_e⟩
end WH
