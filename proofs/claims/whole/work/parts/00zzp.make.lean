/-! What is made: plans, texts, shelves, the object. -/
section MKS
variable {k : Nat} {F : List XF} {t : TF} {ls : Lo} {st r : Vs} {R : Option Rs} {g : Gm} {I : Mm}
theorem gt_S {p q c s : Nat} {sh : Sh} (h : ¬ q = p) : gt (gS (gC g c s) p sh) q = gt g q := by
  unfold gt
  rw [show (gS (gC g c s) p sh).1 q = g.1 q from gS_ne h]
theorem gn_S {p q c s : Nat} {sh : Sh} (h : ¬ q = p) : gn (gS (gC g c s) p sh) q = gn g q := by
  unfold gn
  rw [show (gS (gC g c s) p sh).1 q = g.1 q from gS_ne h]
theorem sh_S {p q c s : Nat} {sh : Sh} (h : ¬ q = p) : (gS (gC g c s) p sh).1 q = g.1 q := gS_ne h
theorem isR_S {p q c s : Nat} {sh : Sh} (h : ¬ q = p) (h1 : ¬ q + 1 = p) (hr : isR g q) : isR (gS (gC g c s) p sh) q := by
  unfold isR at hr ⊢
  rw [sh_S h, gt_S h1, gn_S h1]; exact hr
theorem isPc_S {p q c s : Nat} {sh : Sh} (h : p < q ∨ q + 16 < p) (hp : isPc g q) : isPc (gS (gC g c s) p sh) q := by
  obtain ⟨p_0, ⟨p_1, q_1, p_2⟩, ⟨p_3, q_3, p_4⟩, ⟨p_5, q_5, p_6⟩, ⟨p_7, q_7, p_8⟩, ⟨p_9, q_9, p_10⟩, ⟨p_11, q_11, p_12⟩, ⟨p_13, q_13, p_14⟩, ⟨p_15, q_15, p_16⟩⟩ := hp
  exact ⟨by rw [sh_S (by omega)]; exact p_0, ⟨isR_S (by omega) (by omega) p_1, by rw [sh_S (by omega)]; exact q_1, by rw [gn_S (by omega)]; exact p_2⟩, ⟨isR_S (by omega) (by omega) p_3, by rw [sh_S (by omega)]; exact q_3, by rw [gn_S (by omega)]; exact p_4⟩, ⟨isR_S (by omega) (by omega) p_5, by rw [sh_S (by omega)]; exact q_5, by rw [gn_S (by omega)]; exact p_6⟩, ⟨isR_S (by omega) (by omega) p_7, by rw [sh_S (by omega)]; exact q_7, by rw [gn_S (by omega)]; exact p_8⟩, ⟨isR_S (by omega) (by omega) p_9, by rw [sh_S (by omega)]; exact q_9, by rw [gn_S (by omega)]; exact p_10⟩, ⟨isR_S (by omega) (by omega) p_11, by rw [sh_S (by omega)]; exact q_11, by rw [gn_S (by omega)]; exact p_12⟩, ⟨isR_S (by omega) (by omega) p_13, by rw [sh_S (by omega)]; exact q_13, by rw [gn_S (by omega)]; exact p_14⟩, ⟨isR_S (by omega) (by omega) p_15, by rw [sh_S (by omega)]; exact q_15, by rw [gn_S (by omega)]; exact p_16⟩⟩
theorem isPl_S {p q c s : Nat} {sh : Sh} (h : p < q ∨ q + 19 < p) (hp : isPl g q) : isPl (gS (gC g c s) p sh) q := by
  obtain ⟨l_0, ⟨l_1, m_1, l_2⟩, ⟨l_3, m_3, l_4⟩, ⟨l_5, m_5, l_6⟩, ⟨l_7, m_7, l_8⟩, ⟨l_9, m_9, l_10⟩, ⟨l_11, m_11, l_12⟩, ⟨l_13, m_13, l_14⟩, ⟨l_15, m_15, l_16⟩, ⟨l_17, m_17, l_18⟩, l_19, l_20⟩ := hp
  exact ⟨by rw [sh_S (by omega)]; exact l_0, ⟨isR_S (by omega) (by omega) l_1, by rw [sh_S (by omega)]; exact m_1, by rw [gn_S (by omega)]; exact l_2⟩, ⟨isR_S (by omega) (by omega) l_3, by rw [sh_S (by omega)]; exact m_3, by rw [gn_S (by omega)]; exact l_4⟩, ⟨isR_S (by omega) (by omega) l_5, by rw [sh_S (by omega)]; exact m_5, by rw [gn_S (by omega)]; exact l_6⟩, ⟨isR_S (by omega) (by omega) l_7, by rw [sh_S (by omega)]; exact m_7, by rw [gn_S (by omega)]; exact l_8⟩, ⟨isR_S (by omega) (by omega) l_9, by rw [sh_S (by omega)]; exact m_9, by rw [gn_S (by omega)]; exact l_10⟩, ⟨isR_S (by omega) (by omega) l_11, by rw [sh_S (by omega)]; exact m_11, by rw [gn_S (by omega)]; exact l_12⟩, ⟨isR_S (by omega) (by omega) l_13, by rw [sh_S (by omega)]; exact m_13, by rw [gn_S (by omega)]; exact l_14⟩, ⟨isR_S (by omega) (by omega) l_15, by rw [sh_S (by omega)]; exact m_15, by rw [gn_S (by omega)]; exact l_16⟩, ⟨isR_S (by omega) (by omega) l_17, by rw [sh_S (by omega)]; exact m_17, by rw [gn_S (by omega)]; exact l_18⟩, by rw [gt_S (by omega)]; exact l_19, by rw [gn_S (by omega)]; exact l_20⟩
theorem isSt_S {p c s : Nat} {sh : Sh} (h : 2 ≤ p) (hp : isSt g I) : isSt (gS (gC g c s) p sh) I := by
  obtain ⟨t0, n0, t1, n1, hw, hs⟩ := hp
  exact ⟨by rw [gt_S (by omega)]; exact t0, by rw [gn_S (by omega)]; exact n0, by rw [gt_S (by omega)]; exact t1, by rw [gn_S (by omega)]; exact n1, hw, hs⟩
theorem newPlan (hp : isPl g (gnx g)) (hz : ∀ j : Nat, j ≤ 18 → ∀ i, I (gnx g + j) i = 0) (hL : ∀ i, g.2.1 (gnx g + 19) i = 0) :
    cl 28 [.ref (gnx g)] (mk (gS (gC g 1 13) (gnx g) (rawS 1 nfX1)) I) = some (.inl none, mk (gC g 20 7314) I) := by
  obtain ⟨l_0, ⟨l_1, m_1, l_2⟩, ⟨l_3, m_3, l_4⟩, ⟨l_5, m_5, l_6⟩, ⟨l_7, m_7, l_8⟩, ⟨l_9, m_9, l_10⟩, ⟨l_11, m_11, l_12⟩, ⟨l_13, m_13, l_14⟩, ⟨l_15, m_15, l_16⟩, ⟨l_17, m_17, l_18⟩, l_19, l_20⟩ := hp
  have a1 := isR_sh l_1
  have a3 := isR_sh l_3
  have a5 := isR_sh l_5
  have a7 := isR_sh l_7
  have a9 := isR_sh l_9
  have a11 := isR_sh l_11
  have a13 := isR_sh l_13
  have a15 := isR_sh l_15
  have a17 := isR_sh l_17
  have a19 : g.1 (gnx g + 19) = .inl (1, gn g (gnx g + 19)) := gtn l_19 (by decide)
  rw [l_2] at a1
  rw [l_4] at a3
  rw [l_6] at a5
  rw [l_8] at a7
  rw [l_10] at a9
  rw [l_12] at a11
  rw [l_14] at a13
  rw [l_16] at a15
  rw [l_18] at a17
  rw [l_20] at a19
  have fin : rn 28 9 [some (.ref (gnx g))] [.ref (gnx g + 17), .ref (gnx g)] (mk (gS (gC g 19 6914) (gnx g) (rawS 1 [.int 0, .int 0, .int 0, .ref (gnx g + 1), .ref (gnx g + 3), .ref (gnx g + 5), .ref (gnx g + 7), .ref (gnx g + 9), .ref (gnx g + 11), .ref (gnx g + 13), .ref (gnx g + 15), .null, .null])) I) = some (.inl none, mk (gC g 20 7314) I) := by
    refine rn_gx ((bk_28 9).trans rfl) <| m_PutX gS_at (by show 11 < 13; decide) True.intro <| ?_
    rw [gS_gS]
    refine g_LdA rfl <| m_C (z := 400) rfl <| m_NewA (by decide) (by decide) (arr_l (p := gnx g + 19) (n := 400) (by rw [sh_S (by omega)]; exact a19) hL) <| m_PutX gS_at (by show 12 < 13; decide) True.intro <| g_RetV ?_
    congr 1
    refine Prod.ext rfl ?_
    show mk (gS (gS (gC g 20 7314) (gnx g) _) (gnx g) _) I = _
    rw [gS_gS]
    refine mk_raw (tpl := [none, none, none, some (gnx g + 1), some (gnx g + 3), some (gnx g + 5), some (gnx g + 7), some (gnx g + 9), some (gnx g + 11), some (gnx g + 13), some (gnx g + 15), some (gnx g + 17), some (gnx g + 19)]) l_0 ?_ (fun _ _ => rfl)
    have z0 : I (gnx g) 0 = 0 := hz 0 (by decide) 0
    have z1 : I (gnx g) (0 + 1) = 0 := hz 0 (by decide) 1
    have z2 : I (gnx g) (0 + 1 + 1) = 0 := hz 0 (by decide) 2
    simp only [rfld, z0, z1, z2]
    rfl
  refine (c_28).trans ?_
  refine (rn_gx ((bk_28 0).trans rfl) <| g_LdA rfl <| g_Obj (Nat.le_of_ble_eq_true rfl) <| g_LdA rfl <| g_C <| m_PutX gS_at (by show 0 < 13; decide) (Or.inl rfl) ?_)
  rw [gS_gS]
  refine g_LdA rfl <| g_C <| m_PutX gS_at (by show 1 < 13; decide) True.intro ?_
  rw [gS_gS]
  refine g_LdA rfl <| g_C <| m_PutX gS_at (by show 2 < 13; decide) True.intro ?_
  rw [gS_gS]
  refine (g_LdA rfl <| m_New <| g_Dup rfl <| m_C (z := 40) rfl <| g_Ci (as := [.int (iI 40)]) (v := none) rfl (Nat.le_of_ble_eq_true rfl) (Nat.le_of_ble_eq_true rfl) (newRow (g := gS (gC g 1 13) (gnx g) (rawS 1 nfX1)) (n := 40) (by decide) (by decide) (by show (gS (gC g 1 13) (gnx g) _).1 (gnx g + 1) = sX2 (gnx g + 1); rw [gS_ne (by omega)]; exact m_1) (by show (gS (gC g 1 13) (gnx g) _).1 (gnx g + 1 + 1) = _; rw [gS_ne (by omega)]; exact a1) (hz 2 (by decide))) ?_)
  refine (st_row (g := gC g 3 54) (K := 28) (b := 1) (b' := 2) (p := gnx g) (ci := 1) (f := 3) (fs := nfX1) (rr := gnx g + 1) (n := 1200) ((bk_28 1).trans rfl) rfl (by decide) True.intro (by decide) (by decide) (by show ¬ gnx g + 3 = gnx g; omega) (by show ¬ gnx g + 3 + 1 = gnx g; omega) m_3 a3 (hz 4 (by decide))).trans ?_
  refine (st_row (g := gC g 5 1255) (K := 28) (b := 2) (b' := 3) (p := gnx g) (ci := 1) (f := 4) (fs := [.int 0, .int 0, .int 0, .ref (gnx g + 1), .null, .null, .null, .null, .null, .null, .null, .null, .null]) (rr := gnx g + 3) (n := 400) ((bk_28 2).trans rfl) rfl (by show 4 < 13; decide) True.intro (by decide) (by decide) (by show ¬ gnx g + 5 = gnx g; omega) (by show ¬ gnx g + 5 + 1 = gnx g; omega) m_5 a5 (hz 6 (by decide))).trans ?_
  refine (st_row (g := gC g 7 1656) (K := 28) (b := 3) (b' := 4) (p := gnx g) (ci := 1) (f := 5) (fs := [.int 0, .int 0, .int 0, .ref (gnx g + 1), .ref (gnx g + 3), .null, .null, .null, .null, .null, .null, .null, .null]) (rr := gnx g + 5) (n := 4000) ((bk_28 3).trans rfl) rfl (by show 5 < 13; decide) True.intro (by decide) (by decide) (by show ¬ gnx g + 7 = gnx g; omega) (by show ¬ gnx g + 7 + 1 = gnx g; omega) m_7 a7 (hz 8 (by decide))).trans ?_
  refine (st_row (g := gC g 9 5657) (K := 28) (b := 4) (b' := 5) (p := gnx g) (ci := 1) (f := 6) (fs := [.int 0, .int 0, .int 0, .ref (gnx g + 1), .ref (gnx g + 3), .ref (gnx g + 5), .null, .null, .null, .null, .null, .null, .null]) (rr := gnx g + 7) (n := 400) ((bk_28 4).trans rfl) rfl (by show 6 < 13; decide) True.intro (by decide) (by decide) (by show ¬ gnx g + 9 = gnx g; omega) (by show ¬ gnx g + 9 + 1 = gnx g; omega) m_9 a9 (hz 10 (by decide))).trans ?_
  refine (st_row (g := gC g 11 6058) (K := 28) (b := 5) (b' := 6) (p := gnx g) (ci := 1) (f := 7) (fs := [.int 0, .int 0, .int 0, .ref (gnx g + 1), .ref (gnx g + 3), .ref (gnx g + 5), .ref (gnx g + 7), .null, .null, .null, .null, .null, .null]) (rr := gnx g + 9) (n := 400) ((bk_28 5).trans rfl) rfl (by show 7 < 13; decide) True.intro (by decide) (by decide) (by show ¬ gnx g + 11 = gnx g; omega) (by show ¬ gnx g + 11 + 1 = gnx g; omega) m_11 a11 (hz 12 (by decide))).trans ?_
  refine (st_row (g := gC g 13 6459) (K := 28) (b := 6) (b' := 7) (p := gnx g) (ci := 1) (f := 8) (fs := [.int 0, .int 0, .int 0, .ref (gnx g + 1), .ref (gnx g + 3), .ref (gnx g + 5), .ref (gnx g + 7), .ref (gnx g + 9), .null, .null, .null, .null, .null]) (rr := gnx g + 11) (n := 40) ((bk_28 6).trans rfl) rfl (by show 8 < 13; decide) True.intro (by decide) (by decide) (by show ¬ gnx g + 13 = gnx g; omega) (by show ¬ gnx g + 13 + 1 = gnx g; omega) m_13 a13 (hz 14 (by decide))).trans ?_
  refine (st_row (g := gC g 15 6500) (K := 28) (b := 7) (b' := 8) (p := gnx g) (ci := 1) (f := 9) (fs := [.int 0, .int 0, .int 0, .ref (gnx g + 1), .ref (gnx g + 3), .ref (gnx g + 5), .ref (gnx g + 7), .ref (gnx g + 9), .ref (gnx g + 11), .null, .null, .null, .null]) (rr := gnx g + 13) (n := 400) ((bk_28 7).trans rfl) rfl (by show 9 < 13; decide) True.intro (by decide) (by decide) (by show ¬ gnx g + 15 = gnx g; omega) (by show ¬ gnx g + 15 + 1 = gnx g; omega) m_15 a15 (hz 16 (by decide))).trans ?_
  refine (st_row (g := gC g 17 6901) (K := 28) (b := 8) (b' := 9) (p := gnx g) (ci := 1) (f := 10) (fs := [.int 0, .int 0, .int 0, .ref (gnx g + 1), .ref (gnx g + 3), .ref (gnx g + 5), .ref (gnx g + 7), .ref (gnx g + 9), .ref (gnx g + 11), .ref (gnx g + 13), .null, .null, .null]) (rr := gnx g + 15) (n := 12) ((bk_28 8).trans rfl) rfl (by show 10 < 13; decide) True.intro (by decide) (by decide) (by show ¬ gnx g + 17 = gnx g; omega) (by show ¬ gnx g + 17 + 1 = gnx g; omega) m_17 a17 (hz 18 (by decide))).trans ?_
  exact fin
theorem newShelf {n : Int} (h0 : 0 ≤ n) (h1 : n ≤ 1000000) (hs : g.1 (gnx g) = sX3 (gnx g)) (ha : g.1 (gnx g + 1) = .inl (4, n.toNat)) (hz : ∀ i, g.2.2.2.1 (gnx g + 1) i = none) :
    cl 65 [.ref (gnx g), .int (iI n)] (mk (gS (gC g 1 1) (gnx g) (rawS 3 nfX3)) I) = some (.inl none, mk (gC g 2 (1 + n.toNat)) I) := by
  have hA : rnd (gS (gC g 1 1) (gnx g) (rawS 3 nfX3)) I (gnx (gS (gC g 1 1) (gnx g) (rawS 3 nfX3))) = .inl (4, n.toNat, arr0 4) :=
    arr_q (p := gnx g + 1) (by rw [gS_ne (by omega)]; exact ha) hz
  refine (c_65).trans (rn_gx ((bk_65 0).trans rfl) <| g_LdA rfl <| g_Obj (Nat.le_of_ble_eq_true rfl) <| g_LdA rfl <| m_C (z := 0) rfl <| g_Ld rfl <| m_Max (by decide) (by decide) (by omega) (by omega) (Nat.le_of_ble_eq_true rfl) ?_)
  rw [show max 0 n = n by omega]
  refine m_NewA h0 h1 hA <| m_PutX (fs := nfX3) gS_at (by decide) True.intro ?_
  refine g_RetV ?_
  congr 1
  refine Prod.ext rfl ?_
  show mk (gS (gS (gC (gC g 1 1) 1 n.toNat) (gnx g) (rawS 3 nfX3)) (gnx g) (rawS 3 [.ref (gnx g + 1)])) I = mk (gC g 2 (1 + n.toNat)) I
  rw [gS_gS]
  refine (mk_raw (tpl := [some (gnx g + 1)]) (by exact hs) rfl (fun _ _ => rfl)).trans ?_
  unfold gC
  simp only [Nat.add_assoc]
theorem newText (hs : g.1 (gnx g) = sX4 (gnx g)) (hr : isR g (gnx g + 1)) (hr1 : g.1 (gnx g + 1) = sX2 (gnx g + 1)) (hn : gn g (gnx g + 1 + 1) = 600) (hz : ∀ j : Nat, j ≤ 2 → ∀ i, I (gnx g + j) i = 0) :
    cl 69 [.ref (gnx g)] (mk (gS (gC g 1 9) (gnx g) (rawS 4 nfX4)) I) = some (.inl none, mk (gC g 3 610) (upd2 I (gnx g) 3 (-1))) := by
  have a1 := isR_sh hr
  rw [hn] at a1
  refine (c_69).trans ?_
  refine (rn_gx ((bk_69 0).trans rfl) <| g_LdA rfl <| g_Obj (Nat.le_of_ble_eq_true rfl) <| g_LdA rfl <| m_New <| g_Dup rfl <| m_C (z := 600) rfl <| g_Ci (as := [.int (iI 600)]) (v := none) rfl (Nat.le_of_ble_eq_true rfl) (Nat.le_of_ble_eq_true rfl) (newRow (g := gS (gC g 1 9) (gnx g) (rawS 4 nfX4)) (n := 600) (by decide) (by decide) (by show (gS (gC g 1 9) (gnx g) _).1 (gnx g + 1) = sX2 (gnx g + 1); rw [gS_ne (by omega)]; exact hr1) (by show (gS (gC g 1 9) (gnx g) _).1 (gnx g + 1 + 1) = _; rw [gS_ne (by omega)]; exact a1) (hz 2 (by decide))) ?_)
  show rn 69 1 [some (.ref (gnx g))] [.ref (gnx g + 1), .ref (gnx g)] (mk (gS (gC g 3 610) (gnx g) (rawS 4 nfX4)) I) = _
  refine rn_gx ((bk_69 1).trans rfl) <| m_PutX gS_at (by show 0 < 9; decide) True.intro ?_
  rw [gS_gS]
  refine g_LdA rfl <| g_C <| m_PutX gS_at (by show 1 < 9; decide) True.intro ?_
  rw [gS_gS]
  refine g_LdA rfl <| g_C <| m_PutX gS_at (by show 2 < 9; decide) True.intro ?_
  rw [gS_gS]
  refine g_LdA rfl <| g_C <| m_PutX gS_at (by show 3 < 9; decide) True.intro ?_
  rw [gS_gS]
  refine g_LdA rfl <| g_C <| m_PutX gS_at (by show 4 < 9; decide) True.intro ?_
  rw [gS_gS]
  refine g_LdA rfl <| g_C <| m_PutX gS_at (by show 5 < 9; decide) True.intro ?_
  rw [gS_gS]
  refine g_LdA rfl <| g_C <| m_PutX gS_at (by show 6 < 9; decide) True.intro ?_
  rw [gS_gS]
  refine g_LdA rfl <| g_C <| m_PutX gS_at (by show 7 < 9; decide) True.intro ?_
  rw [gS_gS]
  refine g_LdA rfl <| g_C <| m_PutX gS_at (by show 8 < 9; decide) True.intro ?_
  rw [gS_gS]
  refine g_RetV ?_
  congr 1
  refine Prod.ext rfl ?_
  refine mk_raw (tpl := [some (gnx g + 1), none, none, none, none, none, none, none, none]) hs ?_ (fun q hq => funext fun j => upd2_p hq)
  have z : ∀ i, ¬ i = 3 → upd2 I (gnx g) 3 (-1) (gnx g) i = 0 := fun i hi => by rw [upd2_i hi]; exact hz 0 (by decide) i
  have z3 : upd2 I (gnx g) 3 (-1) (gnx g) (0 + 1 + 1 + 1) = -1 := upd2_at
  simp only [rfld, z3, z (0 + 1) (by decide), z (0 + 1 + 1) (by decide), z (0 + 1 + 1 + 1 + 1) (by decide), z (0 + 1 + 1 + 1 + 1 + 1) (by decide), z (0 + 1 + 1 + 1 + 1 + 1 + 1) (by decide), z (0 + 1 + 1 + 1 + 1 + 1 + 1 + 1) (by decide), z (0 + 1 + 1 + 1 + 1 + 1 + 1 + 1 + 1) (by decide)]
  rfl
/-- blocks that put what was made and make the next -/
theorem st_new0 {K b b' p ci f ci2 m nl c s rr : Nat} {nf fs : Vs} {ty : FieldType} {I' : Mm} (hb : blk K b = ([xPut ci f ty, xLdA 0, xNew ci2 nf, xDup], tCi m nl 0 b')) (hl : f < fs.length) (hv : okF ty (.ref rr)) (hnl : 1 ≤ nl)
    (hc : cl m [.ref (gnx g)] (mk (gS (gC (gS g p (rawS ci (vset fs f (.ref rr)))) 1 nf.length) (gnx g) (rawS ci2 nf)) I) = some (.inl none, mk (gC (gS g p (rawS ci (vset fs f (.ref rr)))) c s) I')) :
    rn K b [some (.ref p)] [.ref rr, .ref p] (mk (gS g p (rawS ci fs)) I) = rn K b' [some (.ref p)] [.ref (gnx g), .ref p] (mk (gS (gC g c s) p (rawS ci (vset fs f (.ref rr)))) I') := by
  refine rn_gx hb <| m_PutX gS_at hl hv ?_
  rw [gS_gS]
  refine g_LdA rfl <| m_New <| g_Dup rfl ?_
  exact g_Ci (as := []) (v := none) rfl (Nat.le_of_ble_eq_true rfl) hnl hc rfl
theorem st_new1 {K b b' p ci f ci2 m nl c s rr : Nat} {nf fs : Vs} {ty : FieldType} {I' : Mm} {n : Int} {nn : Int32} (hb : blk K b = ([xPut ci f ty, xLdA 0, xNew ci2 nf, xDup, xC (.int nn)], tCi m nl 1 b')) (hn : nn = iI n) (hl : f < fs.length) (hv : okF ty (.ref rr)) (hnl : 2 ≤ nl)
    (hc : cl m [.ref (gnx g), .int (iI n)] (mk (gS (gC (gS g p (rawS ci (vset fs f (.ref rr)))) 1 nf.length) (gnx g) (rawS ci2 nf)) I) = some (.inl none, mk (gC (gS g p (rawS ci (vset fs f (.ref rr)))) c s) I')) :
    rn K b [some (.ref p)] [.ref rr, .ref p] (mk (gS g p (rawS ci fs)) I) = rn K b' [some (.ref p)] [.ref (gnx g), .ref p] (mk (gS (gC g c s) p (rawS ci (vset fs f (.ref rr)))) I') := by
  refine rn_gx hb <| m_PutX gS_at hl hv ?_
  rw [gS_gS]
  refine g_LdA rfl <| m_New <| g_Dup rfl <| m_C hn ?_
  exact g_Ci (as := [.int (iI n)]) (v := none) rfl (Nat.le_of_ble_eq_true rfl) hnl hc rfl
end MKS
