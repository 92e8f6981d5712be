/-! The object is made; shelves. -/
def isTx (g : Gm) (t : Nat) : Prop := g.1 t = sX4 t ∧ isR g (t + 1) ∧ g.1 (t + 1) = sX2 (t + 1) ∧ gn g (t + 1 + 1) = 600
def isSf (g : Gm) (s n : Nat) : Prop := g.1 s = sX3 s ∧ gt g (s + 1) = 4 ∧ gn g (s + 1) = n
/-- the whole object -/
def isH (g : Gm) (x : Nat) : Prop := g.1 x = sX5 x ∧ isPc g (x + 1) ∧ isPc g (x + 18) ∧ isPl g (x + 35) ∧ isPl g (x + 55) ∧ isTx g (x + 75) ∧ (isR g (x + 78) ∧ g.1 (x + 78) = sX2 (x + 78) ∧ gn g (x + 78 + 1) = 120) ∧ (isR g (x + 80) ∧ g.1 (x + 80) = sX2 (x + 80) ∧ gn g (x + 80 + 1) = 200) ∧ isSf g (x + 82) 8 ∧ isSf g (x + 84) 2
theorem isH.hn {g : Gm} {x : Nat} (h : isH g x) : isHn g x := ⟨h.1, h.2.1⟩
/-- a reference in a row of references -/
def gQ (g : Gm) (p i A : Nat) : Gm := (g.1, g.2.1, g.2.2.1, fun q j => if q = p ∧ j = i then some A else g.2.2.2.1 q j, g.2.2.2.2)
section HI
variable {k : Nat} {F : List XF} {t : TF} {ls : Lo} {st r : Vs} {R : Option Rs} {g : Gm} {I : Mm}
theorem m_Qld {p n : Nat} {i : Int} (hp : gt g p = 4) (hn : gn g p = n) (h0 : 0 ≤ i) (h1 : i < n) (h2 : n ≤ 1000) (K : gx k F t ls (va_rf (g.2.2.2.1 p i.toNat) :: r) (mk g I) = R) : gx k (xQld :: F) t ls (.int (iI i) :: .ref p :: r) (mk g I) = R := by
  have e : (iI i).toNatClampNeg = i.toNat := iI_cl (by omega) (by omega)
  refine g_Qld (n := n) (f := g.2.2.2.1 p) (by rw [← hn]; exact rnd_q hp) ⟨by rw [iI_0, iI_le (by decide) (by decide) (by omega) (by omega)]; exact h0, by rw [e]; omega⟩ ?_
  rw [e]; exact K
theorem m_Qst {p n x : Nat} {i : Int} {tpl : List (Option Nat)} (hp : gt g p = 4) (hn : gn g p = n) (hx : g.1 x = .inr (.inl (0, tpl))) (h0 : 0 ≤ i) (h1 : i < n) (h2 : n ≤ 1000) (K : gx k F t ls r (mk (gQ g p i.toNat x) I) = R) : gx k (xQst :: F) t ls (.ref x :: .int (iI i) :: .ref p :: r) (mk g I) = R := by
  have e : (iI i).toNatClampNeg = i.toNat := iI_cl (by omega) (by omega)
  refine g_Qst (n := n) (f := g.2.2.2.1 p) (by rw [← hn]; exact rnd_q hp) (rnd_obj hx) ⟨by rw [iI_0, iI_le (by decide) (by decide) (by omega) (by omega)]; exact h0, by rw [e]; omega⟩ ?_
  rw [e, ← K]
  congr 1
  unfold hset mk
  refine Prod.ext (funext fun q => ?_) rfl
  show (if q = p then _ else rnd g I q) = rnd (gQ g p i.toNat x) I q
  by_cases hq : q = p
  · subst hq
    rw [if_pos rfl]
    have : rnd (gQ g q i.toNat x) I q = .inl (4, gn g q, .inr (.inr (.inr (.inr ((gQ g q i.toNat x).2.2.2.1 q))))) := rnd_q hp
    rw [this, hn]
    congr 7
    funext j
    show (if j = i.toNat then some x else g.2.2.2.1 q j) = if q = q ∧ j = i.toNat then some x else g.2.2.2.1 q j
    by_cases hj : j = i.toNat
    · rw [if_pos hj, if_pos ⟨rfl, hj⟩]
    · rw [if_neg hj, if_neg (fun z => hj z.2)]
  · rw [if_neg hq]
    show rc (g.1 q) (g.2.1 q) (g.2.2.1 q) (g.2.2.2.1 q) (I q) = rc (g.1 q) (g.2.1 q) (g.2.2.1 q) ((gQ g p i.toNat x).2.2.2.1 q) (I q)
    rw [show (gQ g p i.toNat x).2.2.2.1 q = g.2.2.2.1 q from funext fun j => if_neg (fun z => hq z.1)]
theorem newHand (hp : isH g (gnx g)) (hz : ∀ j : Nat, j ≤ 85 → ∀ i, I (gnx g + j) i = 0) (hst : isSt g I) (h2 : 2 ≤ gnx g) (hL : ∀ i, g.2.1 (gnx g + 54) i = 0 ∧ g.2.1 (gnx g + 74) i = 0) (hQ : ∀ i, g.2.2.2.1 (gnx g + 83) i = none ∧ g.2.2.2.1 (gnx g + 85) i = none) :
    cl 92 [.ref (gnx g)] (mk (gS (gC g 1 12) (gnx g) (rawS 5 nfX5)) I) = some (.inl none, mk (gC g 86 16430) (upd2 (bgM (bgM I (gnx g + 1)) (gnx g + 18)) (gnx g + 75) 3 (-1))) := by
  obtain ⟨h_0, h_1, h_18, h_35, h_55, ⟨h_75, h_76, h_76b, h_77⟩, ⟨h_78, h_78b, h_79⟩, ⟨h_80, h_80b, h_81⟩, ⟨h_82, h_83, h_83n⟩, ⟨h_84, h_85, h_85n⟩⟩ := hp
  have a79 := isR_sh h_78
  have a81 := isR_sh h_80
  rw [h_79] at a79
  rw [h_81] at a81
  have a83 : g.1 (gnx g + 83) = .inl (4, gn g (gnx g + 83)) := gtn h_83 (by decide)
  have a85 : g.1 (gnx g + 85) = .inl (4, gn g (gnx g + 85)) := gtn h_85 (by decide)
  rw [h_83n] at a83
  rw [h_85n] at a85
  obtain ⟨I1, hI1⟩ : ∃ I1, I1 = bgM I (gnx g + 1) := ⟨_, rfl⟩
  obtain ⟨I2, hI2⟩ : ∃ I2, I2 = bgM I1 (gnx g + 18) := ⟨_, rfl⟩
  obtain ⟨I3, hI3⟩ : ∃ I3, I3 = upd2 I2 (gnx g + 75) 3 (-1) := ⟨_, rfl⟩
  have o1 : ∀ p, p < gnx g + 1 ∨ gnx g + 17 < p → I1 p = I p := fun p h => by rw [hI1]; exact bgM_o (by omega) (by omega) (by omega) (by omega) (by omega)
  have o2 : ∀ p, p < gnx g + 18 ∨ gnx g + 34 < p → I2 p = I1 p := fun p h => by rw [hI2]; exact bgM_o (by omega) (by omega) (by omega) (by omega) (by omega)
  have o3 : ∀ p, ¬ p = gnx g + 75 → I3 p = I2 p := fun p h => by rw [hI3]; exact funext fun j => upd2_p h
  have z1 : ∀ j : Nat, 18 ≤ j → j ≤ 85 → ∀ i, I1 (gnx g + j) i = 0 := fun j h h' i => by rw [o1 _ (by omega)]; exact hz j h' i
  have z2 : ∀ j : Nat, 35 ≤ j → j ≤ 85 → ∀ i, I2 (gnx g + j) i = 0 := fun j h h' i => by rw [o2 _ (by omega)]; exact z1 j (by omega) h' i
  have z3 : ∀ j : Nat, 76 ≤ j → j ≤ 85 → ∀ i, I3 (gnx g + j) i = 0 := fun j h h' i => by rw [o3 _ (by omega)]; exact z2 j (by omega) h' i
  have hst1 : isSt g I1 := by
    obtain ⟨t0, n0, t1, n1, hw, hs⟩ := hst
    exact ⟨t0, n0, t1, n1, by rw [o1 0 (by omega)]; exact hw, by rw [o1 1 (by omega)]; exact hs⟩
  rw [← hI1, ← hI2, ← hI3]
  refine (c_92).trans ?_
  refine (rn_gx ((bk_92 0).trans rfl) <| g_LdA rfl <| g_Obj (Nat.le_of_ble_eq_true rfl) <| g_LdA rfl <| m_New <| g_Dup rfl ?_)
  refine g_Ci (as := []) (v := none) rfl (Nat.le_of_ble_eq_true rfl) (Nat.le_of_ble_eq_true rfl) (newPiece (g := gS (gC g 1 12) (gnx g) (rawS 5 nfX5)) (isPc_S (by show gnx g < gnx g + 1 ∨ _; omega) h_1) (fun j hj i => by show I (gnx g + 1 + j) i = 0; rw [Nat.add_assoc]; exact hz (1 + j) (by omega) i) (isSt_S h2 hst) (by show 2 ≤ gnx g + 1; omega)) ?_
  show rn 92 1 [some (.ref (gnx g))] [.ref (gnx g + 1), .ref (gnx g)] (mk (gS (gC g 18 435) (gnx g) (rawS 5 nfX5)) (bgM I (gnx g + 1))) = _
  rw [← hI1]
  refine (st_new0 (g := gC g 18 435) (K := 92) (b := 1) (b' := 2) (p := gnx g) (ci := 5) (f := 0) (fs := [.null, .null, .null, .null, .null, .null, .null, .int 0, .null, .int 0, .int 0, .null]) (rr := gnx g + 1) (I := I1) (I' := I2) (c := 17) (s := 423) ((bk_92 1).trans rfl) (by show 0 < 12; decide) True.intro (by decide) (by rw [hI2]; exact newPiece (g := (gS (gC g 18 435) (gnx g) (rawS 5 [.ref (gnx g + 1), .null, .null, .null, .null, .null, .null, .int 0, .null, .int 0, .int 0, .null]))) (isPc_S (by show gnx g < gnx g + 18 ∨ _; omega) h_18) (fun j hj i => by show I1 (gnx g + 18 + j) i = 0; rw [Nat.add_assoc]; exact z1 (18 + j) (by omega) (by omega) i) (isSt_S h2 hst1) (by show 2 ≤ gnx g + 18; omega))).trans ?_
  refine (st_new0 (g := gC g 35 858) (K := 92) (b := 2) (b' := 3) (p := gnx g) (ci := 5) (f := 1) (fs := [.ref (gnx g + 1), .null, .null, .null, .null, .null, .null, .int 0, .null, .int 0, .int 0, .null]) (rr := gnx g + 18) (I := I2) (I' := I2) (c := 20) (s := 7314) ((bk_92 2).trans rfl) (by show 1 < 12; decide) True.intro (by decide) (newPlan (g := (gS (gC g 35 858) (gnx g) (rawS 5 [.ref (gnx g + 1), .ref (gnx g + 18), .null, .null, .null, .null, .null, .int 0, .null, .int 0, .int 0, .null]))) (isPl_S (by show gnx g < gnx g + 35 ∨ _; omega) h_35) (fun j hj i => by show I2 (gnx g + 35 + j) i = 0; rw [Nat.add_assoc]; exact z2 (35 + j) (by omega) (by omega) i) (fun i => (hL i).1))).trans ?_
  refine (st_new0 (g := gC g 55 8172) (K := 92) (b := 3) (b' := 4) (p := gnx g) (ci := 5) (f := 2) (fs := [.ref (gnx g + 1), .ref (gnx g + 18), .null, .null, .null, .null, .null, .int 0, .null, .int 0, .int 0, .null]) (rr := gnx g + 35) (I := I2) (I' := I2) (c := 20) (s := 7314) ((bk_92 3).trans rfl) (by show 2 < 12; decide) True.intro (by decide) (newPlan (g := (gS (gC g 55 8172) (gnx g) (rawS 5 [.ref (gnx g + 1), .ref (gnx g + 18), .ref (gnx g + 35), .null, .null, .null, .null, .int 0, .null, .int 0, .int 0, .null]))) (isPl_S (by show gnx g < gnx g + 55 ∨ _; omega) h_55) (fun j hj i => by show I2 (gnx g + 55 + j) i = 0; rw [Nat.add_assoc]; exact z2 (55 + j) (by omega) (by omega) i) (fun i => (hL i).2))).trans ?_
  refine (st_new0 (g := gC g 75 15486) (K := 92) (b := 4) (b' := 5) (p := gnx g) (ci := 5) (f := 3) (fs := [.ref (gnx g + 1), .ref (gnx g + 18), .ref (gnx g + 35), .null, .null, .null, .null, .int 0, .null, .int 0, .int 0, .null]) (rr := gnx g + 55) (I := I2) (I' := I3) (c := 3) (s := 610) ((bk_92 4).trans rfl) (by show 3 < 12; decide) True.intro (by decide) (by rw [hI3]; exact newText (g := (gS (gC g 75 15486) (gnx g) (rawS 5 [.ref (gnx g + 1), .ref (gnx g + 18), .ref (gnx g + 35), .ref (gnx g + 55), .null, .null, .null, .int 0, .null, .int 0, .int 0, .null]))) (by show (gS (gC g 75 15486) (gnx g) _).1 (gnx g + 75) = sX4 (gnx g + 75); rw [sh_S (by omega)]; exact h_75) (isR_S (by show ¬ gnx g + 75 + 1 = gnx g; omega) (by show ¬ gnx g + 75 + 1 + 1 = gnx g; omega) h_76) (by show (gS (gC g 75 15486) (gnx g) _).1 (gnx g + 75 + 1) = sX2 (gnx g + 75 + 1); rw [sh_S (by omega)]; exact h_76b) (by show gn (gS (gC g 75 15486) (gnx g) _) (gnx g + 75 + 1 + 1) = 600; rw [gn_S (by omega)]; exact h_77) (fun j hj i => by show I2 (gnx g + 75 + j) i = 0; rw [Nat.add_assoc]; exact z2 (75 + j) (by omega) (by omega) i))).trans ?_
  refine (st_new1 (g := gC g 78 16096) (K := 92) (b := 5) (b' := 6) (p := gnx g) (ci := 5) (f := 4) (fs := [.ref (gnx g + 1), .ref (gnx g + 18), .ref (gnx g + 35), .ref (gnx g + 55), .null, .null, .null, .int 0, .null, .int 0, .int 0, .null]) (rr := gnx g + 75) (I := I3) (I' := I3) (c := 2) (s := 121) (n := 120) ((bk_92 5).trans rfl) rfl (by show 4 < 12; decide) True.intro (by decide) (newRow (g := (gS (gC g 78 16096) (gnx g) (rawS 5 [.ref (gnx g + 1), .ref (gnx g + 18), .ref (gnx g + 35), .ref (gnx g + 55), .ref (gnx g + 75), .null, .null, .int 0, .null, .int 0, .int 0, .null]))) (n := 120) (by decide) (by decide) (by show (gS (gC g 78 16096) (gnx g) _).1 (gnx g + 78) = sX2 (gnx g + 78); rw [sh_S (by omega)]; exact h_78b) (by show (gS (gC g 78 16096) (gnx g) _).1 (gnx g + 78 + 1) = _; rw [sh_S (by omega)]; exact a79) (fun i => z3 79 (by decide) (by decide) i))).trans ?_
  refine (st_new1 (g := gC g 80 16217) (K := 92) (b := 6) (b' := 7) (p := gnx g) (ci := 5) (f := 5) (fs := [.ref (gnx g + 1), .ref (gnx g + 18), .ref (gnx g + 35), .ref (gnx g + 55), .ref (gnx g + 75), .null, .null, .int 0, .null, .int 0, .int 0, .null]) (rr := gnx g + 78) (I := I3) (I' := I3) (c := 2) (s := 201) (n := 200) ((bk_92 6).trans rfl) rfl (by show 5 < 12; decide) True.intro (by decide) (newRow (g := (gS (gC g 80 16217) (gnx g) (rawS 5 [.ref (gnx g + 1), .ref (gnx g + 18), .ref (gnx g + 35), .ref (gnx g + 55), .ref (gnx g + 75), .ref (gnx g + 78), .null, .int 0, .null, .int 0, .int 0, .null]))) (n := 200) (by decide) (by decide) (by show (gS (gC g 80 16217) (gnx g) _).1 (gnx g + 80) = sX2 (gnx g + 80); rw [sh_S (by omega)]; exact h_80b) (by show (gS (gC g 80 16217) (gnx g) _).1 (gnx g + 80 + 1) = _; rw [sh_S (by omega)]; exact a81) (fun i => z3 81 (by decide) (by decide) i))).trans ?_
  refine rn_gx ((bk_92 7).trans rfl) <| m_PutX gS_at (by show 6 < 12; decide) True.intro ?_
  rw [gS_gS]
  refine g_LdA rfl <| g_C <| m_PutX gS_at (by show 7 < 12; decide) True.intro ?_
  rw [gS_gS]
  refine g_LdA rfl <| m_New <| g_Dup rfl <| m_C (z := 8) rfl ?_
  refine g_Ci (as := [.int (iI 8)]) (v := none) rfl (Nat.le_of_ble_eq_true rfl) (Nat.le_of_ble_eq_true rfl) (newShelf (g := gS (gC g 82 16418) (gnx g) (rawS 5 [.ref (gnx g + 1), .ref (gnx g + 18), .ref (gnx g + 35), .ref (gnx g + 55), .ref (gnx g + 75), .ref (gnx g + 78), .ref (gnx g + 80), .int 0, .null, .int 0, .int 0, .null])) (n := 8) (by decide) (by decide) (by show (gS (gC g 82 16418) (gnx g) _).1 (gnx g + 82) = sX3 (gnx g + 82); rw [sh_S (by omega)]; exact h_82) (by show (gS (gC g 82 16418) (gnx g) _).1 (gnx g + 82 + 1) = _; rw [sh_S (by omega)]; exact a83) (fun i => (hQ i).1)) ?_
  show rn 92 8 [some (.ref (gnx g))] [.ref (gnx g + 82), .ref (gnx g)] (mk (gS (gC g 84 16427) (gnx g) (rawS 5 [.ref (gnx g + 1), .ref (gnx g + 18), .ref (gnx g + 35), .ref (gnx g + 55), .ref (gnx g + 75), .ref (gnx g + 78), .ref (gnx g + 80), .int 0, .null, .int 0, .int 0, .null])) I3) = _
  refine rn_gx ((bk_92 8).trans rfl) <| m_PutX gS_at (by show 8 < 12; decide) True.intro ?_
  rw [gS_gS]
  refine g_LdA rfl <| g_C <| m_PutX gS_at (by show 9 < 12; decide) True.intro ?_
  rw [gS_gS]
  refine g_LdA rfl <| g_C <| m_PutX gS_at (by show 10 < 12; decide) True.intro ?_
  rw [gS_gS]
  refine g_LdA rfl <| m_New <| g_Dup rfl <| m_C (z := 2) rfl ?_
  refine g_Ci (as := [.int (iI 2)]) (v := none) rfl (Nat.le_of_ble_eq_true rfl) (Nat.le_of_ble_eq_true rfl) (newShelf (g := gS (gC g 84 16427) (gnx g) (rawS 5 [.ref (gnx g + 1), .ref (gnx g + 18), .ref (gnx g + 35), .ref (gnx g + 55), .ref (gnx g + 75), .ref (gnx g + 78), .ref (gnx g + 80), .int 0, .ref (gnx g + 82), .int 0, .int 0, .null])) (n := 2) (by decide) (by decide) (by show (gS (gC g 84 16427) (gnx g) _).1 (gnx g + 84) = sX3 (gnx g + 84); rw [sh_S (by omega)]; exact h_84) (by show (gS (gC g 84 16427) (gnx g) _).1 (gnx g + 84 + 1) = _; rw [sh_S (by omega)]; exact a85) (fun i => (hQ i).2)) ?_
  show rn 92 9 [some (.ref (gnx g))] [.ref (gnx g + 84), .ref (gnx g)] (mk (gS (gC g 86 16430) (gnx g) (rawS 5 [.ref (gnx g + 1), .ref (gnx g + 18), .ref (gnx g + 35), .ref (gnx g + 55), .ref (gnx g + 75), .ref (gnx g + 78), .ref (gnx g + 80), .int 0, .ref (gnx g + 82), .int 0, .int 0, .null])) I3) = _
  refine rn_gx ((bk_92 9).trans rfl) <| m_PutX gS_at (by show 11 < 12; decide) True.intro <| g_RetV ?_
  rw [gS_gS]
  congr 1
  refine Prod.ext rfl ?_
  refine mk_raw (g := gC g 86 16430) (tpl := [some (gnx g + 1), some (gnx g + 18), some (gnx g + 35), some (gnx g + 55), some (gnx g + 75), some (gnx g + 78), some (gnx g + 80), none, some (gnx g + 82), none, none, some (gnx g + 84)]) h_0 ?_ (fun _ _ => rfl)
  have zx : ∀ i, I3 (gnx g) i = 0 := fun i => by rw [o3 _ (by omega), o2 _ (by omega), o1 _ (by omega)]; exact hz 0 (by decide) i
  simp only [rfld, zx]
  rfl
end HI
section SF
variable {g : Gm} {I : Mm} {s q : Nat}
theorem s_holds {i : Int} {n : Nat} (hs : isSf g s n) (h0 : 0 ≤ i) (h1 : i < n) (h2 : n ≤ 1000) : cl 66 [.ref s, .int (iI i)] (mk g I) = some (.inl (some (.int (iI (if g.2.2.2.1 (s + 1) i.toNat = none then 0 else 1)))), mk g I) := by
  obtain ⟨a1, a2, a3⟩ := hs
  have a2' : gt g (s + 1) = 0 ∨ gt g (s + 1) = 1 ∨ gt g (s + 1) = 4 ∨ gt g (s + 1) = 7 := Or.inr (Or.inr (Or.inl a2))
  refine (c_66).trans ?_
  refine (w_66_0 (by first | omega | assumption) (by first | omega | assumption)).trans ?_
  refine (if_neg (by omega)).trans ?_
  refine (w_66_1 (by first | omega | assumption) (by first | omega | assumption) (by first | omega | assumption) (by first | omega | assumption) (by first | omega | assumption) (by first | omega | assumption)).trans ?_
  refine (if_neg (by omega)).trans ?_
  refine rn_gx ((bk_66 2).trans rfl) <| g_LdA rfl <| m_GetR a1 rfl <| g_Ld rfl <| m_Qld a2 a3 h0 h1 h2 ?_
  cases hq : g.2.2.2.1 (s + 1) i.toNat with
  | none =>
    rw [if_pos rfl]
    refine g_NulN ?_
    simp (maxSteps := 2000000) (disch := first | assumption | omega) only [aft_v, aft_n, aft_t, Nat.add_assoc, Nat.reduceAdd, if_true, if_false, not_true_eq_false, not_false_eq_true, Classical.not_not, Int.reduceAdd, Int.reduceSub, Int.reduceMul, Int.reduceNeg, Int.reduceLT, Int.reduceLE, Int.reduceEq, Int.add_zero, Int.zero_add, Int.sub_zero, w_66_4, w_66_5]
  | some A =>
    rw [if_neg (by intro h; cases h)]
    refine g_NulR ?_
    simp (maxSteps := 2000000) (disch := first | assumption | omega) only [aft_v, aft_n, aft_t, Nat.add_assoc, Nat.reduceAdd, if_true, if_false, not_true_eq_false, not_false_eq_true, Classical.not_not, Int.reduceAdd, Int.reduceSub, Int.reduceMul, Int.reduceNeg, Int.reduceLT, Int.reduceLE, Int.reduceEq, Int.add_zero, Int.zero_add, Int.sub_zero, w_66_3, w_66_5]
theorem s_takeOut {i : Int} {n A : Nat} (hs : isSf g s n) (h0 : 0 ≤ i) (h1 : i < n) (h2 : n ≤ 1000) (hA : g.2.2.2.1 (s + 1) i.toNat = some A) (hp : isPc g q) (hpA : isPc g A) (hd : q + 17 ≤ A ∨ A + 17 ≤ q) (h01 : I A 0 = 0 ∨ I A 0 = 1) :
    cl 68 [.ref s, .int (iI i), .ref q] (mk g I) = some (.inl none, mk g (cpP I q A)) := by
  obtain ⟨a1, a2, a3⟩ := hs
  have a2' : gt g (s + 1) = 0 ∨ gt g (s + 1) = 1 ∨ gt g (s + 1) = 4 ∨ gt g (s + 1) = 7 := Or.inr (Or.inr (Or.inl a2))
  have c := s_pcopy (g := g) (I := I) hp hpA hd h01
  refine (c_68).trans ?_
  refine (w_68_0 (by first | omega | assumption) (by first | omega | assumption)).trans ?_
  refine (if_neg (by omega)).trans ?_
  refine (w_68_1 (by first | omega | assumption) (by first | omega | assumption) (by first | omega | assumption) (by first | omega | assumption) (by first | omega | assumption) (by first | omega | assumption)).trans ?_
  refine (if_neg (by omega)).trans ?_
  refine rn_gx ((bk_68 2).trans rfl) <| g_LdA rfl <| m_GetR a1 rfl <| g_Ld rfl <| m_Qld a2 a3 h0 h1 h2 ?_
  rw [hA]
  refine g_Go ?_
  refine rn_gx ((bk_68 4).trans rfl) <| g_StA (x := A) rfl <| g_LdA rfl <| g_NulR ?_
  refine rn_gx ((bk_68 5).trans rfl) <| g_LdA rfl <| g_LdA rfl ?_
  refine (m_Cv (g := g) (k := 68) (m := 2) (nl := 2) (ci := 0) (n := 1) (b := 6) (hs := some []) (ls := [some (.ref s), some (.int (iI i)), some (.ref q), some (.ref A)]) (st := [.ref A, .ref q]) (as := [.ref A]) (r := []) (p := q) (fs := [none, none, some (q + 1), some (q + 3), some (q + 5), some (q + 7), some (q + 9), some (q + 11), some (q + 13), some (q + 15)]) rfl hp.1 (Nat.le_of_ble_eq_true rfl) (Nat.le_of_ble_eq_true rfl)).trans ?_
  rw [c, aft_n]
  exact rn_gx ((bk_68 6).trans rfl) <| g_RetV rfl
/-- what putting a piece on a shelf does -/
def ptI (s q : Nat) (i : Int) (g g' : Gm) (I I' : Mm) (A : Nat) : Prop := ((g.2.2.2.1 (s + 1) i.toNat = some A ∧ g' = g) ∨ (g.2.2.2.1 (s + 1) i.toNat = none ∧ A = gnx g ∧ g' = gQ (gC g 17 423) (s + 1) i.toNat A)) ∧ (∀ p, p < A ∨ A + 16 < p → I' p = I p) ∧ Agr (pv I' A) (pv I q) ∧ pB I' A
theorem s_putIn {i : Int} {n : Nat} (hs : isSf g s n) (h0 : 0 ≤ i) (h1 : i < n) (h2 : n ≤ 1000) (hp : isPc g q) (hB : pB I q)
    (hpl : (∃ A, g.2.2.2.1 (s + 1) i.toNat = some A ∧ isPc g A ∧ pB I A ∧ (q + 17 ≤ A ∨ A + 17 ≤ q)) ∨ (g.2.2.2.1 (s + 1) i.toNat = none ∧ isPc g (gnx g) ∧ (∀ j : Nat, j ≤ 16 → ∀ i, I (gnx g + j) i = 0) ∧ isSt g I ∧ 2 ≤ gnx g ∧ q + 17 ≤ gnx g ∧ s + 1 < gnx g)) :
    ∃ g' I' A, cl 67 [.ref s, .int (iI i), .ref q] (mk g I) = some (.inl none, mk g' I') ∧ ptI s q i g g' I I' A := by
  obtain ⟨a1, a2, a3⟩ := hs
  have a2' : gt g (s + 1) = 0 ∨ gt g (s + 1) = 1 ∨ gt g (s + 1) = 4 ∨ gt g (s + 1) = 7 := Or.inr (Or.inr (Or.inl a2))
  rcases hpl with ⟨A, hA, hpA, hBA, hd⟩ | ⟨hA, hpA, hz, hst, hge, hqn, hsn⟩
  · have c := s_pcopy (g := g) (I := I) hpA hp (by omega) hB.1
    refine ⟨g, cpP I A q, A, ?_, Or.inl ⟨hA, rfl⟩, fun p hp => funext fun j => cp_o hp, cp_Agr hB, cp_pB hB hBA⟩
    refine (c_67).trans ?_
    refine (w_67_0 (by first | omega | assumption) (by first | omega | assumption)).trans ?_
    refine (if_neg (by omega)).trans ?_
    refine (w_67_1 (by first | omega | assumption) (by first | omega | assumption) (by first | omega | assumption) (by first | omega | assumption) (by first | omega | assumption) (by first | omega | assumption)).trans ?_
    refine (if_pos (by omega)).trans ?_
    refine rn_gx ((bk_67 3).trans rfl) <| g_LdA rfl <| m_GetR a1 rfl <| g_Ld rfl <| m_Qld a2 a3 h0 h1 h2 ?_
    rw [hA]
    refine g_StA (x := A) rfl <| g_LdA rfl <| g_NulR ?_
    refine rn_gx ((bk_67 6).trans rfl) <| g_LdA rfl <| g_LdA rfl ?_
    refine (m_Cv (g := g) (k := 67) (m := 2) (nl := 2) (ci := 0) (n := 1) (b := 7) (hs := some []) (ls := [some (.ref s), some (.int (iI i)), some (.ref q), some (.ref A)]) (st := [.ref q, .ref A]) (as := [.ref q]) (r := []) (p := A) (fs := [none, none, some (A + 1), some (A + 3), some (A + 5), some (A + 7), some (A + 9), some (A + 11), some (A + 13), some (A + 15)]) rfl hpA.1 (Nat.le_of_ble_eq_true rfl) (Nat.le_of_ble_eq_true rfl)).trans ?_
    rw [c, aft_n]
    simp (maxSteps := 2000000) (disch := first | assumption | omega) only [aft_v, aft_n, aft_t, Nat.add_assoc, Nat.reduceAdd, if_true, if_false, not_true_eq_false, not_false_eq_true, Classical.not_not, Int.reduceAdd, Int.reduceSub, Int.reduceMul, Int.reduceNeg, Int.reduceLT, Int.reduceLE, Int.reduceEq, Int.add_zero, Int.zero_add, Int.sub_zero, w_67_7]
  · obtain ⟨A, hAn⟩ : ∃ A, A = gnx g := ⟨_, rfl⟩
    have nw := newPiece (g := g) (I := I) hpA hz hst hge
    obtain ⟨K, hK⟩ : ∃ K, K = bgM I (gnx g) := ⟨_, rfl⟩
    rw [← hK] at nw
    have kq : ∀ p, p < gnx g ∨ gnx g + 16 < p → K p = I p := fun p h => by rw [hK]; exact bgM_o (by omega) (by omega) (by omega) (by omega) (by omega)
    have hBq : pB K q := by
      unfold pB at hB ⊢
      rw [kq q (by omega), kq (q + 2) (by omega), kq (q + 4) (by omega), kq (q + 6) (by omega), kq (q + 8) (by omega), kq (q + 10) (by omega), kq (q + 12) (by omega), kq (q + 14) (by omega), kq (q + 16) (by omega)]
      exact hB
    have hv : pv K q = pv I q := by
      unfold pv
      rw [kq q (by omega), kq (q + 2) (by omega), kq (q + 4) (by omega), kq (q + 6) (by omega), kq (q + 8) (by omega), kq (q + 10) (by omega), kq (q + 12) (by omega), kq (q + 14) (by omega), kq (q + 16) (by omega)]
    have zB : ∀ j : Nat, j ≤ 16 → ∀ B, 0 ≤ B → ∀ i, 0 ≤ I (gnx g + j) i ∧ I (gnx g + j) i ≤ B := fun j hj B hB i => by rw [hz j hj i]; omega
    have hBA : pB K (gnx g) := by
      rw [hK]
      exact bgM_pB (zB 2 (by decide) 3 (by decide)) (zB 4 (by decide) 9 (by decide)) (zB 6 (by decide) 108 (by decide)) (zB 8 (by decide) 31 (by decide)) (zB 10 (by decide) 99 (by decide)) (zB 12 (by decide) 24 (by decide)) (zB 14 (by decide) 24 (by decide)) (zB 16 (by decide) 24 (by decide))
    have c := s_pcopy (g := gQ (gC g 17 423) (s + 1) i.toNat (gnx g)) (I := K) (q := gnx g) (o := q) hpA hp (by omega) hBq.1
    refine ⟨gQ (gC g 17 423) (s + 1) i.toNat A, cpP K A q, A, ?_, Or.inr ⟨hA, hAn, rfl⟩, fun p hp => ?_, ?_, ?_⟩
    · rw [hAn]
      refine (c_67).trans ?_
      refine (w_67_0 (by first | omega | assumption) (by first | omega | assumption)).trans ?_
      refine (if_neg (by omega)).trans ?_
      refine (w_67_1 (by first | omega | assumption) (by first | omega | assumption) (by first | omega | assumption) (by first | omega | assumption) (by first | omega | assumption) (by first | omega | assumption)).trans ?_
      refine (if_pos (by omega)).trans ?_
      refine rn_gx ((bk_67 3).trans rfl) <| g_LdA rfl <| m_GetR a1 rfl <| g_Ld rfl <| m_Qld a2 a3 h0 h1 h2 ?_
      rw [hA]
      refine g_StN rfl <| g_LdN rfl <| g_NulN ?_
      refine rn_gx ((bk_67 4).trans rfl) <| m_New <| g_Dup rfl ?_
      refine g_Ci (as := []) (v := none) rfl (Nat.le_of_ble_eq_true rfl) (Nat.le_of_ble_eq_true rfl) nw ?_
      refine rn_gx ((bk_67 5).trans rfl) <| g_StA (x := gnx g) rfl <| g_LdA rfl <| m_GetR a1 rfl <| g_Ld rfl <| g_LdA rfl <| m_Qst (g := gC g 17 423) (tpl := [none, none, some (gnx g + 1), some (gnx g + 3), some (gnx g + 5), some (gnx g + 7), some (gnx g + 9), some (gnx g + 11), some (gnx g + 13), some (gnx g + 15)]) a2 a3 hpA.1 h0 h1 h2 <| g_Go ?_
      refine rn_gx ((bk_67 6).trans rfl) <| g_LdA rfl <| g_LdA rfl ?_
      refine (m_Cv (g := gQ (gC g 17 423) (s + 1) i.toNat (gnx g)) (k := 67) (m := 2) (nl := 2) (ci := 0) (n := 1) (b := 7) (hs := some []) (ls := [some (.ref s), some (.int (iI i)), some (.ref q), some (.ref (gnx g))]) (st := [.ref q, .ref (gnx g)]) (as := [.ref q]) (r := []) (p := gnx g) (fs := [none, none, some (gnx g + 1), some (gnx g + 3), some (gnx g + 5), some (gnx g + 7), some (gnx g + 9), some (gnx g + 11), some (gnx g + 13), some (gnx g + 15)]) rfl hpA.1 (Nat.le_of_ble_eq_true rfl) (Nat.le_of_ble_eq_true rfl)).trans ?_
      rw [c, aft_n]
      simp (maxSteps := 2000000) (disch := first | assumption | omega) only [aft_v, aft_n, aft_t, Nat.add_assoc, Nat.reduceAdd, if_true, if_false, not_true_eq_false, not_false_eq_true, Classical.not_not, Int.reduceAdd, Int.reduceSub, Int.reduceMul, Int.reduceNeg, Int.reduceLT, Int.reduceLE, Int.reduceEq, Int.add_zero, Int.zero_add, Int.sub_zero, w_67_7]
    · rw [show cpP K A q p = K p from funext fun j => cp_o hp, kq p (by rw [← hAn]; exact hp)]
    · rw [← hv]; exact cp_Agr hBq
    · rw [hAn]; exact cp_pB hBq hBA
end SF
