/-! What is made: rows, pieces, plans. Shapes of places not yet used are those that they will have; their numbers are 0. -/
def gC (g : Gm) (c s : Nat) : Gm := (g.1, g.2.1, g.2.2.1, g.2.2.2.1, g.2.2.2.2.1 + c, g.2.2.2.2.2.1 + c, g.2.2.2.2.2.2 + s)
def gS (g : Gm) (p : Nat) (sh : Sh) : Gm := (fun q => if q = p then sh else g.1 q, g.2)
def gnx (g : Gm) : Nat := g.2.2.2.2.1
def rawS (c : Nat) (fs : Vs) : Sh := .inr (.inr (.inr (c, fs)))
theorem gS_ne {g : Gm} {p q : Nat} {sh : Sh} (h : ¬ q = p) : (gS g p sh).1 q = g.1 q := if_neg h
theorem gS_at {g : Gm} {p : Nat} {sh : Sh} : (gS g p sh).1 p = sh := if_pos rfl
theorem gS_gS {g : Gm} {p : Nat} {a b : Sh} : gS (gS g p a) p b = gS g p b := by
  unfold gS
  refine Prod.ext (funext fun q => ?_) rfl
  show (if q = p then b else if q = p then a else g.1 q) = if q = p then b else g.1 q
  split <;> rfl
theorem gS_self {g : Gm} {p : Nat} {sh : Sh} (h : g.1 p = sh) : gS g p sh = g := by
  unfold gS
  refine Prod.ext (funext fun q => ?_) rfl
  show (if q = p then sh else g.1 q) = g.1 q
  by_cases hq : q = p
  · subst hq; rw [if_pos rfl]; exact h.symm
  · rw [if_neg hq]
theorem hnew_mk {g : Gm} {I : Mm} {c n : Nat} {fs : Vs} : hnew (mk g I) (.inr (c, fs)) n = mk (gS (gC g 1 n) (gnx g) (rawS c fs)) I := by
  unfold hnew mk
  refine Prod.ext (funext fun q => ?_) rfl
  show (if q = gnx g then _ else rnd g I q) = rc (if q = gnx g then rawS c fs else g.1 q) _ _ _ _
  by_cases hq : q = gnx g
  · rw [if_pos hq, if_pos hq]; rfl
  · rw [if_neg hq, if_neg hq]; rfl
theorem hnewA_mk {g : Gm} {I : Mm} {e : va_E} {n : Nat} (h : rnd g I (gnx g) = e) : hnew (mk g I) e n = mk (gC g 1 n) I := by
  unfold hnew mk
  refine Prod.ext (funext fun q => ?_) rfl
  show (if q = gnx g then e else rnd g I q) = rnd (gC g 1 n) I q
  by_cases hq : q = gnx g
  · rw [if_pos hq, hq, ← h]; rfl
  · rw [if_neg hq]; rfl
theorem mk_raw {g : Gm} {I I' : Mm} {p c : Nat} {fs : Vs} {tpl : List (Option Nat)} (h : g.1 p = .inr (.inl (c, tpl))) (hf : fs = rfld (I' p) 0 tpl) (ho : ∀ q, ¬ q = p → I' q = I q) : mk (gS g p (rawS c fs)) I = mk g I' := by
  unfold mk
  refine Prod.ext (funext fun q => ?_) rfl
  show rc (if q = p then rawS c fs else g.1 q) (g.2.1 q) (g.2.2.1 q) (g.2.2.2.1 q) (I q) = rc (g.1 q) (g.2.1 q) (g.2.2.1 q) (g.2.2.2.1 q) (I' q)
  by_cases hq : q = p
  · rw [if_pos hq, hq, h, hf]; rfl
  · rw [if_neg hq, ho q hq]
section AL
variable {k : Nat} {F : List XF} {t : TF} {ls : Lo} {st r : Vs} {R : Option Rs} {g : Gm} {I : Mm}
theorem m_New {ci : Nat} {fs : Vs} (K : gx k F t ls (.ref (gnx g) :: st) (mk (gS (gC g 1 fs.length) (gnx g) (rawS ci fs)) I) = R) : gx k (xNew ci fs :: F) t ls st (mk g I) = R := g_New (by rw [hnew_mk]; exact K)
theorem m_NewA {a : Nat} {n : Int} (h0 : 0 ≤ n) (h1 : n ≤ 1000000) (he : rnd g I (gnx g) = .inl (a, n.toNat, arr0 a)) (K : gx k F t ls (.ref (gnx g) :: r) (mk (gC g 1 n.toNat) I) = R) : gx k (xNewA a :: F) t ls (.int (iI n) :: r) (mk g I) = R := by
  have e : (iI n).toNatClampNeg = n.toNat := iI_cl (by omega) (by omega)
  refine g_NewA ⟨by rw [iI_0, iI_le (by decide) (by decide) (by omega) (by omega)]; exact h0, by rw [e]; omega⟩ ?_
  rw [e, hnewA_mk he]
  exact K
theorem m_PutX {ci f p : Nat} {ty : FieldType} {fs : Vs} {v : Value} (hp : g.1 p = rawS ci fs) (hl : f < fs.length) (hv : okF ty v) (K : gx k F t ls r (mk (gS g p (rawS ci (vset fs f v))) I) = R) : gx k (xPut ci f ty :: F) t ls (v :: .ref p :: r) (mk g I) = R := by
  refine g_Put (fs := fs) (by show rc (g.1 p) _ _ _ _ = _; rw [hp]; rfl) hl hv ?_
  rw [← K]
  congr 1
  unfold hset mk
  refine Prod.ext (funext fun q => ?_) rfl
  show (if q = p then _ else rnd g I q) = rc (if q = p then rawS ci (vset fs f v) else g.1 q) _ _ _ _
  by_cases hq : q = p
  · rw [if_pos hq, if_pos hq]; rfl
  · rw [if_neg hq, if_neg hq]; rfl
theorem arr_i {p n : Nat} (h : g.1 p = .inl (0, n)) (hz : ∀ i, I p i = 0) : rnd g I p = .inl (0, n, arr0 0) := by
  unfold rnd
  rw [h, show I p = fun _ => 0 from funext hz]
  rfl
theorem arr_z {p n : Nat} (h : g.1 p = .inl (3, n)) (hz : ∀ i, I p i = 0) : rnd g I p = .inl (3, n, arr0 3) := by
  unfold rnd
  rw [h, show I p = fun _ => 0 from funext hz]
  rfl
theorem arr_l {p n : Nat} (h : g.1 p = .inl (1, n)) (hz : ∀ i, g.2.1 p i = 0) : rnd g I p = .inl (1, n, arr0 1) := by
  unfold rnd
  rw [h, show g.2.1 p = fun _ => 0 from funext hz]
  rfl
theorem arr_d {p n : Nat} (h : g.1 p = .inl (2, n)) (hz : ∀ i, g.2.2.1 p i = 0) : rnd g I p = .inl (2, n, arr0 2) := by
  unfold rnd
  rw [h, show g.2.2.1 p = fun _ => 0 from funext hz]
  rfl
theorem arr_q {p n : Nat} (h : g.1 p = .inl (4, n)) (hz : ∀ i, g.2.2.2.1 p i = none) : rnd g I p = .inl (4, n, arr0 4) := by
  unfold rnd
  rw [h, show g.2.2.2.1 p = fun _ => none from funext hz]
  rfl
/-- a row is made -/
theorem newRow {n : Int} (h0 : 0 ≤ n) (h1 : n ≤ 1000000) (hs : g.1 (gnx g) = sX2 (gnx g)) (ha : g.1 (gnx g + 1) = .inl (0, n.toNat)) (hz : ∀ i, I (gnx g + 1) i = 0) :
    cl 61 [.ref (gnx g), .int (iI n)] (mk (gS (gC g 1 1) (gnx g) (rawS 2 nfX2)) I) = some (.inl none, mk (gC g 2 (1 + n.toNat)) I) := by
  have hA : rnd (gS (gC g 1 1) (gnx g) (rawS 2 nfX2)) I (gnx (gS (gC g 1 1) (gnx g) (rawS 2 nfX2))) = .inl (0, n.toNat, arr0 0) :=
    arr_i (p := gnx g + 1) (by rw [gS_ne (by omega)]; exact ha) hz
  refine (c_61).trans (rn_gx ((bk_61 0).trans rfl) <| g_LdA rfl <| g_Obj (Nat.le_of_ble_eq_true rfl) <| g_LdA rfl <| m_C (z := 0) rfl <| g_Ld rfl <| m_Max (by decide) (by decide) (by omega) (by omega) (Nat.le_of_ble_eq_true rfl) ?_)
  rw [show max 0 n = n by omega]
  refine m_NewA h0 h1 hA <| m_PutX (fs := nfX2) gS_at (by decide) True.intro ?_
  refine g_RetV ?_
  congr 1
  refine Prod.ext rfl ?_
  show mk (gS (gS (gC (gC g 1 1) 1 n.toNat) (gnx g) (rawS 2 nfX2)) (gnx g) (rawS 2 [.ref (gnx g + 1)])) I = mk (gC g 2 (1 + n.toNat)) I
  rw [gS_gS]
  refine (mk_raw (tpl := [some (gnx g + 1)]) (by exact hs) rfl (fun _ _ => rfl)).trans ?_
  unfold gC
  simp only [Nat.add_assoc]
/-- a block that puts what was made into a field and makes the next row -/
theorem st_row {K b b' p ci f : Nat} {ty : FieldType} {fs : Vs} {rr : Nat} {n : Int} {nn : Int32} (hb : blk K b = ([xPut ci f ty, xLdA 0, xNew 2 nfX2, xDup, xC (.int nn)], tCi 61 2 1 b')) (hn : nn = iI n) (hl : f < fs.length) (hv : okF ty (.ref rr)) (h0 : 0 ≤ n) (h1 : n ≤ 1000000) (hp : ¬ gnx g = p) (hp1 : ¬ gnx g + 1 = p) (hs : g.1 (gnx g) = sX2 (gnx g)) (ha : g.1 (gnx g + 1) = .inl (0, n.toNat)) (hz : ∀ i, I (gnx g + 1) i = 0) :
    rn K b [some (.ref p)] [.ref rr, .ref p] (mk (gS g p (rawS ci fs)) I) = rn K b' [some (.ref p)] [.ref (gnx g), .ref p] (mk (gS (gC g 2 (1 + n.toNat)) p (rawS ci (vset fs f (.ref rr)))) I) := by
  refine rn_gx hb <| m_PutX gS_at hl hv ?_
  rw [gS_gS]
  refine g_LdA rfl <| m_New <| g_Dup rfl <| m_C hn ?_
  exact g_Ci (as := [.int (iI n)]) (v := none) rfl (Nat.le_of_ble_eq_true rfl) (Nat.le_of_ble_eq_true rfl) (newRow (g := gS g p (rawS ci (vset fs f (.ref rr)))) h0 h1 (by show (gS g p _).1 (gnx g) = sX2 (gnx g); rw [gS_ne hp]; exact hs) (by show (gS g p _).1 (gnx g + 1) = _; rw [gS_ne hp1]; exact ha) hz) rfl
theorem isR_sh {p : Nat} (h : isR g p) : g.1 (p + 1) = .inl (0, gn g (p + 1)) := gtn h.2.1 (by decide)
theorem newPiece (hp : isPc g (gnx g)) (hz : ∀ j : Nat, j ≤ 16 → ∀ i, I (gnx g + j) i = 0) (hst : isSt g I) (h2 : 2 ≤ gnx g) :
    cl 0 [.ref (gnx g)] (mk (gS (gC g 1 10) (gnx g) (rawS 0 nfX0)) I) = some (.inl none, mk (gC g 17 423) (bgM I (gnx g))) := by
  have hp' := hp
  obtain ⟨p_0, ⟨p_1, q_1, p_2⟩, ⟨p_3, q_3, p_4⟩, ⟨p_5, q_5, p_6⟩, ⟨p_7, q_7, p_8⟩, ⟨p_9, q_9, p_10⟩, ⟨p_11, q_11, p_12⟩, ⟨p_13, q_13, p_14⟩, ⟨p_15, q_15, p_16⟩⟩ := hp
  have a1 := isR_sh p_1
  have a3 := isR_sh p_3
  have a5 := isR_sh p_5
  have a7 := isR_sh p_7
  have a9 := isR_sh p_9
  have a11 := isR_sh p_11
  have a13 := isR_sh p_13
  have a15 := isR_sh p_15
  rw [p_2] at a1
  rw [p_4] at a3
  rw [p_6] at a5
  rw [p_8] at a7
  rw [p_10] at a9
  rw [p_12] at a11
  rw [p_14] at a13
  rw [p_16] at a15
  obtain ⟨q, hq⟩ : ∃ q, q = gnx g := ⟨_, rfl⟩
  have fin : rn 0 8 [some (.ref (gnx g))] [.ref (gnx g + 15), .ref (gnx g)] (mk (gS (gC g 17 423) (gnx g) (rawS 0 [.int 0, .int 0, .ref (gnx g + 1), .ref (gnx g + 3), .ref (gnx g + 5), .ref (gnx g + 7), .ref (gnx g + 9), .ref (gnx g + 11), .ref (gnx g + 13), .null])) I) = some (.inl none, mk (gC g 17 423) (bgM I (gnx g))) := by
    refine rn_gx ((bk_0 8).trans rfl) <| m_PutX gS_at (by show 9 < 10; decide) True.intro <| ?_
    rw [gS_gS]
    rw [show mk (gS (gC g 17 423) (gnx g) (rawS 0 (vset [.int 0, .int 0, .ref (gnx g + 1), .ref (gnx g + 3), .ref (gnx g + 5), .ref (gnx g + 7), .ref (gnx g + 9), .ref (gnx g + 11), .ref (gnx g + 13), .null] 9 (.ref (gnx g + 15))))) I = mk (gC g 17 423) I from mk_raw (g := gC g 17 423) (tpl := [none, none, some (gnx g + 1), some (gnx g + 3), some (gnx g + 5), some (gnx g + 7), some (gnx g + 9), some (gnx g + 11), some (gnx g + 13), some (gnx g + 15)]) p_0 (by
      have z0 : I (gnx g) 0 = 0 := hz 0 (by decide) 0
      have z1 : I (gnx g) (0 + 1) = 0 := hz 0 (by decide) 1
      simp only [rfld, z0, z1]
      rfl) (fun _ _ => rfl)]
    refine g_LdA rfl ?_
    refine (m_Cv (g := gC g 17 423) (k := 0) (m := 1) (nl := 2) (ci := 0) (n := 0) (b := 9) (hs := some []) (ls := [some (.ref (gnx g))]) (st := [.ref (gnx g)]) (as := []) (r := []) (p := gnx g) (fs := [none, none, some (gnx g + 1), some (gnx g + 3), some (gnx g + 5), some (gnx g + 7), some (gnx g + 9), some (gnx g + 11), some (gnx g + 13), some (gnx g + 15)]) rfl p_0 (Nat.le_of_ble_eq_true rfl) (Nat.le_of_ble_eq_true rfl)).trans ?_
    rw [s_begin (g := gC g 17 423) hp' hst h2, aft_n]
    exact rn_gx ((bk_0 9).trans rfl) <| g_RetV rfl
  refine (c_0).trans ?_
  refine (rn_gx ((bk_0 0).trans rfl) <| g_LdA rfl <| g_Obj (Nat.le_of_ble_eq_true rfl) <| g_LdA rfl <| m_New <| g_Dup rfl <| m_C (z := 40) rfl <| g_Ci (as := [.int (iI 40)]) (v := none) rfl (Nat.le_of_ble_eq_true rfl) (Nat.le_of_ble_eq_true rfl) (newRow (g := gS (gC g 1 10) (gnx g) (rawS 0 nfX0)) (n := 40) (by decide) (by decide) (by show (gS (gC g 1 10) (gnx g) _).1 (gnx g + 1) = sX2 (gnx g + 1); rw [gS_ne (by omega)]; exact q_1) (by show (gS (gC g 1 10) (gnx g) _).1 (gnx g + 1 + 1) = _; rw [gS_ne (by omega)]; exact a1) (hz 2 (by decide))) ?_)
  refine (st_row (g := gC g 3 51) (K := 0) (b := 1) (b' := 2) (p := gnx g) (ci := 0) (f := 2) (fs := nfX0) (rr := gnx g + 1) (n := 40) ((bk_0 1).trans rfl) rfl (by decide) True.intro (by decide) (by decide) (by show ¬ gnx g + 3 = gnx g; omega) (by show ¬ gnx g + 3 + 1 = gnx g; omega) q_3 a3 (hz 4 (by decide))).trans ?_
  refine (st_row (g := gC g 5 92) (K := 0) (b := 2) (b' := 3) (p := gnx g) (ci := 0) (f := 3) (fs := [.int 0, .int 0, .ref (gnx g + 1), .null, .null, .null, .null, .null, .null, .null]) (rr := gnx g + 3) (n := 120) ((bk_0 2).trans rfl) rfl (by show 3 < 10; decide) True.intro (by decide) (by decide) (by show ¬ gnx g + 5 = gnx g; omega) (by show ¬ gnx g + 5 + 1 = gnx g; omega) q_5 a5 (hz 6 (by decide))).trans ?_
  refine (st_row (g := gC g 7 213) (K := 0) (b := 3) (b' := 4) (p := gnx g) (ci := 0) (f := 4) (fs := [.int 0, .int 0, .ref (gnx g + 1), .ref (gnx g + 3), .null, .null, .null, .null, .null, .null]) (rr := gnx g + 5) (n := 120) ((bk_0 3).trans rfl) rfl (by show 4 < 10; decide) True.intro (by decide) (by decide) (by show ¬ gnx g + 7 = gnx g; omega) (by show ¬ gnx g + 7 + 1 = gnx g; omega) q_7 a7 (hz 8 (by decide))).trans ?_
  refine (st_row (g := gC g 9 334) (K := 0) (b := 4) (b' := 5) (p := gnx g) (ci := 0) (f := 5) (fs := [.int 0, .int 0, .ref (gnx g + 1), .ref (gnx g + 3), .ref (gnx g + 5), .null, .null, .null, .null, .null]) (rr := gnx g + 7) (n := 10) ((bk_0 4).trans rfl) rfl (by show 5 < 10; decide) True.intro (by decide) (by decide) (by show ¬ gnx g + 9 = gnx g; omega) (by show ¬ gnx g + 9 + 1 = gnx g; omega) q_9 a9 (hz 10 (by decide))).trans ?_
  refine (st_row (g := gC g 11 345) (K := 0) (b := 5) (b' := 6) (p := gnx g) (ci := 0) (f := 6) (fs := [.int 0, .int 0, .ref (gnx g + 1), .ref (gnx g + 3), .ref (gnx g + 5), .ref (gnx g + 7), .null, .null, .null, .null]) (rr := gnx g + 9) (n := 25) ((bk_0 5).trans rfl) rfl (by show 6 < 10; decide) True.intro (by decide) (by decide) (by show ¬ gnx g + 11 = gnx g; omega) (by show ¬ gnx g + 11 + 1 = gnx g; omega) q_11 a11 (hz 12 (by decide))).trans ?_
  refine (st_row (g := gC g 13 371) (K := 0) (b := 6) (b' := 7) (p := gnx g) (ci := 0) (f := 7) (fs := [.int 0, .int 0, .ref (gnx g + 1), .ref (gnx g + 3), .ref (gnx g + 5), .ref (gnx g + 7), .ref (gnx g + 9), .null, .null, .null]) (rr := gnx g + 11) (n := 25) ((bk_0 6).trans rfl) rfl (by show 7 < 10; decide) True.intro (by decide) (by decide) (by show ¬ gnx g + 13 = gnx g; omega) (by show ¬ gnx g + 13 + 1 = gnx g; omega) q_13 a13 (hz 14 (by decide))).trans ?_
  refine (st_row (g := gC g 15 397) (K := 0) (b := 7) (b' := 8) (p := gnx g) (ci := 0) (f := 8) (fs := [.int 0, .int 0, .ref (gnx g + 1), .ref (gnx g + 3), .ref (gnx g + 5), .ref (gnx g + 7), .ref (gnx g + 9), .ref (gnx g + 11), .null, .null]) (rr := gnx g + 13) (n := 25) ((bk_0 7).trans rfl) rfl (by show 8 < 10; decide) True.intro (by decide) (by decide) (by show ¬ gnx g + 15 = gnx g; omega) (by show ¬ gnx g + 15 + 1 = gnx g; omega) q_15 a15 (hz 16 (by decide))).trans ?_
  exact fin
end AL
