/-! The law begins. -/
def lsI (I : Mm) (p : Nat) : Mm := upd2 (bgM (bgM I (p + 1)) (p + 18)) (p + 75) 3 (-1)
def lsJ (I : Mm) (p : Nat) : Mm := bgW (upd2 (lsI I p) (p + 86) 16 (-1)) (p + 86)
section ST
variable {g : Gm} {I : Mm} {s : Nat}
theorem lsI_o {p r : Nat} (h : r < p + 1 ∨ p + 75 < r) : lsI I p r = I r := by
  have e : lsI I p r = bgM (bgM I (p + 1)) (p + 18) r := by unfold lsI; exact funext fun j => upd2_p (by omega)
  rw [e, bgM_o (by omega) (by omega) (by omega) (by omega) (by omega), bgM_o (by omega) (by omega) (by omega) (by omega) (by omega)]
theorem law_start (hp : isH g (gnx g)) (hm : isM g (gnx g + 86)) (hst : isSt g I) (h2 : 2 ≤ gnx g) (hz : ∀ p, gnx g ≤ p → ∀ i, I p i = 0) (hL : ∀ p, gnx g ≤ p → ∀ i, g.2.1 p i = 0) (hD : ∀ p, gnx g ≤ p → ∀ i, g.2.2.1 p i = 0) (hQ : ∀ p, gnx g ≤ p → ∀ i, g.2.2.2.1 p i = none) (a1 : g.1 (gnx g + 105) = .inl (1, 1)) (a2 : g.1 (gnx g + 106) = .inl (2, 1)) :
    cl 291 [.ref s] (mk g I) = rn 291 3 [some (.ref s), some (.ref (gnx g)), some (.ref (gnx g + 86)), some (.ref (gnx g + 105)), some (.ref (gnx g + 106)), some (.int (iI 0)), none, none, none] [] (mk (gC g 107 24543) (lsJ I (gnx g))) := by
  have nh := newHand (g := g) (I := I) hp (fun j hj i => hz _ (by omega) i) hst h2 (fun i => ⟨hL _ (by omega) i, hL _ (by omega) i⟩) (fun i => ⟨hQ _ (by omega) i, hQ _ (by omega) i⟩)
  have nm := newModel (g := gC g 86 16430) (I := lsI I (gnx g)) (isM_e (g := g) rfl hm) (fun j hj i => by
    show lsI I (gnx g) (gnx g + 86 + j) i = 0
    rw [lsI_o (by omega)]; exact hz _ (by omega) i) (fun j h1 h3 i => hL _ (by show gnx g ≤ gnx g + 86 + j; omega) i)
  have e1 : rnd (gC g 105 24541) (lsJ I (gnx g)) (gnx (gC g 105 24541)) = .inl (1, (1 : Int).toNat, arr0 1) := arr_l (g := gC g 105 24541) (by show g.1 (gnx g + 105) = _; exact a1) (fun i => hL _ (by show gnx g ≤ gnx g + 105; omega) i)
  have e2 : rnd (gC g 106 24542) (lsJ I (gnx g)) (gnx (gC g 106 24542)) = .inl (2, (1 : Int).toNat, arr0 2) := arr_d (g := gC g 106 24542) (by show g.1 (gnx g + 106) = _; exact a2) (fun i => hD _ (by show gnx g ≤ gnx g + 106; omega) i)
  refine (c_291).trans ?_
  refine (rn_gx ((bk_291 0).trans rfl) <| m_New <| g_Dup rfl ?_)
  refine g_Ci (as := []) (v := none) rfl (Nat.le_of_ble_eq_true rfl) (Nat.le_of_ble_eq_true rfl) nh ?_
  refine (rn_gx ((bk_291 1).trans rfl) <| g_StA rfl <| m_New <| g_Dup rfl ?_)
  refine g_Ci (as := []) (v := none) rfl (Nat.le_of_ble_eq_true rfl) (Nat.le_of_ble_eq_true rfl) nm ?_
  refine (rn_gx ((bk_291 2).trans rfl) <| g_StA rfl <| m_C (z := 1) rfl <| m_NewA (g := gC g 105 24541) (by decide) (by decide) e1 <| g_StA rfl <| m_C (z := 1) rfl <| m_NewA (g := gC g 106 24542) (by decide) (by decide) e2 <| g_StA rfl <| m_C (z := 0) rfl <| g_St rfl <| g_Go rfl)
end ST
