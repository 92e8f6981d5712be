section ARR
variable {own : String} {cc : ByteArray} {nL : Nat} {mn : String} {rq : Nat × Nat} {pc : Nat}
theorem vin_in {i : Int32} {n : Nat} (h : vin i n) : vp_in i n := by
  rintro (h1 | h1)
  · have h2 := Int32.le_iff_toInt_le.mp h.1
    have h3 := Int32.lt_iff_toInt_lt.mp h1
    omega
  · have := h.2
    omega
theorem arr_own {xc : Nat → va_E} {h : Hp} {p t n : Nat} {x : (Nat → Int32) ⊕ (Nat → Int64) ⊕ (Nat → UInt32) ⊕ (Nat → UInt64) ⊕ (Nat → Option Nat)} (hx : xOk xc) (hw : wfh xc h) (hp : h.1 p = .inl (t, n, x)) (ht : t ≠ 7 ∧ t ≠ 8 ∧ t ≠ 9 ∧ t ≠ 10) : 64 ≤ p := own_at hx hw (fun t' n' f q => by rw [hp] at q; cases q; exact ht)
theorem catS_cv {ad : Nat → Nat} : ∀ (r : Vs), ((r.map (cv ad)).map fun v => v.category).sum = catS r
  | [] => rfl
  | v :: r => by
    have ih := catS_cv (ad := ad) r
    unfold catS at ih ⊢
    simp only [List.map_cons, List.sum_cons]
    rw [ih, cv_cat]
theorem sum_le {ad : Nat → Nat} {r : Vs} (h : catS r ≤ 8) : ((r.map (cv ad)).map fun v => v.category).sum ≤ 8 := by
  rw [catS_cv]; exact h
theorem s_iald (hd : decode cc pc = .ok (.iaload, 1)) : SimX own cc nL mn rq pc 1 xAld := by
  refine simP ?_
  intro ls st h ls' st' h' he
  unfold xAld at he
  split at he
  · rename_i i p r
    split at he
    · rename_i t n f hp
      split at he
      · rename_i hc
        cases he
        refine ⟨rfl, rfl, ?_⟩
        intro G pp l e R s m args below meth c A Q C hR ad H locs lsR c0 s0 g hcc hss
        have g4 := g.2.2.2.1
        have g5 := g.2.2.2.2.1
        refine ⟨ok_c okV_i (ok_t (ok_t g5)), fun k => ?_⟩
        have hx := C.2.2.2.2.2.2.2.2.2.2.2
        rcases Nat.lt_or_ge p 64 with hp64 | hp64
        · obtain ⟨t', n', f', e1, e2⟩ := hx.1 p hp64
          have e3 := g4.2.1 p hp64
          rw [hp] at e3
          have e4 := e3.trans e1
          cases e4
          have ht : t = 7 := by
            rcases e2 with q2 | q2
            · exact q2
            · rcases hc.1 with q | q
              · subst q; exact absurd q2 (by decide)
              · exact q
          subst ht
          obtain ⟨x1, x2⟩ := C.2.2.2.2.2.2.1.1 p n f hp64 e1
          have ha := g.2.2.2.2.2.2.2.2.2 p hp64
          rw [List.map_cons, List.map_cons]
          show W _ _ _ _ _ _ _ _ _ _ _ _ _ _ _ (F0 m pc lsR (.int i :: .ref (ad p) :: r.map (cv ad)))
          rw [ha]
          exact va_sld C.1 C.2.1 x1 x1.lt x2 g.2.2.1 (vin_in hc.2) hd k
        · have hlt := g5 _ (List.mem_cons_of_mem _ List.mem_cons_self) _ rfl
          have hok := g4.2.2 _ hp64 hlt
          rw [hp] at hok
          have ht4 : t ≤ 4 := hok
          have ht : t = 0 := by
            rcases hc.1 with q | q
            · exact q
            · subst q; exact absurd ht4 (by decide)
          subst ht
          have hat := wl_at (tA := G.2.2.1) (ad := ad) hp64 hlt
          rw [hp] at hat
          exact va_iald C.1 C.2.1 C.2.2.2.2.2.1 g.1 _ 0 hat rfl (vin_in hc.2) hd k
      · cases he
    · cases he
  · cases he
theorem s_laload (hd : decode cc pc = .ok (.laload, 1)) : SimX own cc nL mn rq pc 1 xLld := by
  refine simP ?_
  intro ls st h ls' st' h' he
  unfold xLld at he
  split at he
  · rename_i i p r
    split at he
    · rename_i t n f hp
      split at he
      · rename_i hc
        obtain ⟨rfl, hin⟩ := hc
        cases he
        refine ⟨rfl, rfl, ?_⟩
        intro G pp l e R s m args below meth c A Q C hR ad H locs lsR c0 s0 g hcc hss
        have g4 := g.2.2.2.1
        have g5 := g.2.2.2.2.1
        refine ⟨ok_c okV_l (ok_t (ok_t g5)), fun k => ?_⟩
        have hp64 := arr_own C.2.2.2.2.2.2.2.2.2.2.2 g4 hp (by decide)
        have hat := wl_at (tA := G.2.2.1) (ad := ad) hp64 (g5 _ (List.mem_cons_of_mem _ List.mem_cons_self) _ rfl)
        rw [hp] at hat
        exact va_lald C.1 C.2.1 C.2.2.2.2.2.1 g.1 _ 1 hat rfl (vin_in hin) hd k
      · cases he
    · cases he
  · cases he
theorem s_daload (hd : decode cc pc = .ok (.daload, 1)) : SimX own cc nL mn rq pc 1 xDld := by
  refine simP ?_
  intro ls st h ls' st' h' he
  unfold xDld at he
  split at he
  · rename_i i p r
    split at he
    · rename_i t n f hp
      split at he
      · rename_i hc
        obtain ⟨rfl, hin⟩ := hc
        cases he
        refine ⟨rfl, rfl, ?_⟩
        intro G pp l e R s m args below meth c A Q C hR ad H locs lsR c0 s0 g hcc hss
        have g4 := g.2.2.2.1
        have g5 := g.2.2.2.2.1
        refine ⟨ok_c okV_d (ok_t (ok_t g5)), fun k => ?_⟩
        have hp64 := arr_own C.2.2.2.2.2.2.2.2.2.2.2 g4 hp (by decide)
        have hat := wl_at (tA := G.2.2.1) (ad := ad) hp64 (g5 _ (List.mem_cons_of_mem _ List.mem_cons_self) _ rfl)
        rw [hp] at hat
        exact va_dald C.1 C.2.1 C.2.2.2.2.2.1 g.1 _ 2 hat rfl (vin_in hin) hd k
      · cases he
    · cases he
  · cases he
theorem s_zaload (hd : decode cc pc = .ok (.baload, 1)) : SimX own cc nL mn rq pc 1 xZld := by
  refine simP ?_
  intro ls st h ls' st' h' he
  unfold xZld at he
  split at he
  · rename_i i p r
    split at he
    · rename_i t n f hp
      split at he
      · rename_i hc
        obtain ⟨rfl, hin⟩ := hc
        cases he
        refine ⟨rfl, rfl, ?_⟩
        intro G pp l e R s m args below meth c A Q C hR ad H locs lsR c0 s0 g hcc hss
        have g4 := g.2.2.2.1
        have g5 := g.2.2.2.2.1
        refine ⟨ok_c okV_i (ok_t (ok_t g5)), fun k => ?_⟩
        have hp64 := arr_own C.2.2.2.2.2.2.2.2.2.2.2 g4 hp (by decide)
        have hat := wl_at (tA := G.2.2.1) (ad := ad) hp64 (g5 _ (List.mem_cons_of_mem _ List.mem_cons_self) _ rfl)
        rw [hp] at hat
        exact va_zald C.1 C.2.1 C.2.2.2.2.2.1 g.1 _ 3 hat rfl (vin_in hin) hd k
      · cases he
    · cases he
  · cases he
theorem cv_rf {ad : Nat → Nat} {o : Option Nat} : cv ad (va_rf o) = va_rf (o.map ad) := by cases o <;> rfl
theorem s_aaload (hd : decode cc pc = .ok (.aaload, 1)) : SimX own cc nL mn rq pc 1 xQld := by
  refine simP ?_
  intro ls st h ls' st' h' he
  unfold xQld at he
  split at he
  · rename_i i p r
    split at he
    · rename_i t n f hp
      split at he
      · rename_i hc
        obtain ⟨rfl, hin⟩ := hc
        cases he
        refine ⟨rfl, rfl, ?_⟩
        intro G pp l e R s m args below meth c A Q C hR ad H locs lsR c0 s0 g hcc hss
        have g4 := g.2.2.2.1
        have g5 := g.2.2.2.2.1
        have hp64 := arr_own C.2.2.2.2.2.2.2.2.2.2.2 g4 hp (by decide)
        have hlt := g5 _ (List.mem_cons_of_mem _ List.mem_cons_self) _ rfl
        have hat := wl_at (tA := G.2.2.1) (ad := ad) hp64 hlt
        rw [hp] at hat
        have hok := g4.2.2 _ hp64 hlt
        rw [hp] at hok
        refine ⟨ok_c (fun q hq => ?_) (ok_t (ok_t g5)), fun k => ?_⟩
        · cases hf : f i.toNatClampNeg with
          | none => rw [hf] at hq; cases hq
          | some y => rw [hf] at hq; cases hq; exact hok.2 _ _ hf
        · refine va_aldq C.1 C.2.1 C.2.2.2.2.2.1 g.1 _ 4 hat rfl (vin_in hin) hd ?_
          rw [List.map_cons, cv_rf] at k
          exact k
      · cases he
    · cases he
  · cases he
/-- a step that writes a cell -/
theorem simS {len : Nat} {f : XF}
    (hf : ∀ {ls : Lo} {st : Vs} {h : Hp} {ls' : Lo} {st' : Vs} {h' : Hp}, f ls st h = some (ls', st', h') → ls' = ls ∧ ∃ (q : Nat) (e0 : va_E), h' = hset h q e0 ∧ (∀ v ∈ st', v ∈ st) ∧
      ∀ (G : GG) {p : Program} {l : Launch} {e : Env} {R : Room} {s : State} {m : MethodId} {args : Array Value} {below : List Frame} {meth : Method} {c : Code} {A : Nat → Prop} {Q : State → Prop} (_ : Cx G own cc nL mn p l s m meth c A) (_ : rq.1 ≤ R.frames ∧ rq.2 ≤ R.locals)
        {ad : Nat → Nat} {H : Heap} {locs : List Loc} {lsR : Array Slot} {c0 s0 : Nat}, Gd G ad nL ls st h A s.heap H locs lsR c0 s0 → 64 ≤ q ∧ okE h.2.1 e0 ∧
        ((∀ (H1 : Heap) (locs1 : List Loc), va_P (G.1, G.2.1) vwCl ((wl G.2.2.1 ad h).set (q - 64) (ad q, cE G.2.2.1 ad e0)) H1 → va_D A ((wl G.2.2.1 ad h).set (q - 64) (ad q, cE G.2.2.1 ad e0)) → va_S A s.heap H1 locs1 → W p l e R s m args below meth c H1 locs1 (h.2.2.1 - c0) (h.2.2.2 - s0) Q (F0 m (pc + len) lsR (st'.map (cv ad)))) → W p l e R s m args below meth c H locs (h.2.2.1 - c0) (h.2.2.2 - s0) Q (F0 m pc lsR (st.map (cv ad))))) :
    SimX own cc nL mn rq pc len f := by
  intro ls st h ls' st' h' he
  obtain ⟨rfl, q, e0, rfl, hsub, hk⟩ := hf he
  refine ⟨⟨Nat.le_refl _, Nat.le_refl _, Nat.le_refl _⟩, ?_⟩
  intro G p l e R s m args below meth c A Q C hR ad H locs lsR c0 s0 g hc hs k
  obtain ⟨h1, h2, h3⟩ := hk G (e := e) (args := args) (below := below) (Q := Q) C hR g
  exact h3 (fun H1 locs1 hP hD hS => k ad H1 locs1 lsR (fun _ _ => rfl) (gd_set g hsub h1 h2 hP hD hS))
theorem mem3 {v : Value} {a b c : Value} {r : Vs} (h : v ∈ r) : v ∈ a :: b :: c :: r := List.mem_cons_of_mem _ (List.mem_cons_of_mem _ (List.mem_cons_of_mem _ h))
theorem s_iast (hd : decode cc pc = .ok (.iastore, 1)) : SimX own cc nL mn rq pc 1 xAst := by
  refine simS ?_
  intro ls st h ls' st' h' he
  unfold xAst at he
  split at he
  · rename_i x i p r
    split at he
    · rename_i t n f hp
      split at he
      · rename_i hc
        obtain ⟨rfl, hin⟩ := hc
        cases he
        refine ⟨rfl, p, _, rfl, fun v hv => mem3 hv, ?_⟩
        intro G pp l e R s m args below meth c A Q C hR ad H locs lsR c0 s0 g
        have g4 := g.2.2.2.1
        have g5 := g.2.2.2.2.1
        have hp64 := arr_own C.2.2.2.2.2.2.2.2.2.2.2 g4 hp (by decide)
        have hat := wl_at (tA := G.2.2.1) (ad := ad) hp64 (g5 _ (List.mem_cons_of_mem _ (List.mem_cons_of_mem _ List.mem_cons_self)) _ rfl)
        rw [hp] at hat
        exact ⟨hp64, Nat.zero_le _, fun k => va_iast C.1 C.2.1 C.2.2.2.2.2.1 g.1 g.2.1 g.2.2.1 _ 0 hat rfl (vin_in hin) hd k⟩
      · cases he
    · cases he
  · cases he
theorem s_last (hd : decode cc pc = .ok (.lastore, 1)) : SimX own cc nL mn rq pc 1 xLst := by
  refine simS ?_
  intro ls st h ls' st' h' he
  unfold xLst at he
  split at he
  · rename_i x i p r
    split at he
    · rename_i t n f hp
      split at he
      · rename_i hc
        obtain ⟨rfl, hin⟩ := hc
        cases he
        refine ⟨rfl, p, _, rfl, fun v hv => mem3 hv, ?_⟩
        intro G pp l e R s m args below meth c A Q C hR ad H locs lsR c0 s0 g
        have g4 := g.2.2.2.1
        have g5 := g.2.2.2.2.1
        have hp64 := arr_own C.2.2.2.2.2.2.2.2.2.2.2 g4 hp (by decide)
        have hat := wl_at (tA := G.2.2.1) (ad := ad) hp64 (g5 _ (List.mem_cons_of_mem _ (List.mem_cons_of_mem _ List.mem_cons_self)) _ rfl)
        rw [hp] at hat
        exact ⟨hp64, (by decide : 1 ≤ 4), fun k => va_last C.1 C.2.1 C.2.2.2.2.2.1 g.1 g.2.1 g.2.2.1 _ 1 hat rfl (vin_in hin) hd k⟩
      · cases he
    · cases he
  · cases he
theorem s_dast (hd : decode cc pc = .ok (.dastore, 1)) : SimX own cc nL mn rq pc 1 xDst := by
  refine simS ?_
  intro ls st h ls' st' h' he
  unfold xDst at he
  split at he
  · rename_i x i p r
    split at he
    · rename_i t n f hp
      split at he
      · rename_i hc
        obtain ⟨rfl, hin⟩ := hc
        cases he
        refine ⟨rfl, p, _, rfl, fun v hv => mem3 hv, ?_⟩
        intro G pp l e R s m args below meth c A Q C hR ad H locs lsR c0 s0 g
        have g4 := g.2.2.2.1
        have g5 := g.2.2.2.2.1
        have hp64 := arr_own C.2.2.2.2.2.2.2.2.2.2.2 g4 hp (by decide)
        have hat := wl_at (tA := G.2.2.1) (ad := ad) hp64 (g5 _ (List.mem_cons_of_mem _ (List.mem_cons_of_mem _ List.mem_cons_self)) _ rfl)
        rw [hp] at hat
        exact ⟨hp64, (by decide : 2 ≤ 4), fun k => va_dast C.1 C.2.1 C.2.2.2.2.2.1 g.1 g.2.1 g.2.2.1 _ 2 hat rfl (vin_in hin) hd k⟩
      · cases he
    · cases he
  · cases he
theorem s_zast (hd : decode cc pc = .ok (.bastore, 1)) : SimX own cc nL mn rq pc 1 xZst := by
  refine simS ?_
  intro ls st h ls' st' h' he
  unfold xZst at he
  split at he
  · rename_i x i p r
    split at he
    · rename_i t n f hp
      split at he
      · rename_i hc
        obtain ⟨rfl, hin, hx⟩ := hc
        cases he
        refine ⟨rfl, p, _, rfl, fun v hv => mem3 hv, ?_⟩
        intro G pp l e R s m args below meth c A Q C hR ad H locs lsR c0 s0 g
        have g4 := g.2.2.2.1
        have g5 := g.2.2.2.2.1
        have hp64 := arr_own C.2.2.2.2.2.2.2.2.2.2.2 g4 hp (by decide)
        have hat := wl_at (tA := G.2.2.1) (ad := ad) hp64 (g5 _ (List.mem_cons_of_mem _ (List.mem_cons_of_mem _ List.mem_cons_self)) _ rfl)
        rw [hp] at hat
        have hn : vp_nar .boolean x = x := by rcases hx with rfl | rfl <;> decide
        refine ⟨hp64, (by decide : 3 ≤ 4), fun k => ?_⟩
        refine va_zast (x := x) C.1 C.2.1 C.2.2.2.2.2.1 g.1 g.2.1 g.2.2.1 _ 3 hat rfl (vin_in hin) hd ?_
        rw [hn]
        exact k
      · cases he
    · cases he
  · cases he
theorem s_aast (hd : decode cc pc = .ok (.aastore, 1)) : SimX own cc nL mn rq pc 1 xQst := by
  refine simS ?_
  intro ls st h ls' st' h' he
  unfold xQst at he
  split at he
  · rename_i x i p r
    split at he
    · rename_i t n f c vs hp hx
      split at he
      · rename_i hc
        obtain ⟨rfl, hin, rfl⟩ := hc
        cases he
        refine ⟨rfl, p, _, rfl, fun v hv => mem3 hv, ?_⟩
        intro G pp l e R s m args below meth c A Q C hR ad H locs lsR c0 s0 g
        have g4 := g.2.2.2.1
        have g5 := g.2.2.2.2.1
        have hp64 := arr_own C.2.2.2.2.2.2.2.2.2.2.2 g4 hp (by decide)
        have hlt := g5 _ (List.mem_cons_of_mem _ (List.mem_cons_of_mem _ List.mem_cons_self)) _ rfl
        have hat := wl_at (tA := G.2.2.1) (ad := ad) hp64 hlt
        rw [hp] at hat
        have hx64 := obj_own C.2.2.2.2.2.2.2.2.2.2.2 g4 hx
        have hxl := g5 _ List.mem_cons_self _ rfl
        have hxt := wl_at (tA := G.2.2.1) (ad := ad) hx64 hxl
        rw [hx] at hxt
        have hok := g4.2.2 _ hp64 hlt
        rw [hp] at hok
        have hup : (fun j => (va_up f i.toNatClampNeg (some x) j).map ad) = va_up (fun j => (f j).map ad) i.toNatClampNeg (some (ad x)) := by
          funext j
          unfold va_up
          by_cases hj : j = i.toNatClampNeg
          · simp [hj]
          · simp [hj]
        refine ⟨hp64, ⟨by decide, fun j q hq => ?_⟩, fun k => ?_⟩
        · unfold va_up at hq
          by_cases hj : j = i.toNatClampNeg
          · rw [if_pos hj] at hq; cases hq; exact hxl
          · rw [if_neg hj] at hq; exact hok.2 _ _ hq
        · refine va_astq (r := (RX0, TX0, 10)) C.1 C.2.1 C.2.2.2.2.2.1 g.1 g.2.1 g.2.2.1 _ 4 _ 0 hat rfl hxt rfl (vin_in hin) hd ?_
          rw [← hup]
          exact k
      · cases he
    · cases he
  · cases he
theorem s_alen (hd : decode cc pc = .ok (.arraylength, 1)) : SimX own cc nL mn rq pc 1 xLen := by
  refine simP ?_
  intro ls st h ls' st' h' he
  unfold xLen at he
  split at he
  · rename_i p r
    split at he
    · rename_i t n x hp
      split at he
      · rename_i hc
        cases he
        refine ⟨rfl, rfl, ?_⟩
        intro G pp l e R s m args below meth c A Q C hR ad H locs lsR c0 s0 g hcc hss
        have g4 := g.2.2.2.1
        have g5 := g.2.2.2.2.1
        refine ⟨ok_c okV_i (ok_t g5), fun k => ?_⟩
        have hx := C.2.2.2.2.2.2.2.2.2.2.2
        rcases Nat.lt_or_ge p 64 with hp64 | hp64
        · obtain ⟨t', n', f', e1, e2⟩ := hx.1 p hp64
          have e3 := g4.2.1 p hp64
          rw [hp] at e3
          have e4 := e3.trans e1
          cases e4
          have ht : t = 7 := by
            rcases e2 with q2 | q2
            · exact q2
            · rcases hc with q | q | q | q
              · subst q; exact absurd q2 (by decide)
              · subst q; exact absurd q2 (by decide)
              · subst q; exact absurd q2 (by decide)
              · exact q
          subst ht
          obtain ⟨x1, x2⟩ := C.2.2.2.2.2.2.1.1 p n f' hp64 e1
          have ha := g.2.2.2.2.2.2.2.2.2 p hp64
          rw [List.map_cons]
          show W _ _ _ _ _ _ _ _ _ _ _ _ _ _ _ (F0 m pc lsR (.ref (ad p) :: r.map (cv ad)))
          rw [ha]
          exact va_slen C.1 C.2.1 x1 x1.lt x2 g.2.2.1 hd k
        · have hlt := g5 _ List.mem_cons_self _ rfl
          have hok := g4.2.2 _ hp64 hlt
          rw [hp] at hok
          have hat := wl_at (tA := G.2.2.1) (ad := ad) hp64 hlt
          rw [hp] at hat
          have key : ∀ (x' : (Nat → Int32) ⊕ (Nat → Int64) ⊕ (Nat → UInt32) ⊕ (Nat → UInt64) ⊕ (Nat → Option Nat)), cE G.2.2.1 ad (.inl (t, n, x)) = .inl (G.2.2.1 t, n, x') → t ≤ 4 → W pp l e R s m args below meth c H locs (h.2.2.1 - c0) (h.2.2.2 - s0) Q (F0 m pc lsR (.ref (ad p) :: r.map (cv ad))) := by
            intro x' hx' ht
            rw [hx'] at hat
            have ht : t = 0 ∨ t = 1 ∨ t = 4 := by
              rcases hc with q | q | q | q
              · exact Or.inl q
              · exact Or.inr (Or.inl q)
              · exact Or.inr (Or.inr q)
              · subst q; exact absurd ht (by decide)
            rcases ht with rfl | rfl | rfl
            · exact va_alen C.1 C.2.1 C.2.2.2.2.2.1 g.1 _ 0 hat rfl rfl hd k
            · exact va_alen C.1 C.2.1 C.2.2.2.2.2.1 g.1 _ 1 hat rfl rfl hd k
            · exact va_alen C.1 C.2.1 C.2.2.2.2.2.1 g.1 _ 4 hat rfl rfl hd k
          match x, hok, key with
          | .inl f, hok, key => exact key _ rfl hok
          | .inr (.inl f), hok, key => exact key _ rfl hok
          | .inr (.inr (.inl f)), hok, key => exact key _ rfl hok
          | .inr (.inr (.inr (.inl f))), hok, key => exact key _ rfl hok
          | .inr (.inr (.inr (.inr f))), hok, key => exact key _ rfl hok.1
      · cases he
    · cases he
  · cases he
/-- a new array of numbers -/
theorem s_newa {t : Nat} {at' : ArrayType} {ty : FieldType} (hd : decode cc pc = .ok (.newarray at', 2)) (hty : newarray.typeOf at' = ty) (hw : Cond.arrayClass ty ∈ lw_tbl) (ht : ∀ tA, (gty tA)[t]? = some (tA t, ty)) (ha : ∀ (N : Nat) (cA : ClassId), vp_cell cA (N, arr0 t) = arrV cA N (fun _ => defaultValue ty))
    (hra : ∀ (U : State) (cA : ClassId), va_RA U cA ty → U.vm.findClass ("[" ++ ty.toString) = some cA) (hb : componentBytes ty ≤ 8) (h4 : t ≤ 4) (hce : ∀ tA ad N, cE tA ad (.inl (t, N, arr0 t)) = .inl (tA t, N, arr0 t)) (hoe : ∀ n N, okE n (.inl (t, N, arr0 t))) : SimX own cc nL mn rq pc 2 (xNewA t) := by
  intro ls st h ls' st' h' he
  unfold xNewA at he
  split at he
  · rename_i n r
    split at he
    · rename_i hn
      cases he
      refine ⟨⟨by show h.2.1 ≤ h.2.1 + 1; omega, by show h.2.2.1 ≤ h.2.2.1 + 1; omega, by show h.2.2.2 ≤ h.2.2.2 + _; omega⟩, ?_⟩
      intro G p l e R s m args below meth c A Q C hR ad H locs lsR c0 s0 g hc hs k1
      have hc1 : h.2.2.1 + 1 - c0 ≤ R.cells := hc
      have hs1 : h.2.2.2 + n.toNatClampNeg - s0 ≤ R.slots := hs
      have g8 := g.2.2.2.2.2.2.2.1
      have g9 := g.2.2.2.2.2.2.2.2.1
      have hneg : ¬ n < 0 := by
        intro q
        have h2 := Int32.le_iff_toInt_le.mp hn.1
        have h3 := Int32.lt_iff_toInt_lt.mp q
        omega
      have hbb : n.toNatClampNeg * componentBytes ty ≤ 536870912 := Nat.le_trans (Nat.mul_le_mul hn.2 hb) (by decide)
      refine va_newa (atype := at') (N' := n.toNatClampNeg) (a0 := (n.toNatClampNeg, arr0 t)) C.1 C.2.1 (C.2.2.2.2.1 _ (by rw [hty]; exact hw) (by rfl) _) hty C.2.2.2.2.2.1 g.1 g.2.1 g.2.2.1 C.2.2.2.2.2.2.2.1 (ha _) hneg rfl hbb (by omega) (by omega) hd ?_
      intro q cA H1 hK hP hD hS
      have e0 : cA = G.2.2.1 t := by
        have x1 := hra _ _ (hK.2 5 (cA, ty) (by simp [gty])).2
        have x2 := hra _ _ (C.2.2.2.2.2.1.2 t (G.2.2.1 t, ty) (ht _)).2
        rw [x1] at x2
        exact Option.some.inj x2
      rw [e0, ← hce G.2.2.1 ad] at hP hD
      obtain ⟨q1, q2⟩ := gd_new (e := .inl (t, n.toNatClampNeg, arr0 t)) (n := n.toNatClampNeg) (r := r) g (fun _ h => List.mem_cons_of_mem _ h) (hoe _ _) hP hD hS
      have K := k1 _ H1 locs lsR (fun x hx => if_neg (by omega)) q1
      have e1 : h.2.2.1 - c0 + 1 = (hnew h (.inl (t, n.toNatClampNeg, arr0 t)) n.toNatClampNeg).2.2.1 - c0 := by show _ = h.2.2.1 + 1 - c0; omega
      have e2 : h.2.2.2 - s0 + n.toNatClampNeg = (hnew h (.inl (t, n.toNatClampNeg, arr0 t)) n.toNatClampNeg).2.2.2 - s0 := by show _ = h.2.2.2 + n.toNatClampNeg - s0; omega
      rw [e1, e2]
      rw [List.map_cons, q2] at K
      have e3 : cv (fun x => if x = h.2.1 then q else ad x) (.ref h.2.1) = .ref q := by simp [cv]
      rw [e3] at K
      exact K
    · cases he
  · cases he
theorem s_newa_i (hd : decode cc pc = .ok (.newarray .int, 2)) (hw : Cond.arrayClass .int ∈ lw_tbl) : SimX own cc nL mn rq pc 2 (xNewA 0) := s_newa (t := 0) hd rfl hw (fun _ => rfl) (fun _ _ => rfl) (fun _ _ h => h) (by decide) (by decide) (fun _ _ _ => rfl) (fun _ _ => (by decide : 0 ≤ 4))
theorem s_newa_l (hd : decode cc pc = .ok (.newarray .long, 2)) (hw : Cond.arrayClass .long ∈ lw_tbl) : SimX own cc nL mn rq pc 2 (xNewA 1) := s_newa (t := 1) hd rfl hw (fun _ => rfl) (fun _ _ => rfl) (fun _ _ h => h) (by decide) (by decide) (fun _ _ _ => rfl) (fun _ _ => (by decide : 1 ≤ 4))
theorem s_newa_d (hd : decode cc pc = .ok (.newarray .double, 2)) (hw : Cond.arrayClass .double ∈ lw_tbl) : SimX own cc nL mn rq pc 2 (xNewA 2) := s_newa (t := 2) hd rfl hw (fun _ => rfl) (fun _ _ => rfl) (fun _ _ h => h) (by decide) (by decide) (fun _ _ _ => rfl) (fun _ _ => (by decide : 2 ≤ 4))
theorem s_newa_z (hd : decode cc pc = .ok (.newarray .boolean, 2)) (hw : Cond.arrayClass .boolean ∈ lw_tbl) : SimX own cc nL mn rq pc 2 (xNewA 3) := s_newa (t := 3) hd rfl hw (fun _ => rfl) (fun _ _ => rfl) (fun _ _ h => h) (by decide) (by decide) (fun _ _ _ => rfl) (fun _ _ => (by decide : 3 ≤ 4))
theorem s_newq {i : Nat} (hd : decode cc pc = .ok (.anewarray i, 3)) (hw1 : Cond.classLink own i RX0 ∈ lw_tbl) (hw2 : Cond.arrayOver (.object RX0) ∈ lw_tbl) : SimX own cc nL mn rq pc 3 (xNewA 4) := by
  intro ls st h ls' st' h' he
  unfold xNewA at he
  split at he
  · rename_i n r
    split at he
    · rename_i hn
      cases he
      refine ⟨⟨by show h.2.1 ≤ h.2.1 + 1; omega, by show h.2.2.1 ≤ h.2.2.1 + 1; omega, by show h.2.2.2 ≤ h.2.2.2 + _; omega⟩, ?_⟩
      intro G p l e R s m args below meth c A Q C hR ad H locs lsR c0 s0 g hc hs k1
      have hc1 : h.2.2.1 + 1 - c0 ≤ R.cells := hc
      have hs1 : h.2.2.2 + n.toNatClampNeg - s0 ≤ R.slots := hs
      have g8 := g.2.2.2.2.2.2.2.1
      have g9 := g.2.2.2.2.2.2.2.2.1
      have hneg : ¬ n < 0 := by
        intro q
        have h2 := Int32.le_iff_toInt_le.mp hn.1
        have h3 := Int32.lt_iff_toInt_lt.mp q
        omega
      refine va_newq (C := RX0) (N' := n.toNatClampNeg) C.1 C.2.1 C.2.2.2.1 (C.2.2.2.2.1 _ hw1 rfl _) (va_AO.of (C.2.2.2.2.1 _ hw2 (by unfold kwOK; simp) #[])) C.2.2.2.2.2.1 g.1 g.2.1 g.2.2.1 C.2.2.2.2.2.2.2.1 hneg rfl (by have := hn.2; omega) (by omega) (by omega) hd ?_
      intro q cA H1 hK hP hD hS
      have e0 : cA = G.2.2.1 4 := by
        obtain ⟨kA, comp, -, -, -, x1⟩ := (hK.2 5 (cA, .object RX0) (by simp [gty])).2
        obtain ⟨kA', comp', -, -, -, x2⟩ := (C.2.2.2.2.2.1.2 4 (G.2.2.1 4, .object RX0) rfl).2
        rw [x1] at x2
        exact Option.some.inj x2
      have hce : cE G.2.2.1 ad (.inl (4, n.toNatClampNeg, arr0 4)) = .inl (G.2.2.1 4, n.toNatClampNeg, arr0 4) := rfl
      rw [e0] at hP hD
      obtain ⟨q1, q2⟩ := gd_new (e := .inl (4, n.toNatClampNeg, arr0 4)) (n := n.toNatClampNeg) (r := r) g (fun _ h => List.mem_cons_of_mem _ h) ⟨by decide, fun _ _ h => nomatch h⟩ (by rw [hce]; exact hP) (by rw [hce]; exact hD) hS
      have K := k1 _ H1 locs lsR (fun x hx => if_neg (by omega)) q1
      have e1 : h.2.2.1 - c0 + 1 = (hnew h (.inl (4, n.toNatClampNeg, arr0 4)) n.toNatClampNeg).2.2.1 - c0 := by show _ = h.2.2.1 + 1 - c0; omega
      have e2 : h.2.2.2 - s0 + n.toNatClampNeg = (hnew h (.inl (4, n.toNatClampNeg, arr0 4)) n.toNatClampNeg).2.2.2 - s0 := by show _ = h.2.2.2 + n.toNatClampNeg - s0; omega
      rw [e1, e2]
      rw [List.map_cons, q2] at K
      have e3 : cv (fun x => if x = h.2.1 then q else ad x) (.ref h.2.1) = .ref q := by simp [cv]
      rw [e3] at K
      exact K
    · cases he
  · cases he
/-- the two static arrays -/
theorem s_gets {e0 i : Nat} {n host : String} (hd : decode cc pc = .ok (.getstatic i, 3)) (hw : Cond.fieldLinkNest own i RX5 n "[I" host ∈ lw_tbl) (hn : (e0 = 0 ∧ n = "FIRST_WEIGHTS") ∨ (e0 = 1 ∧ n = "FIRST_SPANS")) : SimX own cc nL mn rq pc 3 (xC (.ref e0)) := by
  refine simP ?_
  intro ls st h ls' st' h' he
  cases he
  refine ⟨rfl, rfl, ?_⟩
  intro G p l e R s m args below meth c A Q C hR ad H locs lsR c0 s0 g hc hs
  have h64 := g.2.2.2.1.1
  have he0 : e0 < 64 := by rcases hn with ⟨rfl, -⟩ | ⟨rfl, -⟩ <;> decide
  have hZ : va_Z RX5 n "[I" (.ref (G.2.2.2.1 e0)) A s s.heap := by
    rcases hn with ⟨rfl, rfl⟩ | ⟨rfl, rfl⟩
    · exact C.2.2.2.2.2.2.1.2.1
    · exact C.2.2.2.2.2.2.1.2.2.1
  refine ⟨ok_c (fun q hq => by cases hq; exact Nat.lt_of_lt_of_le he0 h64) g.2.2.2.2.1, fun k => va_getsN C.1 C.2.1 hZ g.2.2.1 C.2.2.2.1 (C.2.2.2.2.1 _ hw (by unfold kwOK; simp) _) (fun _ h => h) hd ?_⟩
  rw [List.map_cons] at k
  have e3 : cv ad (.ref e0) = .ref (G.2.2.2.1 e0) := by show Value.ref (ad e0) = _; rw [g.2.2.2.2.2.2.2.2.2 e0 he0]
  rw [e3] at k
  exact k
/- calls that are steps -/
theorem s_obj {i : Nat} (hd : decode cc pc = .ok (.invokespecial i, 3)) (hw1 : Cond.methodLink own i Lib.objectInit ∈ lw_tbl) (hw2 : Cond.instanceMethod Lib.objectInit ∈ lw_tbl) (hw3 : Cond.code Lib.objectInit ⟨#[0xb1]⟩ 1 none ∈ lw_tbl) (hq : 1 ≤ rq.1 ∧ 20 ≤ rq.2) : SimX own cc nL mn rq pc 3 xObj := by
  refine simP ?_
  intro ls st h ls' st' h' he
  unfold xObj at he
  split at he
  · split at he
    · rename_i p r hl
      cases he
      refine ⟨rfl, rfl, ?_⟩
      intro G p l e R s m args below meth c A Q C hR ad H locs lsR c0 s0 g hc hs
      refine ⟨ok_t g.2.2.2.2.1, fun k => ?_⟩
      have hsum := sum_le (ad := ad) hl
      exact W.objInit C.1 C.2.1 C.2.2.2.1 (C.2.2.2.2.1 _ hw1 rfl _) (C.2.2.2.2.1 _ hw2 rfl _) (C.2.2.2.2.1 _ hw3 rfl _) rfl (by rw [C.2.2.1]; exact g.2.2.2.2.2.2.1.2.1) rfl hd (by omega) (by show 2 * 0 + _ + 12 ≤ _; omega) k
    · cases he
  · cases he
theorem s_mmax {i : Nat} (hd : decode cc pc = .ok (.invokestatic i, 3)) (hw1 : Cond.methodLink own i Lib.Math.max.name ∈ lw_tbl) (hw2 : Cond.static Lib.Math.max.name ∈ lw_tbl) (hw3 : Cond.initialized "java/lang/Math" ∈ lw_tbl) (hw4 : Cond.code Lib.Math.max.name Lib.Math.max.code 2 (some .int) ∈ lw_tbl) (hq : 1 ≤ rq.1 ∧ 21 ≤ rq.2) : SimX own cc nL mn rq pc 3 xMax := by
  refine simP ?_
  intro ls st h ls' st' h' he
  unfold xMax xP2 at he
  split at he
  · split at he
    · rename_i y x r hl
      cases he
      refine ⟨rfl, rfl, ?_⟩
      intro G p l e R s m args below meth c A Q C hR ad H locs lsR c0 s0 g hc hs
      refine ⟨ok_c okV_i (ok_t (ok_t g.2.2.2.2.1)), fun k => ?_⟩
      have hsum := sum_le (ad := ad) hl
      exact va_mmax C.1 C.2.1 (by rw [C.2.2.1]; exact g.2.2.2.2.2.2.1.2.1.symm) C.2.2.2.1 (C.2.2.2.2.1 _ hw1 rfl _) (C.2.2.2.2.1 _ hw2 rfl _) (C.2.2.2.2.1 _ hw3 rfl _) (C.2.2.2.2.1 _ hw4 rfl _) (by omega) (by omega) hc hs hd k
    · cases he
  · cases he
theorem s_mmin {i : Nat} (hd : decode cc pc = .ok (.invokestatic i, 3)) (hw1 : Cond.methodLink own i Lib.Math.min.name ∈ lw_tbl) (hw2 : Cond.static Lib.Math.min.name ∈ lw_tbl) (hw3 : Cond.initialized "java/lang/Math" ∈ lw_tbl) (hw4 : Cond.code Lib.Math.min.name Lib.Math.min.code 2 (some .int) ∈ lw_tbl) (hq : 1 ≤ rq.1 ∧ 21 ≤ rq.2) : SimX own cc nL mn rq pc 3 xMin := by
  refine simP ?_
  intro ls st h ls' st' h' he
  unfold xMin xP2 at he
  split at he
  · split at he
    · rename_i y x r hl
      cases he
      refine ⟨rfl, rfl, ?_⟩
      intro G p l e R s m args below meth c A Q C hR ad H locs lsR c0 s0 g hc hs
      refine ⟨ok_c okV_i (ok_t (ok_t g.2.2.2.2.1)), fun k => ?_⟩
      have hsum := sum_le (ad := ad) hl
      exact va_mmin C.1 C.2.1 (by rw [C.2.2.1]; exact g.2.2.2.2.2.2.1.2.1.symm) C.2.2.2.1 (C.2.2.2.2.1 _ hw1 rfl _) (C.2.2.2.2.1 _ hw2 rfl _) (C.2.2.2.2.1 _ hw3 rfl _) (C.2.2.2.2.1 _ hw4 rfl _) (by omega) (by omega) hc hs hd k
    · cases he
  · cases he
theorem s_mabs {i : Nat} (hd : decode cc pc = .ok (.invokestatic i, 3)) (hw1 : Cond.methodLink own i Lib.Math.abs.name ∈ lw_tbl) (hw2 : Cond.static Lib.Math.abs.name ∈ lw_tbl) (hw3 : Cond.initialized "java/lang/Math" ∈ lw_tbl) (hw4 : Cond.code Lib.Math.abs.name Lib.Math.abs.code 1 (some .int) ∈ lw_tbl) (hq : 1 ≤ rq.1 ∧ 21 ≤ rq.2) : SimX own cc nL mn rq pc 3 xAbs := by
  refine simP ?_
  intro ls st h ls' st' h' he
  unfold xAbs at he
  split at he
  · split at he
    · rename_i x r hl
      cases he
      refine ⟨rfl, rfl, ?_⟩
      intro G p l e R s m args below meth c A Q C hR ad H locs lsR c0 s0 g hc hs
      refine ⟨ok_c okV_i (ok_t g.2.2.2.2.1), fun k => ?_⟩
      have hsum := sum_le (ad := ad) hl
      exact va_mabs C.1 C.2.1 (by rw [C.2.2.1]; exact g.2.2.2.2.2.2.1.2.1.symm) C.2.2.2.1 (C.2.2.2.2.1 _ hw1 rfl _) (C.2.2.2.2.1 _ hw2 rfl _) (C.2.2.2.2.1 _ hw3 rfl _) (C.2.2.2.2.1 _ hw4 rfl _) (by omega) (by omega) hc hs hd k
    · cases he
  · cases he
theorem s_lmin {i : Nat} (hd : decode cc pc = .ok (.invokestatic i, 3)) (hw1 : Cond.methodLink own i Lib.MathLoose.min_long.x ∈ lw_tbl) (hw2 : Cond.static Lib.MathLoose.min_long.x ∈ lw_tbl) (hw3 : Cond.initialized "java/lang/Math" ∈ lw_tbl) (hw4 : Cond.code Lib.MathLoose.min_long.x Lib.MathLoose.min_long.code 4 (some .long) ∈ lw_tbl) (hq : 1 ≤ rq.1 ∧ 23 ≤ rq.2) : SimX own cc nL mn rq pc 3 xLmin := by
  refine simP ?_
  intro ls st h ls' st' h' he
  unfold xLmin at he
  split at he
  · split at he
    · rename_i y x r hl
      cases he
      refine ⟨rfl, rfl, ?_⟩
      intro G p l e R s m args below meth c A Q C hR ad H locs lsR c0 s0 g hc hs
      refine ⟨ok_c okV_l (ok_t (ok_t g.2.2.2.2.1)), fun k => ?_⟩
      have hsum := sum_le (ad := ad) hl
      exact va_mmin_long C.1 C.2.1 (by rw [C.2.2.1]; exact g.2.2.2.2.2.2.1.2.1.symm) C.2.2.2.1 (C.2.2.2.2.1 _ hw1 rfl _) (C.2.2.2.2.1 _ hw2 rfl _) (C.2.2.2.2.1 _ hw3 rfl _) (C.2.2.2.2.1 _ hw4 rfl _) (by omega) (by omega) hc hs hd k
    · cases he
  · cases he
theorem le_neg {x : Int32} (h : 0 ≤ x) : ¬ x < 0 := by
  intro q
  have h2 := Int32.le_iff_toInt_le.mp h
  have h3 := Int32.lt_iff_toInt_lt.mp q
  omega
theorem s_cpy {i : Nat} (hd : decode cc pc = .ok (.invokestatic i, 3)) (hw1 : Cond.methodLink own i arraycopyName ∈ lw_tbl) (hw2 : Cond.native arraycopyName ∈ lw_tbl) (hw3 : Cond.static arraycopyName ∈ lw_tbl) (hw4 : Cond.initialized "java/lang/System" ∈ lw_tbl) (hq : 1 ≤ rq.1 ∧ 26 ≤ rq.2) : SimX own cc nL mn rq pc 3 xCpy := by
  refine simS ?_
  intro ls st h ls' st' h' he
  unfold xCpy at he
  split at he
  · rename_i n dp q sp p r
    split at he
    · rename_i t n0 f t' n1 g' hp hq'
      split at he
      · rename_i hc
        obtain ⟨hl, rfl, rfl, h1, h2, h3, h4, h5⟩ := hc
        cases he
        refine ⟨rfl, q, _, rfl, fun v hv => mem3 (List.mem_cons_of_mem _ (List.mem_cons_of_mem _ hv)), ?_⟩
        intro G pp l e R s m args below meth c A Q C hR ad H locs lsR c0 s0 g
        have g4 := g.2.2.2.1
        have g5 := g.2.2.2.2.1
        have hx := C.2.2.2.2.2.2.2.2.2.2.2
        have hp64 := arr_own hx g4 hp (by decide)
        have hq64 := arr_own hx g4 hq' (by decide)
        have hat := wl_at (tA := G.2.2.1) (ad := ad) hp64 (g5 _ (by simp) _ rfl)
        rw [hp] at hat
        have hqt := wl_at (tA := G.2.2.1) (ad := ad) hq64 (g5 _ (by simp) _ rfl)
        rw [hq'] at hqt
        have hsum := sum_le (ad := ad) hl
        have hnf : nativeFrameWords "java/lang/System" "arraycopy" 5 = 7 := by decide +kernel
        exact ⟨hq64, Nat.zero_le _, fun k => va_copyi (ty := .int) C.1 C.2.1 (by rw [C.2.2.1]; exact g.2.2.2.2.2.2.1.2.1.symm) C.2.2.2.1 (C.2.2.2.2.1 _ hw1 rfl _) (C.2.2.2.2.1 _ hw2 rfl _) (C.2.2.2.2.1 _ hw3 rfl _) (C.2.2.2.2.1 _ hw4 rfl _) C.2.2.2.2.2.1 g.1 g.2.1 g.2.2.1 _ _ 0 0 hat hqt rfl rfl rfl (le_neg h1) (le_neg h2) (le_neg h3) h4 h5 (fun _ _ => rfl) (by omega) (by rw [hnf]; omega) hd k⟩
      · cases he
    · cases he
  · cases he
end ARR
