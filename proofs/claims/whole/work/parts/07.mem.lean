section MEM
variable {own : String} {cc : ByteArray} {nL : Nat} {mn : String} {rq : Nat × Nat} {pc : Nat}
/-- a step that changes locals alone -/
theorem simL {len : Nat} {f : XF}
    (hf : ∀ {ls : Lo} {st : Vs} {h : Hp} {ls' : Lo} {st' : Vs} {h' : Hp}, f ls st h = some (ls', st', h') → h' = h ∧
      ∀ (G : GG) {p : Program} {l : Launch} {e : Env} {R : Room} {s : State} {m : MethodId} {args : Array Value} {below : List Frame} {meth : Method} {c : Code} {A : Nat → Prop} {Q : State → Prop} (_ : Cx G own cc nL mn p l s m meth c A)
        {ad : Nat → Nat} {H : Heap} {locs : List Loc} {lsR : Array Slot} {c0 s0 : Nat}, Gd G ad nL ls st h A s.heap H locs lsR c0 s0 → (∀ v ∈ st', okV h.2.1 v) ∧ (∀ v, some v ∈ ls' → okV h.2.1 v) ∧
        ((∀ lsR' : Array Slot, lo ad ls' lsR' nL → W p l e R s m args below meth c H locs (h.2.2.1 - c0) (h.2.2.2 - s0) Q (F0 m (pc + len) lsR' (st'.map (cv ad)))) → W p l e R s m args below meth c H locs (h.2.2.1 - c0) (h.2.2.2 - s0) Q (F0 m pc lsR (st.map (cv ad))))) :
    SimX own cc nL mn rq pc len f := by
  intro ls st h ls' st' h' he
  obtain ⟨rfl, hk⟩ := hf he
  refine ⟨⟨Nat.le_refl _, Nat.le_refl _, Nat.le_refl _⟩, ?_⟩
  intro G p l e R s m args below meth c A Q C hR ad H locs lsR c0 s0 g hc hs k
  obtain ⟨h1, h1', h2⟩ := hk G (e := e) (R := R) (args := args) (below := below) (Q := Q) C g
  obtain ⟨g1, g2, g3, g4, g5, g6, g7⟩ := g
  exact h2 (fun lsR' hl => k ad H locs lsR' (fun _ _ => rfl) ⟨g1, g2, g3, g4, h1, h1', hl, g7.2⟩)
theorem s_istore_n {i : Nat} {k : Fin 4} (hd : decode cc pc = .ok (.istore_n k, 1)) (hi : (k : Nat) = i) (hn : i < nL) : SimX own cc nL mn rq pc 1 (xSt i) := by
  refine simL ?_
  intro ls st h ls' st' h' he
  unfold xSt at he
  split at he
  · cases he
    refine ⟨rfl, ?_⟩
    intro G p l e R s m args below meth c A Q C ad H locs lsR c0 s0 g
    have g7 := g.2.2.2.2.2.2.1
    exact ⟨ok_t g.2.2.2.2.1, ok_lst (by rw [g7.1]; exact hn) g.2.2.2.2.2.1 okV_i, fun kk => lv_istore_n C.1 C.2.1 hd hi g7.2 hn rfl (fun lsR' hl => kk lsR' (lo_st g7 hn hl))⟩
  · cases he
theorem s_istore {i : Nat} (hd : decode cc pc = .ok (.istore i, 2)) (hn : i < nL) : SimX own cc nL mn rq pc 2 (xSt i) := by
  refine simL ?_
  intro ls st h ls' st' h' he
  unfold xSt at he
  split at he
  · cases he
    refine ⟨rfl, ?_⟩
    intro G p l e R s m args below meth c A Q C ad H locs lsR c0 s0 g
    have g7 := g.2.2.2.2.2.2.1
    exact ⟨ok_t g.2.2.2.2.1, ok_lst (by rw [g7.1]; exact hn) g.2.2.2.2.2.1 okV_i, fun kk => lv_istore C.1 C.2.1 hd g7.2 hn rfl (fun lsR' hl => kk lsR' (lo_st g7 hn hl))⟩
  · cases he
theorem s_lstore_n {i : Nat} {k : Fin 4} (hd : decode cc pc = .ok (.lstore_n k, 1)) (hi : (k : Nat) = i) (hn : i + 1 < nL) : SimX own cc nL mn rq pc 1 (xStL i) := by
  refine simL ?_
  intro ls st h ls' st' h' he
  unfold xStL at he
  split at he
  · cases he
    refine ⟨rfl, ?_⟩
    intro G p l e R s m args below meth c A Q C ad H locs lsR c0 s0 g
    have g7 := g.2.2.2.2.2.2.1
    exact ⟨ok_t g.2.2.2.2.1, ok_lstW (by rw [g7.1]; exact hn) g.2.2.2.2.2.1 okV_l, fun kk => lv_lstore_n C.1 C.2.1 hd hi g7.2 hn rfl (fun lsR' hl => kk lsR' (lo_stW g7 hn hl))⟩
  · cases he
theorem s_lstore {i : Nat} (hd : decode cc pc = .ok (.lstore i, 2)) (hn : i + 1 < nL) : SimX own cc nL mn rq pc 2 (xStL i) := by
  refine simL ?_
  intro ls st h ls' st' h' he
  unfold xStL at he
  split at he
  · cases he
    refine ⟨rfl, ?_⟩
    intro G p l e R s m args below meth c A Q C ad H locs lsR c0 s0 g
    have g7 := g.2.2.2.2.2.2.1
    exact ⟨ok_t g.2.2.2.2.1, ok_lstW (by rw [g7.1]; exact hn) g.2.2.2.2.2.1 okV_l, fun kk => lv_lstore C.1 C.2.1 hd g7.2 hn rfl (fun lsR' hl => kk lsR' (lo_stW g7 hn hl))⟩
  · cases he
theorem s_dstore {i : Nat} (hd : decode cc pc = .ok (.dstore i, 2)) (hn : i + 1 < nL) : SimX own cc nL mn rq pc 2 (xStD i) := by
  refine simL ?_
  intro ls st h ls' st' h' he
  unfold xStD at he
  split at he
  · cases he
    refine ⟨rfl, ?_⟩
    intro G p l e R s m args below meth c A Q C ad H locs lsR c0 s0 g
    have g7 := g.2.2.2.2.2.2.1
    exact ⟨ok_t g.2.2.2.2.1, ok_lstW (by rw [g7.1]; exact hn) g.2.2.2.2.2.1 okV_d, fun kk => lv_dstore C.1 C.2.1 hd g7.2 hn rfl (fun lsR' hl => kk lsR' (lo_stW g7 hn hl))⟩
  · cases he
theorem s_astore_n {i : Nat} {k : Fin 4} (hd : decode cc pc = .ok (.astore_n k, 1)) (hi : (k : Nat) = i) (hn : i < nL) : SimX own cc nL mn rq pc 1 (xStA i) := by
  refine simL ?_
  intro ls st h ls' st' h' he
  unfold xStA at he
  split at he
  · cases he
    refine ⟨rfl, ?_⟩
    intro G p l e R s m args below meth c A Q C ad H locs lsR c0 s0 g
    have g7 := g.2.2.2.2.2.2.1
    exact ⟨ok_t g.2.2.2.2.1, ok_lst (by rw [g7.1]; exact hn) g.2.2.2.2.2.1 (g.2.2.2.2.1 _ List.mem_cons_self), fun kk => lv_astore_n C.1 C.2.1 hd hi g7.2 hn rfl (fun lsR' hl => kk lsR' (lo_st g7 hn hl))⟩
  · cases he
    refine ⟨rfl, ?_⟩
    intro G p l e R s m args below meth c A Q C ad H locs lsR c0 s0 g
    have g7 := g.2.2.2.2.2.2.1
    exact ⟨ok_t g.2.2.2.2.1, ok_lst (by rw [g7.1]; exact hn) g.2.2.2.2.2.1 okV_n, fun kk => lv_astore_nN C.1 C.2.1 hd hi g7.2 hn rfl (fun lsR' hl => kk lsR' (lo_st g7 hn hl))⟩
  · cases he
theorem s_astore {i : Nat} (hd : decode cc pc = .ok (.astore i, 2)) (hn : i < nL) : SimX own cc nL mn rq pc 2 (xStA i) := by
  refine simL ?_
  intro ls st h ls' st' h' he
  unfold xStA at he
  split at he
  · cases he
    refine ⟨rfl, ?_⟩
    intro G p l e R s m args below meth c A Q C ad H locs lsR c0 s0 g
    have g7 := g.2.2.2.2.2.2.1
    exact ⟨ok_t g.2.2.2.2.1, ok_lst (by rw [g7.1]; exact hn) g.2.2.2.2.2.1 (g.2.2.2.2.1 _ List.mem_cons_self), fun kk => lv_astore C.1 C.2.1 hd g7.2 hn rfl (fun lsR' hl => kk lsR' (lo_st g7 hn hl))⟩
  · cases he
    refine ⟨rfl, ?_⟩
    intro G p l e R s m args below meth c A Q C ad H locs lsR c0 s0 g
    have g7 := g.2.2.2.2.2.2.1
    exact ⟨ok_t g.2.2.2.2.1, ok_lst (by rw [g7.1]; exact hn) g.2.2.2.2.2.1 okV_n, fun kk => lv_astoreN C.1 C.2.1 hd g7.2 hn rfl (fun lsR' hl => kk lsR' (lo_st g7 hn hl))⟩
  · cases he
theorem s_iinc {i : Nat} {n : Int} {v : Int32} (hd : decode cc pc = .ok (.iinc i n, 3)) (hv : Int32.ofInt n = v) (hn : i < nL) : SimX own cc nL mn rq pc 3 (xInc i v) := by
  refine simL ?_
  intro ls st h ls' st' h' he
  unfold xInc at he
  split at he
  · rename_i x hx
    cases he
    refine ⟨rfl, ?_⟩
    intro G p l e R s m args below meth c A Q C ad H locs lsR c0 s0 g
    have g7 := g.2.2.2.2.2.2.1
    obtain ⟨k, hk⟩ := List.getElem?_of_mem ((kl_mem (f := cv ad) ls 0 i (.int x)).mpr ⟨i, .int x, by omega, hx, rfl⟩)
    refine ⟨g.2.2.2.2.1, ok_lst (by rw [g7.1]; exact hn) g.2.2.2.2.2.1 okV_i, fun kk => lv_iinc (v := x + v) C.1 C.2.1 hd g7.2 hk (by rw [hv]) hn rfl (fun lsR' hl => kk lsR' (lo_st (v := .int (x + v)) g7 hn hl))⟩
  · cases he
/- objects -/
theorem ws_in {C : String} {T : u_T} {N : Nat} {s : State} {a : Array Value} (h : Wd s) (hin : ∀ w ∈ u_ws C T N, w ∈ lw_tbl ∧ kwOK w = true) : ∀ w ∈ u_ws C T N, w.before a s = true := fun w hw => h w (hin w hw).1 (hin w hw).2 a
theorem obj_own {xc : Nat → va_E} {h : Hp} {p ci : Nat} {fs : Vs} (hx : xOk xc) (hw : wfh xc h) (hp : h.1 p = .inr (ci, fs)) : 64 ≤ p := own_at hx hw (fun t n f q => by rw [hp] at q; cases q)
theorem s_get {C : String} {T : u_T} {N ci k i : Nat} (hd : decode cc pc = .ok (.getfield i, 3)) (hcl : vwCl[ci]? = some (C, T, N)) (hk : k < N) (hw : Cond.fieldLink own i (T k).1 (T k).2.1 (T k).2.2.1 ∈ lw_tbl) (hin : ∀ w ∈ u_ws C T N, w ∈ lw_tbl ∧ kwOK w = true) : SimX own cc nL mn rq pc 3 (xGet ci k) := by
  refine simP ?_
  intro ls st h ls' st' h' he
  unfold xGet at he
  split at he
  · rename_i p r
    split at he
    · rename_i c fs hp
      split at he
      · rename_i hc
        subst hc
        split at he
        · rename_i v hv
          cases he
          refine ⟨rfl, rfl, ?_⟩
          intro G p l e R s m args below meth c A Q C hR ad H locs lsR c0 s0 g hc hs
          have g4 := g.2.2.2.1
          have g5 := g.2.2.2.2.1
          have hp64 := obj_own C.2.2.2.2.2.2.2.2.2.2.2 g4 hp
          have hlt := g5 _ List.mem_cons_self _ rfl
          have hat := wl_at (tA := G.2.2.1) (ad := ad) hp64 hlt
          rw [hp] at hat
          rw [vg_get] at hv
          have hmem : v ∈ fs := List.mem_of_getElem? hv
          have hok := g4.2.2 _ hp64 hlt
          rw [hp] at hok
          refine ⟨ok_c (hok v hmem) (ok_t g5), fun k => ?_⟩
          exact va_get (v := cv ad v) C.1 C.2.1 (ws_in C.2.2.2.2.1 hin) (fun _ h => h) C.2.2.2.1 C.2.2.2.2.2.1 g.1 _ hat hcl _ hk (C.2.2.2.2.1 _ hw rfl _) (fun _ h => h) (by rw [List.getElem?_map, hv]; rfl) hd k
        · cases he
      · cases he
    · cases he
  · cases he
theorem s_getN {C : String} {T : u_T} {N ci k i : Nat} {host : String} (hd : decode cc pc = .ok (.getfield i, 3)) (hcl : vwCl[ci]? = some (C, T, N)) (hk : k < N) (hw : Cond.fieldLinkNest own i (T k).1 (T k).2.1 (T k).2.2.1 host ∈ lw_tbl) (hin : ∀ w ∈ u_ws C T N, w ∈ lw_tbl ∧ kwOK w = true) : SimX own cc nL mn rq pc 3 (xGet ci k) := by
  refine simP ?_
  intro ls st h ls' st' h' he
  unfold xGet at he
  split at he
  · rename_i p r
    split at he
    · rename_i c fs hp
      split at he
      · rename_i hc
        subst hc
        split at he
        · rename_i v hv
          cases he
          refine ⟨rfl, rfl, ?_⟩
          intro G p l e R s m args below meth c A Q C hR ad H locs lsR c0 s0 g hc hs
          have g4 := g.2.2.2.1
          have g5 := g.2.2.2.2.1
          have hp64 := obj_own C.2.2.2.2.2.2.2.2.2.2.2 g4 hp
          have hlt := g5 _ List.mem_cons_self _ rfl
          have hat := wl_at (tA := G.2.2.1) (ad := ad) hp64 hlt
          rw [hp] at hat
          rw [vg_get] at hv
          have hmem : v ∈ fs := List.mem_of_getElem? hv
          have hok := g4.2.2 _ hp64 hlt
          rw [hp] at hok
          refine ⟨ok_c (hok v hmem) (ok_t g5), fun k => ?_⟩
          exact va_getN (v := cv ad v) C.1 C.2.1 (ws_in C.2.2.2.2.1 hin) (fun _ h => h) C.2.2.2.1 C.2.2.2.2.2.1 g.1 _ hat hcl _ hk (C.2.2.2.2.1 _ hw (by unfold kwOK; simp) _) (fun _ h => h) (by rw [List.getElem?_map, hv]; rfl) hd k
        · cases he
      · cases he
    · cases he
  · cases he
theorem okF_nar {ty : FieldType} {v : Value} {ad : Nat → Nat} (h : okF ty v) : narrow ty (cv ad v) = cv ad v ∧ fits ty (cv ad v) = true := by
  unfold okF at h
  split at h
  · exact ⟨rfl, rfl⟩
  · rcases h with rfl | rfl <;> (simp only [cv]; exact ⟨by decide, by decide⟩)
  · exact ⟨rfl, rfl⟩
  · exact ⟨rfl, rfl⟩
  · exact h.elim
/-- behind a store into a field -/
theorem put_gd {G : GG} {own : String} {cc : ByteArray} {nL : Nat} {mn : String} {p : Program} {l : Launch} {s : State} {m : MethodId} {meth : Method} {c : Code} {A : Nat → Prop} (C : Cx G own cc nL mn p l s m meth c A) {ad : Nat → Nat} {ls : Lo} {r : Vs} {h : Hp} {H H1 : Heap} {locs locs1 : List Loc} {lsR : Array Slot} {c0 s0 q ci k : Nat} {fs : Vs} {v : Value}
    (g : Gd G ad nL ls (v :: .ref q :: r) h A s.heap H locs lsR c0 s0) (hp : h.1 q = .inr (ci, fs))
    (hP : va_P (G.1, G.2.1) vwCl ((wl G.2.2.1 ad h).set (q - 64) (ad q, .inr (ci, (fs.map (cv ad)).set k (cv ad v)))) H1) (hD : va_D A ((wl G.2.2.1 ad h).set (q - 64) (ad q, .inr (ci, (fs.map (cv ad)).set k (cv ad v))))) (hS : va_S A s.heap H1 locs1) :
    Gd G ad nL ls r (hset h q (.inr (ci, vset fs k v))) A s.heap H1 locs1 lsR c0 s0 := by
  have g4 := g.2.2.2.1
  have g5 := g.2.2.2.2.1
  have hp64 := obj_own C.2.2.2.2.2.2.2.2.2.2.2 g4 hp
  have hlt := g5 _ (List.mem_cons_of_mem _ List.mem_cons_self) _ rfl
  have hok := g4.2.2 _ hp64 hlt
  rw [hp] at hok
  have e : cE G.2.2.1 ad (.inr (ci, vset fs k v)) = .inr (ci, (fs.map (cv ad)).set k (cv ad v)) := by
    show Sum.inr (ci, (vset fs k v).map (cv ad)) = _
    rw [vset_set, List.map_set]
  refine gd_set g (fun w hw => List.mem_cons_of_mem _ (List.mem_cons_of_mem _ hw)) hp64 ?_ (by rw [e]; exact hP) (by rw [e]; exact hD) hS
  show ∀ w ∈ vset fs k v, okV h.2.1 w
  intro w hw
  rw [vset_set] at hw
  rcases List.mem_or_eq_of_mem_set hw with hw | rfl
  · exact hok w hw
  · exact g5 _ List.mem_cons_self
theorem s_put {C : String} {T : u_T} {N ci k i : Nat} {ty : FieldType} (ty0 : Nat → FieldType) (hty : ∀ k, k < N → parseFieldDescriptor (T k).2.2.1 = some (ty0 k)) (hnm : ∀ a, a < N → ∀ b, b < N → a ≠ b → (T a).2.1 ≠ (T b).2.1) (hd : decode cc pc = .ok (.putfield i, 3)) (hcl : vwCl[ci]? = some (C, T, N)) (hk : k < N) (hfin : (T k).2.2.2 = false) (ht : parseFieldDescriptor (T k).2.2.1 = some ty) (hw : Cond.fieldLink own i (T k).1 (T k).2.1 (T k).2.2.1 ∈ lw_tbl) (hin : ∀ w ∈ u_ws C T N, w ∈ lw_tbl ∧ kwOK w = true) : SimX own cc nL mn rq pc 3 (xPut ci k ty) := by
  intro ls st h ls' st' h' he
  unfold xPut at he
  split at he
  · rename_i v q r
    split at he
    · rename_i c fs hp
      split at he
      · rename_i hc
        obtain ⟨rfl, hlen, hv⟩ := hc
        cases he
        refine ⟨⟨Nat.le_refl _, Nat.le_refl _, Nat.le_refl _⟩, ?_⟩
        intro G p l e R s m args below meth c A Q C hR ad H locs lsR c0 s0 g hc hs k1
        have hp64 := obj_own C.2.2.2.2.2.2.2.2.2.2.2 g.2.2.2.1 hp
        have hat := wl_at (tA := G.2.2.1) (ad := ad) hp64 (g.2.2.2.2.1 _ (List.mem_cons_of_mem _ List.mem_cons_self) _ rfl)
        rw [hp] at hat
        exact va_put (v := cv ad v) C.1 C.2.1 (ws_in C.2.2.2.2.1 hin) (fun _ h => h) ty0 hty hnm C.2.2.2.1 C.2.2.2.2.2.1 g.1 g.2.1 g.2.2.1 _ hat hcl _ hk (C.2.2.2.2.1 _ hw rfl _) (fun _ h => h) hfin ht (okF_nar hv).1 (okF_nar hv).2 (by rw [List.length_map]; exact hlen) hd
          (fun H1 locs1 hP hD hS => k1 ad H1 locs1 lsR (fun _ _ => rfl) (put_gd C g hp hP hD hS))
      · cases he
    · cases he
  · cases he
theorem s_putN {C : String} {T : u_T} {N ci k i : Nat} {ty : FieldType} {host : String} (ty0 : Nat → FieldType) (hty : ∀ k, k < N → parseFieldDescriptor (T k).2.2.1 = some (ty0 k)) (hnm : ∀ a, a < N → ∀ b, b < N → a ≠ b → (T a).2.1 ≠ (T b).2.1) (hd : decode cc pc = .ok (.putfield i, 3)) (hcl : vwCl[ci]? = some (C, T, N)) (hk : k < N) (hfin : (T k).2.2.2 = false) (ht : parseFieldDescriptor (T k).2.2.1 = some ty) (hw : Cond.fieldLinkNest own i (T k).1 (T k).2.1 (T k).2.2.1 host ∈ lw_tbl) (hin : ∀ w ∈ u_ws C T N, w ∈ lw_tbl ∧ kwOK w = true) : SimX own cc nL mn rq pc 3 (xPut ci k ty) := by
  intro ls st h ls' st' h' he
  unfold xPut at he
  split at he
  · rename_i v q r
    split at he
    · rename_i c fs hp
      split at he
      · rename_i hc
        obtain ⟨rfl, hlen, hv⟩ := hc
        cases he
        refine ⟨⟨Nat.le_refl _, Nat.le_refl _, Nat.le_refl _⟩, ?_⟩
        intro G p l e R s m args below meth c A Q C hR ad H locs lsR c0 s0 g hc hs k1
        have hp64 := obj_own C.2.2.2.2.2.2.2.2.2.2.2 g.2.2.2.1 hp
        have hat := wl_at (tA := G.2.2.1) (ad := ad) hp64 (g.2.2.2.2.1 _ (List.mem_cons_of_mem _ List.mem_cons_self) _ rfl)
        rw [hp] at hat
        exact va_putN (v := cv ad v) C.1 C.2.1 (ws_in C.2.2.2.2.1 hin) (fun _ h => h) ty0 hty hnm C.2.2.2.1 C.2.2.2.2.2.1 g.1 g.2.1 g.2.2.1 _ hat hcl _ hk (C.2.2.2.2.1 _ hw (by unfold kwOK; simp) _) (fun _ h => h) hfin ht (okF_nar hv).1 (okF_nar hv).2 (by rw [List.length_map]; exact hlen) hd
          (fun H1 locs1 hP hD hS => k1 ad H1 locs1 lsR (fun _ _ => rfl) (put_gd C g hp hP hD hS))
      · cases he
    · cases he
  · cases he
/-- a final field, in a constructor -/
theorem s_putF {C : String} {T : u_T} {N ci k i : Nat} {ty : FieldType} (ty0 : Nat → FieldType) (hty : ∀ k, k < N → parseFieldDescriptor (T k).2.2.1 = some (ty0 k)) (hnm : ∀ a, a < N → ∀ b, b < N → a ≠ b → (T a).2.1 ≠ (T b).2.1) (hd : decode cc pc = .ok (.putfield i, 3)) (hcl : vwCl[ci]? = some (C, T, N)) (hk : k < N) (hfin : (T k).2.2.2 = true) (hmn : mn = "<init>") (hdc : (T k).1 = own) (ht : parseFieldDescriptor (T k).2.2.1 = some ty) (hw : Cond.fieldLink own i (T k).1 (T k).2.1 (T k).2.2.1 ∈ lw_tbl) (hin : ∀ w ∈ u_ws C T N, w ∈ lw_tbl ∧ kwOK w = true) : SimX own cc nL mn rq pc 3 (xPut ci k ty) := by
  intro ls st h ls' st' h' he
  unfold xPut at he
  split at he
  · rename_i v q r
    split at he
    · rename_i c fs hp
      split at he
      · rename_i hc
        obtain ⟨rfl, hlen, hv⟩ := hc
        cases he
        refine ⟨⟨Nat.le_refl _, Nat.le_refl _, Nat.le_refl _⟩, ?_⟩
        intro G p l e R s m args below meth c A Q C hR ad H locs lsR c0 s0 g hc hs k1
        have hp64 := obj_own C.2.2.2.2.2.2.2.2.2.2.2 g.2.2.2.1 hp
        have hat := wl_at (tA := G.2.2.1) (ad := ad) hp64 (g.2.2.2.2.1 _ (List.mem_cons_of_mem _ List.mem_cons_self) _ rfl)
        rw [hp] at hat
        exact va_putF (v := cv ad v) C.1 C.2.1 (ws_in C.2.2.2.2.1 hin) (fun _ h => h) ty0 hty hnm C.2.2.2.1 C.2.2.2.2.2.1 g.1 g.2.1 g.2.2.1 _ hat hcl _ hk (C.2.2.2.2.1 _ hw rfl _) (fun _ h => h) hfin (C.2.2.2.2.2.2.2.2.2.2.1.trans hmn) hdc ht (okF_nar hv).1 (okF_nar hv).2 (by rw [List.length_map]; exact hlen) hd
          (fun H1 locs1 hP hD hS => k1 ad H1 locs1 lsR (fun _ _ => rfl) (put_gd C g hp hP hD hS))
      · cases he
    · cases he
  · cases he
theorem s_new {C : String} {T : u_T} {N ci i : Nat} {fs : Vs} (ty0 : Nat → FieldType) (hty : ∀ k, k < N → parseFieldDescriptor (T k).2.2.1 = some (ty0 k)) (hd : decode cc pc = .ok (.new i, 3)) (hcl : vwCl[ci]? = some (C, T, N)) (hfs : ∀ j, j < N → defaultValue (ty0 j) = vp_V fs j) (hN : fs.length = N) (hpl : fs.all (fun v => match v with | .ref _ => false | _ => true) = true)
    (hw1 : Cond.classLink own i C ∈ lw_tbl) (hw2 : Cond.instantiable C N ∈ lw_tbl) (hw3 : Cond.initialized C ∈ lw_tbl) (hin : ∀ w ∈ u_ws C T N, w ∈ lw_tbl ∧ kwOK w = true) : SimX own cc nL mn rq pc 3 (xNew ci fs) := by
  intro ls st h ls' st' h' he
  unfold xNew at he
  cases he
  refine ⟨⟨by show h.2.1 ≤ h.2.1 + 1; omega, by show h.2.2.1 ≤ h.2.2.1 + 1; omega, by show h.2.2.2 ≤ h.2.2.2 + _; omega⟩, ?_⟩
  intro G p l e R s m args below meth c A Q C hR ad H locs lsR c0 s0 g hc hs k1
  have hnr : ∀ v ∈ fs, ∀ n, okV n v := by
    intro v hv n q hq
    have := List.all_eq_true.mp hpl v hv
    rw [hq] at this
    cases this
  have hmap : fs.map (cv ad) = fs := by
    refine (List.map_congr_left (fun v hv => ?_)).trans (List.map_id _)
    cases v with
    | ref q => exact absurd (hnr _ hv 0 q rfl) (Nat.not_lt_zero _)
    | _ => rfl
  have hc1 : h.2.2.1 + 1 - c0 ≤ R.cells := hc
  have hs1 : h.2.2.2 + fs.length - s0 ≤ R.slots := hs
  have g8 := g.2.2.2.2.2.2.2.1
  have g9 := g.2.2.2.2.2.2.2.2.1
  refine va_new (ci := ci) (fs := fs) C.1 C.2.1 (ws_in C.2.2.2.2.1 hin) (fun _ h => h) ty0 hty C.2.2.2.1 (C.2.2.2.2.1 _ hw1 rfl _) (C.2.2.2.2.1 _ hw2 rfl _) (C.2.2.2.2.1 _ hw3 rfl _) C.2.2.2.2.2.1 g.1 g.2.1 g.2.2.1 C.2.2.2.2.2.2.2.1 hcl hfs (by omega) (by omega) hd ?_
  intro q H1 hP hD hS
  have he : cE G.2.2.1 ad (.inr (ci, fs)) = .inr (ci, fs) := by show Sum.inr (ci, fs.map (cv ad)) = _; rw [hmap]
  obtain ⟨q1, q2⟩ := gd_new (e := .inr (ci, fs)) (n := fs.length) g (fun _ h => h) (fun v hv => hnr v hv _) (by rw [he]; exact hP) (by rw [he]; exact hD) hS
  have K := k1 _ H1 locs lsR (fun x hx => if_neg (by omega)) q1
  have e1 : h.2.2.1 - c0 + 1 = (hnew h (.inr (ci, fs)) fs.length).2.2.1 - c0 := by show _ = h.2.2.1 + 1 - c0; omega
  have e2 : h.2.2.2 - s0 + N = (hnew h (.inr (ci, fs)) fs.length).2.2.2 - s0 := by show _ = h.2.2.2 + fs.length - s0; omega
  rw [e1, e2]
  rw [List.map_cons, q2] at K
  have e3 : cv (fun x => if x = h.2.1 then q else ad x) (.ref h.2.1) = .ref q := by simp [cv]
  rw [e3] at K
  exact K
end MEM
