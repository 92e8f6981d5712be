theorem cat_le {ad : Nat → Nat} {r : Vs} {m : MethodId} {pc : Nat} {lsR : Array Slot} {st : List Value} (h : catS r ≤ 8) : 2 * (F0 m pc lsR st).monitorRoom + ((r.map (cv ad)).map fun v => v.category).sum ≤ 8 := by
  have := sum_le (ad := ad) h
  show 2 * 0 + _ ≤ 8
  omega
section GO
variable {p : Program} {l : Launch} {e : Env} {R : Room} {s : State} {m : MethodId} {args : Array Value} {below : List Frame} {meth : Method} {c : Code} {H : Heap} {locs : List Loc} {cells slots mc ms : Nat} {Q : State → Prop} {pc : Nat} {lsR : Array Slot} {st0 rest : List Value} {free : Addr → Prop}
theorem go_call {Qa : State → Outcome → State → Prop} (hr : va_Run p l e R s m args below meth c H locs cells slots mc ms (F0 m pc lsR st0) rest Qa free)
    (kk : ∀ (v : Option Value) (st₀ t : State) (L : List Loc), st₀.heap = H → s.vm.Alike t.vm → Qa st₀ (.returned v) t → (∀ q ∈ L, free q.base) → W p l e R s m args below meth c t.heap (locs ++ L) (cells + mc) (slots + ms) Q (F0 m (pc + 3) lsR (v.toList ++ rest))) : W p l e R s m args below meth c H locs cells slots Q (F0 m pc lsR st0) := by
  intro T hT X
  obtain ⟨v, st₀, t, T', L, h0, X', hL, e1, e2, hQ, st⟩ := hr T hT X
  obtain ⟨t2, a1, b1⟩ := kk v st₀ t L h0 (by rw [← e2]; exact X'.warmed.alike) hQ hL T' e1 X'
  exact ⟨t2, st t2 a1, b1⟩
theorem go_callT {XC : String → State → State → Prop} (hr : vx_Run p l e R s m args below meth c H locs cells slots mc ms (F0 m pc lsR st0) rest (fun _ _ _ => False) XC free)
    (kx : ∀ (q : Addr) (st₀ t : State) (L : List Loc) (E : String) (ce : Cell), st₀.heap = H → s.vm.Alike t.vm → XC E st₀ t → (∀ q ∈ L, free q.base) → t.heap[q]? = some ce → ce.vm = .none → s.vm.findClass E = some ce.cls → vx_W p l e R s m args below meth c t.heap (locs ++ L) (cells + mc) (slots + ms) Q (F0 m pc lsR rest) q) : W p l e R s m args below meth c H locs cells slots Q (F0 m pc lsR st0) := by
  intro T hT X
  rcases hr T hT X with ⟨v, st₀, t, T', L, h0, X', hL, e1, e2, hQ, st⟩ | ⟨q, st₀, t, T', L, E, ce, h0, X', hL, e1, e2, hX, hc, hv, hcl, st⟩
  · exact hQ.elim
  · obtain ⟨t2, a1, b1⟩ := kx q st₀ t L E ce h0 (by rw [← e2]; exact X'.warmed.alike) hX hL hc hv hcl T' e1 X'
    exact ⟨t2, st.trans a1, b1⟩
end GO
theorem Gd.sub {G : GG} {ad : Nat → Nat} {nL : Nat} {ls : Lo} {st st' : Vs} {h : Hp} {A : Nat → Prop} {H0 H : Heap} {locs : List Loc} {lsR : Array Slot} {c0 s0 : Nat} (g : Gd G ad nL ls st h A H0 H locs lsR c0 s0) (hs : ∀ v ∈ st', v ∈ st) : Gd G ad nL ls st' h A H0 H locs lsR c0 s0 := by
  obtain ⟨g1, g2, g3, g4, g5, g6⟩ := g
  exact ⟨g1, g2, g3, g4, fun v hv => g5 v (hs v hv), g6⟩
/-- what a call may change is ours -/
theorem own_AA {A : Nat → Prop} {ws : va_W} {H0 H : Heap} {locs : List Loc} (hD : va_D A ws) (hS : va_S A H0 H locs) (hA : ∀ q, H0.size ≤ q → A q) : ∀ q, va_A ws H.size q → A q := by
  rintro q (⟨k, e, h⟩ | h)
  · exact hD.2 k (q, e) h
  · exact hA q (Nat.le_trans hS.1 h)
theorem va_S.next {A B : Nat → Prop} {H0 H : Heap} {locs L : List Loc} {st₀ t : State} (hS : va_S A H0 H locs) (h0 : st₀.heap = H) (hF : va_F B st₀ t) (hB : ∀ q, B q → A q) (hL : ∀ z ∈ L, A z.base) : va_S A H0 t.heap (locs ++ L) := by
  obtain ⟨f1, f2⟩ := hF
  rw [h0] at f1 f2
  refine ⟨Nat.le_trans hS.1 f1, fun q h1 h2 => ?_, fun z hz => ?_⟩
  · rw [f2 q (Nat.lt_of_lt_of_le h1 hS.1) (fun z => h2 (hB q z))]
    exact hS.2.1 q h1 h2
  · rcases List.mem_append.mp hz with h | h
    · exact hS.2.2 z h
    · exact hL z h
theorem pcM_at {G : GG} {own : String} {cc : ByteArray} {nL : Nat} {mn : String} {p : Program} {l : Launch} {s : State} {m : MethodId} {meth : Method} {c : Code} {A : Nat → Prop} (C : Cx G own cc nL mn p l s m meth c A) {ad : Nat → Nat} {ls : Lo} {st : Vs} {h : Hp} {H : Heap} {locs : List Loc} {lsR : Array Slot} {c0 s0 : Nat} (g : Gd G ad nL ls st h A s.heap H locs lsR c0 s0) {as : Vs} :
    ∀ U : State, U.heap = H → s.WarmedH U.vm → PcM G ad h as H.size (as.map (cv ad)).toArray U := by
  intro U hU hW
  refine ⟨rfl, by rw [hU], by rw [hU]; exact g.1, g.2.1.weaken (fun _ _ _ _ => trivial), va_K.moved hW.alike C.2.2.2.2.2.1, C.2.2.2.2.1.warm hW, ?_⟩
  rw [hU]
  exact ((C.2.2.2.2.2.2.1.kept (fun a h1 h2 => g.2.2.1.2.1 a h1 h2)).narrow (own_AA g.2.1 g.2.2.1 C.2.2.2.2.2.2.2.1)).moved hW
/-- behind a call: the caller's frame over the new heap -/
theorem gd_back {G : GG} {own : String} {cc : ByteArray} {nL : Nat} {mn : String} {p : Program} {l : Launch} {s : State} {m : MethodId} {meth : Method} {c : Code} {A : Nat → Prop} (C : Cx G own cc nL mn p l s m meth c A) {ad ad' : Nat → Nat} {ls : Lo} {st r : Vs} {h h3 : Hp} {H : Heap} {locs L : List Loc} {lsR : Array Slot} {c0 s0 : Nat} {v : Option Value} {st₀ t : State} (g : Gd G ad nL ls st h A s.heap H locs lsR c0 s0) (hr : ∀ v ∈ r, v ∈ st)
    (hm : h.2.1 ≤ h3.2.1 ∧ h.2.2.1 ≤ h3.2.2.1 ∧ h.2.2.2 ≤ h3.2.2.2) (h0 : st₀.heap = H) (hag : ∀ q, q < h.2.1 → ad' q = ad q) (hP : va_P (G.1, G.2.1) vwCl (wl G.2.2.1 ad' h3) t.heap) (hD : va_D (va_A (wl G.2.2.1 ad h) H.size) (wl G.2.2.1 ad' h3)) (hE : ∀ e, e < 64 → ad' e = G.2.2.2.1 e) (hw : wfh G.2.2.2.2 h3) (hv : ∀ u, v = some u → okV h3.2.1 u) (hF : va_F (va_A (wl G.2.2.1 ad h) H.size) st₀ t) (hL : ∀ z ∈ L, va_A (wl G.2.2.1 ad h) H.size z.base) :
    Gd G ad' nL ls (v.toList ++ r) h3 A s.heap t.heap (locs ++ L) lsR c0 s0 ∧ r.map (cv ad') = r.map (cv ad) := by
  have hA := own_AA g.2.1 g.2.2.1 C.2.2.2.2.2.2.2.1
  obtain ⟨g1, g2, g3, g4, g5, g6, g7, g8, g9, g10⟩ := g
  refine ⟨⟨hP, hD.weaken (fun k q _ h => hA q.1 h), g3.next h0 hF hA (fun z hz => hA _ (hL z hz)), hw, ?_, fun w hw => okV_le hm.1 (g6 w hw), ⟨g7.1, by rw [kl_ext hag ls 0 g6]; exact g7.2⟩, Nat.le_trans g8 hm.2.1, Nat.le_trans g9 hm.2.2, hE⟩, map_ext hag (fun w hw => g5 w (hr w hw))⟩
  intro w hw
  rcases List.mem_append.mp hw with h | h
  · cases v with
    | none => cases h
    | some u => exact (List.mem_singleton.mp h) ▸ hv u rfl
  · exact okV_le hm.1 (g5 w (hr w h))
section RUN
variable (mi : Nat → MI) (bpc : Nat → Nat → Nat) (blk : Nat → Nat → Bk)
theorem sim_run (hB : ∀ k b, BkOK mi (mi k) (bpc k) b (blk k b)) (h00 : ∀ k, bpc k 0 = 0) : ∀ (f k b : Nat) (ls : Lo) (st : Vs) (h : Hp) (r : Option Value ⊕ String) (h' : Hp), arun (fun k => (mi k).2.2.1) blk f k b ls st h = some (r, h') → SimR mi bpc k b ls st h r h' := by
  intro f
  induction f with
  | zero => intro k b ls st h r h' hr; cases hr
  | succ f ih =>
    intro k b ls st h r h' hr
    have hr : stp (fun k => (mi k).2.2.1) (arun (fun k => (mi k).2.2.1) blk f) k (blk k b) ls st h = some (r, h') := hr
    obtain ⟨pe, hL, hT⟩ := hB k b
    unfold stp at hr
    cases he : exL (blk k b).1 ls st h with
    | none => rw [he] at hr; cases hr
    | some q =>
      obtain ⟨l1, s1, h1⟩ := q
      rw [he] at hr
      simp only at hr
      obtain ⟨⟨m1, m2, m3⟩, kL⟩ := sim_L _ _ _ hL he
      have hT1 := hT l1 s1 h1
      cases ht : (blk k b).2 l1 s1 h1 with
      | none => rw [ht] at hr; cases hr
      | some q =>
        rw [ht] at hr hT1
        match q, hr, hT1 with
        | .inl (b', l2, s2, h2), hr, hT1 =>
          obtain ⟨rfl, rfl, hsub, hW⟩ := hT1
          have hr : arun (fun k => (mi k).2.2.1) blk f k b' l2 s2 h2 = some (r, h') := hr
          obtain ⟨⟨n1, n2, n3⟩, kR⟩ := ih _ _ _ _ _ _ _ hr
          refine ⟨⟨Nat.le_trans m1 n1, Nat.le_trans m2 n2, Nat.le_trans m3 n3⟩, ?_⟩
          intro G p l e R s m args below meth c A Q C hR hTb ad H locs lsR c0 s0 g hc hs F
          refine kL G C hR g (by omega) (by omega) ?_
          intro ad1 H1 locs1 lsR1 hag g1
          refine hW C.1 C.2.1 ?_
          exact kR G C hR hTb (g1.sub hsub) hc hs (F.mono m1 hag)
        | .inr (.inl (.inl v, h2)), hr, hT1 =>
          obtain ⟨rfl, rfl, hd, hv⟩ := hT1
          have hr : some (Sum.inl v, h2) = some (r, h') := hr
          cases hr
          refine ⟨⟨m1, m2, m3⟩, ?_⟩
          intro G p l e R s m args below meth c A Q C hR hTb ad H locs lsR c0 s0 g hc hs F
          refine kL G C hR g hc hs ?_
          intro ad1 H1 locs1 lsR1 hag g1
          exact F ad1 H1 locs1 l1 lsR1 pe hag g1 hd hv
        | .inr (.inl (.inr E, h2)), hr, hT1 =>
          obtain ⟨rfl, rfl, ik, ic, names, d0, d3, d4, d7, hfit, hnames, hws, hq1, hq2⟩ := hT1
          have hr : some (Sum.inr E, hexc h1) = some (r, h') := hr
          cases hr
          refine ⟨⟨m1, Nat.le_trans m2 (Nat.le_succ _), Nat.le_trans m3 (Nat.le_add_right _ _)⟩, ?_⟩
          intro G p l e R s m args below meth c A Q C hR hTb ad H locs lsR c0 s0 g hc hs F
          have hc' : h1.2.2.1 + 1 - c0 ≤ R.cells := hc
          have hs' : h1.2.2.2 + 6 - s0 ≤ R.slots := hs
          refine kL G C hR g (by omega) (by omega) ?_
          intro ad1 H1 locs1 lsR1 hag g1
          obtain ⟨hh, XC, mc, ms, free, rfl, f1, f2, f3, f4⟩ := F
          have f1' : h1.2.2.1 + 1 - c0 ≤ mc := f1
          have f2' : h1.2.2.2 + 6 - s0 ≤ ms := f2
          have g8 := g1.2.2.2.2.2.2.2.1
          have g9 := g1.2.2.2.2.2.2.2.2.1
          have hw9 : ∀ w ∈ Cond.classLink (mi k).1 ik E :: Cond.initialized E :: vx_at0 (mi k).1 ic E names, ∀ a, w.before a s = true := fun w hw a => C.2.2.2.2.1 w (hws w hw).1 (hws w hw).2.1 a
          have ex := C.2.2.2.2.2.2.1
          refine vx_throw0 (rest := []) C.1 C.2.1 C.2.2.2.2.2.2.2.2.1 C.2.2.2.1 hfit hnames (hw9 _ List.mem_cons_self _) (hw9 _ (List.mem_cons_of_mem _ List.mem_cons_self) _) (fun w hw => hw9 w (List.mem_cons_of_mem _ (List.mem_cons_of_mem _ hw)) _) (fun w hw => (hws w hw).2.2)
            ex.2.2.2.1 ex.2.2.2.2.1 g1.2.2.1 (by rw [C.2.2.1]; exact g1.2.2.2.2.2.2.1.2.1) d0 d3 d4 d7 ?_ (by omega) ?_ (by omega) (by omega) C.2.2.2.2.2.2.2.2.2.1 ?_ (fun z hz => f3 _ (g1.2.2.1.2.2 z hz)) (by omega) (by omega)
          · intro x hx
            rw [hTb, hh] at hx
            cases hx
          · show 0 + _ ≤ _
            omega
          · intro t hal hsz hkp
            exact f4 ad1 H1 locs1 t hag g1.1 g1.2.1 g1.2.2.1 g1.2.2.2.1 g1.2.2.2.2.2.2.2.2.2 hal hsz hkp
        | .inr (.inr (m', as, b', l2, rest, h2, hs)), hr, hT1 =>
          obtain ⟨rfl, rfl, hrs, has, hpc, hlen, hcall, hnh, hM, hhan⟩ := hT1
          have hr : aft (arun (fun k => (mi k).2.2.1) blk f) k b' l2 rest hs (arun (fun k => (mi k).2.2.1) blk f m' 0 (entL (mi m').2.2.1 as) [] h2) = some (r, h') := hr
          cases hcr : arun (fun k => (mi k).2.2.1) blk f m' 0 (entL (mi m').2.2.1 as) [] h2 with
          | none => rw [hcr] at hr; cases hr
          | some q =>
            rw [hcr] at hr
            obtain ⟨q1, h3⟩ := q
            have S1 := ih _ _ _ _ _ _ _ hcr
            have S1m := S1.1
            cases q1 with
            | inl v =>
              have hr : arun (fun k => (mi k).2.2.1) blk f k b' l2 (v.toList ++ rest) h3 = some (r, h') := hr
              obtain ⟨⟨n1, n2, n3⟩, kR⟩ := ih _ _ _ _ _ _ _ hr
              refine ⟨⟨by omega, by omega, by omega⟩, ?_⟩
              intro G p l e R s m args below meth c A Q C hR hTb ad H locs lsR c0 s0 g hc hss F
              refine kL G C hR g (by omega) (by omega) ?_
              intro ad1 H1 locs1 lsR1 hag g1
              have g8 := g1.2.2.2.2.2.2.2.1
              have g9 := g1.2.2.2.2.2.2.2.2.1
              have ctr := ctrR_of mi bpc (l := l) C.2.2.2.2.2.2.2.2.1 C.2.2.2.2.2.2.2.2.2.2.2 hM S1 (h00 m') hlen g1.2.2.2.1 (fun v hv => g1.2.2.2.2.1 v (has v hv)) g1.2.2.2.2.2.2.2.2.2 H1.size
              have hrun := (hcall G (e := e) (args := args) (below := below) (locs := locs1) (lsR := lsR1) (cells := h2.2.2.1 - c0) (slots := h2.2.2.2 - s0) C hR g1.1 g1.2.2.2.1 g1.2.2.2.2.1 g1.2.2.2.2.2.2.1.2.1 g1.2.2.1 g1.2.2.2.2.2.2.2.2.2 blind_M (pcM_at C g1) (mc := h3.2.2.1 - h2.2.2.1) (ms := h3.2.2.2 - h2.2.2.2) (by omega) (by omega)).1 _ ctr
              refine go_call hrun ?_
              rintro v9 st₀ t L h0 hal ⟨⟨ad', hag', ho, hP, hD, hE, hw, hv⟩, hF⟩ hL
              cases ho
              obtain ⟨g2, e2⟩ := gd_back C g1 hrs S1m h0 hag' hP hD hE hw hv hF hL
              rw [show h2.2.2.1 - c0 + (h3.2.2.1 - h2.2.2.1) = h3.2.2.1 - c0 by omega, show h2.2.2.2 - s0 + (h3.2.2.2 - h2.2.2.2) = h3.2.2.2 - s0 by omega, ← e2, ← hpc]
              have K := kR G (e := e) (R := R) (args := args) (below := below) (Q := Q) C hR hTb g2 hc hss (F.mono (by omega) (fun q hq => (hag' q (by omega)).trans (hag q hq)))
              rw [List.map_append] at K
              cases v with
              | none => exact K
              | some u => exact K
            | inr E =>
              cases hs with
              | none => cases hr
              | some hs' =>
                have hnh' := hnh (fun h => nomatch h)
                cases hn : hnd E hs' with
                | none =>
                  have hr : (match hnd E hs' with
                    | none => some (Sum.inr E, h3)
                    | some (_, b'') => arun (fun k => (mi k).2.2.1) blk f k b'' (l2.map (fun _ => none)) [] h3) = some (r, h') := hr
                  rw [hn] at hr
                  have hr2 := Option.some.inj hr
                  have e1 : Sum.inr E = r := congrArg Prod.fst hr2
                  have e3 : h3 = h' := congrArg Prod.snd hr2
                  subst e1
                  subst e3
                  refine ⟨⟨by omega, by omega, by omega⟩, ?_⟩
                  intro G p l e R s m args below meth c A Q C hR hTb ad H locs lsR c0 s0 g hc hss F
                  refine kL G C hR g (by omega) (by omega) ?_
                  intro ad1 H1 locs1 lsR1 hag g1
                  have g8 := g1.2.2.2.2.2.2.2.1
                  have g9 := g1.2.2.2.2.2.2.2.2.1
                  have ctr := ctrT_of mi bpc (l := l) C.2.2.2.2.2.2.2.2.1 C.2.2.2.2.2.2.2.2.2.2.2 hM S1 hnh'.1 hnh'.2 (h00 m') hlen g1.2.2.2.1 (fun v hv => g1.2.2.2.2.1 v (has v hv)) g1.2.2.2.2.2.2.2.2.2 H1.size
                  have hrun := (hcall G (e := e) (args := args) (below := below) (locs := locs1) (lsR := lsR1) (cells := h2.2.2.1 - c0) (slots := h2.2.2.2 - s0) C hR g1.1 g1.2.2.2.1 g1.2.2.2.2.1 g1.2.2.2.2.2.2.1.2.1 g1.2.2.1 g1.2.2.2.2.2.2.2.2.2 blind_M (pcM_at C g1) (mc := h3.2.2.1 - h2.2.2.1) (ms := h3.2.2.2 - h2.2.2.2) (by omega) (by omega)).2 (fun h => nomatch h) _ ctr
                  refine go_callT hrun ?_
                  rintro q st₀ t L E' ce h0 hal ⟨rfl, ⟨ad', hag', hP, hD, hE, hw⟩, hF⟩ hL hce hcv hcl
                  obtain ⟨hh, XC, mc, ms, free, rfl, f1, f2, f3, f4⟩ := F
                  obtain ⟨g2, e2⟩ := gd_back (v := none) C g1 hrs S1m h0 hag' hP hD hE hw (fun _ h => nomatch h) hF hL
                  refine vx_out ?_ C.2.2.2.2.2.2.2.2.2.1 hce hcv hcl ?_ (fun z hz => f3 _ (g2.2.2.1.2.2 z hz)) (by omega) (by omega)
                  · intro x hx
                    rw [hTb, hh] at hx
                    cases hx
                  · intro t' ht' hal'
                    exact f4 ad' t.heap _ t' (fun q hq => (hag' q (by omega)).trans (hag q hq)) hP g2.2.1 g2.2.2.1 hw hE hal' (by rw [ht']; exact Nat.le_refl _) (fun q hq => by rw [ht'])
                | some q9 =>
                  obtain ⟨n9, b9⟩ := q9
                  have hr : (match hnd E hs' with
                    | none => some (Sum.inr E, h3)
                    | some (_, b'') => arun (fun k => (mi k).2.2.1) blk f k b'' (l2.map (fun _ => none)) [] h3) = some (r, h') := hr
                  rw [hn] at hr
                  have hr : arun (fun k => (mi k).2.2.1) blk f k b9 (l2.map (fun _ => none)) [] h3 = some (r, h') := hr
                  obtain ⟨⟨n1, n2, n3⟩, kR⟩ := ih _ _ _ _ _ _ _ hr
                  refine ⟨⟨by omega, by omega, by omega⟩, ?_⟩
                  intro G p l e R s m args below meth c A Q C hR hTb ad H locs lsR c0 s0 g hc hss F
                  refine kL G C hR g (by omega) (by omega) ?_
                  intro ad1 H1 locs1 lsR1 hag g1
                  have g8 := g1.2.2.2.2.2.2.2.1
                  have g9 := g1.2.2.2.2.2.2.2.2.1
                  have ctr := ctrT_of mi bpc (l := l) C.2.2.2.2.2.2.2.2.1 C.2.2.2.2.2.2.2.2.2.2.2 hM S1 hnh'.1 hnh'.2 (h00 m') hlen g1.2.2.2.1 (fun v hv => g1.2.2.2.2.1 v (has v hv)) g1.2.2.2.2.2.2.2.2.2 H1.size
                  have hrun := (hcall G (e := e) (args := args) (below := below) (locs := locs1) (lsR := lsR1) (cells := h2.2.2.1 - c0) (slots := h2.2.2.2 - s0) C hR g1.1 g1.2.2.2.1 g1.2.2.2.2.1 g1.2.2.2.2.2.2.1.2.1 g1.2.2.1 g1.2.2.2.2.2.2.2.2.2 blind_M (pcM_at C g1) (mc := h3.2.2.1 - h2.2.2.1) (ms := h3.2.2.2 - h2.2.2.2) (by omega) (by omega)).2 (fun h => nomatch h) _ ctr
                  refine go_callT hrun ?_
                  rintro q st₀ t L E' ce h0 hal ⟨rfl, ⟨ad', hag', hP, hD, hE, hw⟩, hF⟩ hL hce hcv hcl
                  obtain ⟨g2, e2⟩ := gd_back (v := none) C g1 hrs S1m h0 hag' hP hD hE hw (fun _ h => nomatch h) hF hL
                  obtain ⟨pre, x, suf, hsp, hpre, hcov, hct, hlk, hcs, hnL, hst⟩ := hhan hs' rfl E' n9 b9 hn
                  have ex := C.2.2.2.2.2.2.1
                  refine vx_catch C.2.2.2.1 pre x suf (hTb.trans hsp) ?_ hcov hct (C.2.2.2.2.1 _ hlk rfl _) (C.2.2.2.2.1 _ hcs (by unfold kwOK; simp) _) hce hcv hcl ?_
                  · intro z hz
                    rcases hpre z hz with h | ⟨h, nm, hn1, hn2⟩
                    · exact Or.inl h
                    · exact Or.inr ⟨h, nm, C.2.2.2.2.1 _ hn1 rfl _, ex.2.2.2.2.2.1 _ hn2⟩
                  · rw [show h2.2.2.1 - c0 + (h3.2.2.1 - h2.2.2.1) = h3.2.2.1 - c0 by omega, show h2.2.2.2 - s0 + (h3.2.2.2 - h2.2.2.2) = h3.2.2.2 - s0 by omega]
                    have key : ∀ lsR2 : Array Slot, lv_has lsR2 (mi k).2.2.1 [(n9, Value.ref q)] → W p l e R s m args below meth c t.heap (locs1 ++ L) (h3.2.2.1 - c0) (h3.2.2.2 - s0) Q (F0 m (bpc k b9) lsR2 []) := by
                      intro lsR2 hl2
                      obtain ⟨y1, y2, y3, y4, y5, y6, y7, y8⟩ := g2
                      refine kR G (e := e) (R := R) (args := args) (below := below) (Q := Q) C hR hTb ⟨y1, y2, y3, y4, fun v hv => absurd hv List.not_mem_nil, ?_, ⟨by rw [List.length_map]; exact y7.1, hl2.1, hl2.2.1, ?_⟩, y8⟩ hc hss (F.mono (by omega) (fun q hq => (hag' q (by omega)).trans (hag q hq)))
                      · intro v hv
                        obtain ⟨a, -, h⟩ := List.mem_map.mp hv
                        cases h
                      · rintro ⟨j, w⟩ hj
                        obtain ⟨k', u, -, hk', -⟩ := (kl_mem _ _ _ _).mp hj
                        obtain ⟨a, -, h⟩ := List.mem_map.mp (lg_mem hk')
                        cases h
                    have hl0 : lv_has lsR1 (mi k).2.2.1 [] := ⟨g2.2.2.2.2.2.2.1.2.1, g2.2.2.2.2.2.2.1.2.2.1, fun q hq => absurd hq List.not_mem_nil⟩
                    rcases hst with ⟨hd, hb⟩ | ⟨kk, hd, hk, hb⟩
                    · rw [hb] at key
                      exact lv_astore C.1 C.2.1 hd hl0 hnL rfl key
                    · rw [hb] at key
                      exact lv_astore_n C.1 C.2.1 hd hk hl0 hnL rfl key
end RUN
