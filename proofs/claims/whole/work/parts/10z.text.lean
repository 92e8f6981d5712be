section TEXT
variable {own : String} {cc : ByteArray} {nL : Nat} {mn : String} {rq : Nat × Nat} {pc : Nat}
theorem s_ldcS {idx e0 : Nat} {tx : String} (hd : decode cc pc = .ok (.ldc idx, 2)) (hq : (own, idx, tx, e0) ∈ strs) (he : e0 < 64) : SimX own cc nL mn rq pc 2 (xC (.ref e0)) := by
  refine simP ?_
  intro ls st h ls' st' h' he'
  cases he'
  refine ⟨rfl, rfl, ?_⟩
  intro G p l e R s m args below meth c A Q C hR ad H locs lsR c0 s0 g hc hs
  have h64 := g.2.2.2.1.1
  refine ⟨ok_c (fun q hq => by cases hq; exact Nat.lt_of_lt_of_le he h64) g.2.2.2.2.1, fun k => va_ldcS C.1 C.2.1 C.2.2.2.1 (C.2.2.2.2.2.2.1.2.2.2.2.2.2.2.1 _ hq) hd ?_⟩
  rw [List.map_cons] at k
  have e3 : cv ad (.ref e0) = .ref (G.2.2.2.1 e0) := by show Value.ref (ad e0) = _; rw [g.2.2.2.2.2.2.2.2.2 e0 he]
  rw [e3] at k
  exact k
theorem s_i2c (hd : decode cc pc = .ok (.i2c, 1)) : SimX own cc nL mn rq pc 1 xI2c := by
  refine simP ?_
  intro ls st h ls' st' h' he
  unfold xI2c xI1 at he
  split at he
  · cases he
    refine ⟨rfl, rfl, ?_⟩
    intro G p l e R s m args below meth c A Q C hR ad H locs lsR c0 s0 g hc hs
    exact ⟨ok_c okV_i (ok_t g.2.2.2.2.1), fun k => lv_i2c C.1 C.2.1 hd rfl k⟩
  · cases he
theorem s_compact {idx : Nat} (hd : decode cc pc = .ok (.getstatic idx, 3)) (hw : Cond.fieldLink own idx RJ0 "COMPACT_STRINGS" "Z" ∈ lw_tbl) : SimX own cc nL mn rq pc 3 (xC (.int 1)) := by
  refine simP ?_
  intro ls st h ls' st' h' he
  cases he
  refine ⟨rfl, rfl, ?_⟩
  intro G p l e R s m args below meth c A Q C hR ad H locs lsR c0 s0 g hc hs
  exact ⟨ok_c okV_i g.2.2.2.2.1, fun k => va_gets C.1 C.2.1 C.2.2.2.2.2.2.1.2.2.2.2.2.2.2.2.1 g.2.2.1 C.2.2.2.1 (C.2.2.2.2.1 _ hw rfl _) (fun _ h => h) hd k⟩
/-- a text's place -/
theorem txt_at {xc : Nat → va_E} {h : Hp} {p t n : Nat} {x : (Nat → Int32) ⊕ (Nat → Int64) ⊕ (Nat → UInt32) ⊕ (Nat → UInt64) ⊕ (Nat → Option Nat)} (hw : wfh xc h) (hp : h.1 p = .inl (t, n, x)) (hlt : p < h.2.1) (ht : ¬ t ≤ 4) : p < 64 ∧ xc p = .inl (t, n, x) := by
  rcases Nat.lt_or_ge p 64 with h1 | h1
  · exact ⟨h1, (hw.2.1 p h1).symm.trans hp⟩
  · have hok := hw.2.2 p h1 hlt
    rw [hp] at hok
    match x, hok with
    | .inl f, hok => exact absurd hok ht
    | .inr (.inl f), hok => exact absurd hok ht
    | .inr (.inr (.inl f)), hok => exact absurd hok ht
    | .inr (.inr (.inr (.inl f))), hok => exact absurd hok ht
    | .inr (.inr (.inr (.inr f))), hok => exact absurd hok.1 ht
theorem s_sval {idx : Nat} (hd : decode cc pc = .ok (.getfield idx, 3)) (hw : Cond.fieldLink own idx RJ0 "value" "[B" ∈ lw_tbl) : SimX own cc nL mn rq pc 3 xSval := by
  refine simP ?_
  intro ls st h ls' st' h' he
  unfold xSval at he
  split at he
  · rename_i p r
    split at he
    · rename_i t n x hp
      split at he
      · rename_i ht
        subst ht
        cases he
        refine ⟨rfl, rfl, ?_⟩
        intro G pp l e R s m args below meth c A Q C hR ad H locs lsR c0 s0 g hc hs
        have g4 := g.2.2.2.1
        have g5 := g.2.2.2.2.1
        obtain ⟨h64, hxc⟩ := txt_at g4 hp (g5 _ List.mem_cons_self _ rfl) (by decide)
        obtain ⟨i, hi, rfl⟩ := C.2.2.2.2.2.2.2.2.2.2.2.2.1 p n x h64 hxc
        have hS := (C.2.2.2.2.2.2.1.2.2.2.2.2.2.1 i hi).2.2.1
        have e1 : 3 + i + 20 = 23 + i := by omega
        have a1 := g.2.2.2.2.2.2.2.2.2 (3 + i) h64
        have a2 := g.2.2.2.2.2.2.2.2.2 (23 + i) (by omega)
        refine ⟨ok_c (fun q hq => ?_) (ok_t g5), fun k => ?_⟩
        · cases hq
          have := g4.1
          exact Nat.lt_of_lt_of_le (show 3 + i + 20 < 64 by omega) this
        · rw [List.map_cons] at k ⊢
          show W _ _ _ _ _ _ _ _ _ _ _ _ _ _ _ (F0 m pc lsR (.ref (ad (3 + i)) :: r.map (cv ad)))
          rw [a1]
          refine vk_getf C.1 C.2.1 hS g.2.2.1 C.2.2.2.1 (C.2.2.2.2.1 _ hw rfl _) (fun _ h => h) hd ?_
          have e3 : cv ad (.ref (3 + i + 20)) = .ref (G.2.2.2.1 (23 + i)) := by show Value.ref (ad (3 + i + 20)) = _; rw [e1, a2]
          rw [e3] at k
          exact k
      · cases he
    · cases he
  · cases he
theorem s_scod {idx : Nat} (hd : decode cc pc = .ok (.getfield idx, 3)) (hw : Cond.fieldLink own idx RJ0 "coder" "B" ∈ lw_tbl) : SimX own cc nL mn rq pc 3 xScod := by
  refine simP ?_
  intro ls st h ls' st' h' he
  unfold xScod at he
  split at he
  · rename_i p r
    split at he
    · rename_i t n x hp
      split at he
      · rename_i ht
        subst ht
        cases he
        refine ⟨rfl, rfl, ?_⟩
        intro G pp l e R s m args below meth c A Q C hR ad H locs lsR c0 s0 g hc hs
        have g4 := g.2.2.2.1
        have g5 := g.2.2.2.2.1
        obtain ⟨h64, hxc⟩ := txt_at g4 hp (g5 _ List.mem_cons_self _ rfl) (by decide)
        obtain ⟨i, hi, rfl⟩ := C.2.2.2.2.2.2.2.2.2.2.2.2.1 p n x h64 hxc
        have hS := (C.2.2.2.2.2.2.1.2.2.2.2.2.2.1 i hi).2.1
        have a1 := g.2.2.2.2.2.2.2.2.2 (3 + i) h64
        refine ⟨ok_c okV_i (ok_t g5), fun k => ?_⟩
        rw [List.map_cons] at k ⊢
        show W _ _ _ _ _ _ _ _ _ _ _ _ _ _ _ (F0 m pc lsR (.ref (ad (3 + i)) :: r.map (cv ad)))
        rw [a1]
        exact vk_getf C.1 C.2.1 hS g.2.2.1 C.2.2.2.1 (C.2.2.2.2.1 _ hw rfl _) (fun _ h => h) hd k
      · cases he
    · cases he
  · cases he
theorem s_blen (hd : decode cc pc = .ok (.arraylength, 1)) : SimX own cc nL mn rq pc 1 xBlen := by
  refine simP ?_
  intro ls st h ls' st' h' he
  unfold xBlen at he
  split at he
  · rename_i p r
    split at he
    · rename_i t n x hp
      split at he
      · rename_i ht
        subst ht
        cases he
        refine ⟨rfl, rfl, ?_⟩
        intro G pp l e R s m args below meth c A Q C hR ad H locs lsR c0 s0 g hc hs
        have g4 := g.2.2.2.1
        have g5 := g.2.2.2.2.1
        obtain ⟨h64, hxc⟩ := txt_at g4 hp (g5 _ List.mem_cons_self _ rfl) (by decide)
        obtain ⟨i, hi, rfl, rfl, rfl⟩ := C.2.2.2.2.2.2.2.2.2.2.2.2.2 p n x h64 hxc
        have hS := (C.2.2.2.2.2.2.1.2.2.2.2.2.2.1 i hi).2.2.2
        have a1 := g.2.2.2.2.2.2.2.2.2 (23 + i) h64
        refine ⟨ok_c okV_i (ok_t g5), fun k => ?_⟩
        rw [List.map_cons] at k ⊢
        show W _ _ _ _ _ _ _ _ _ _ _ _ _ _ _ (F0 m pc lsR (.ref (ad (23 + i)) :: r.map (cv ad)))
        rw [a1]
        exact va_tlen C.1 C.2.1 hS g.2.2.1 rfl hd k
      · cases he
    · cases he
  · cases he
theorem s_bld (hd : decode cc pc = .ok (.baload, 1)) : SimX own cc nL mn rq pc 1 xBld := by
  refine simP ?_
  intro ls st h ls' st' h' he
  unfold xBld at he
  split at he
  · rename_i ix p r
    split at he
    · rename_i t n f hp
      split at he
      · rename_i ht
        obtain ⟨rfl, hin⟩ := ht
        cases he
        refine ⟨rfl, rfl, ?_⟩
        intro G pp l e R s m args below meth c A Q C hR ad H locs lsR c0 s0 g hc hs
        have g4 := g.2.2.2.1
        have g5 := g.2.2.2.2.1
        obtain ⟨h64, hxc⟩ := txt_at g4 hp (g5 _ (List.mem_cons_of_mem _ List.mem_cons_self) _ rfl) (by decide)
        obtain ⟨i, hi, rfl, rfl, hf⟩ := C.2.2.2.2.2.2.2.2.2.2.2.2.2 p n _ h64 hxc
        cases hf
        have hS := (C.2.2.2.2.2.2.1.2.2.2.2.2.2.1 i hi).2.2.2
        have a1 := g.2.2.2.2.2.2.2.2.2 (23 + i) h64
        refine ⟨ok_c okV_i (ok_t (ok_t g5)), fun k => ?_⟩
        rw [List.map_cons] at k
        rw [List.map_cons, List.map_cons]
        show W _ _ _ _ _ _ _ _ _ _ _ _ _ _ _ (F0 m pc lsR (.int ix :: .ref (ad (23 + i)) :: r.map (cv ad)))
        rw [a1]
        exact va_tb C.1 C.2.1 hS g.2.2.1 (vin_in hin) rfl hd k
      · cases he
    · cases he
  · cases he
/- the index check of texts: two of the JDK's methods -/
theorem m_pchk (l : Launch) (i n : Int32) (v : Value) (h0 : 0 ≤ i) (h1 : i < n) : Met l yJ3_checkIndex_8e157 [.code yJ3_checkIndex_8e157 cJ3_checkIndex_8e157 3 (some .int)] { frames := 0, cells := 0, slots := 0, locals := 0 } (va_Pc [.int i, .int n, v] (fun _ => v.category = 1)) (fun _ st o t => o = .returned (some (.int i)) ∧ t.heap = st.heap) 0 0 (fun _ => False) := by
  refine Met.ofW (cc := cJ3_checkIndex_8e157) (maxL := 3) (ret := some .int) (by decide) rfl ?_
  intro p e s m args below meth c s₁ B hml hv
  obtain ⟨rfl, hcat⟩ := hv
  have hx := B.exec
  have hb := B.bytes
  have hr := B.returns
  have hlocks := B.notSynchronized
  have hlen : (lg_sl ([.int i, .int n, v])).length ≤ 3 := by
    have e9 : lg_sl ([.int i, .int n, v]) = [.val (.int i), .val (.int n), .val v] := by
      unfold lg_sl
      rw [List.flatMap_cons, List.flatMap_cons, List.flatMap_cons, List.flatMap_nil, hcat]
      rfl
    rw [e9]
    exact Nat.le_refl 3
  have hl := lv_entry ([.int i, .int n, v]) (n := 3) hlen
  rw [lg_entry_eq]
  generalize (lg_sl ([.int i, .int n, v]) ++ List.replicate (3 - (lg_sl ([.int i, .int n, v])).length) Slot.unset).toArray = ls at hl ⊢
  refine lv_iload_n hx hb (show decode cJ3_checkIndex_8e157 0 = .ok (.iload_n 0, 1) by decide +kernel) rfl (lv_at hl 0 rfl) ?_
  refine lv_if_lt (tgt := 9) hx hb (show decode cJ3_checkIndex_8e157 1 = .ok (.ifCond .lt 8, 3) by decide +kernel) (by decide) (fun q => absurd q (le_neg h0)) (fun _ => ?_)
  refine lv_iload_n hx hb (show decode cJ3_checkIndex_8e157 4 = .ok (.iload_n 0, 1) by decide +kernel) rfl (lv_at hl 0 rfl) ?_
  refine lv_iload_n hx hb (show decode cJ3_checkIndex_8e157 5 = .ok (.iload_n 1, 1) by decide +kernel) rfl (lv_at hl 1 rfl) ?_
  refine lv_icmp_lt (tgt := 16) hx hb (show decode cJ3_checkIndex_8e157 6 = .ok (.if_icmp .lt 10, 3) by decide +kernel) (by decide) (fun _ => ?_) (fun q => absurd h1 q)
  refine lv_iload_n hx hb (show decode cJ3_checkIndex_8e157 16 = .ok (.iload_n 0, 1) by decide +kernel) rfl (lv_at hl 0 rfl) ?_
  exact W.iret hx hb hr (fun t ht hW => ⟨rfl, ht⟩) (fun q hq => absurd hq List.not_mem_nil) (by decide +kernel) hlocks
theorem m_chk (l : Launch) (i n : Int32) (h0 : 0 ≤ i) (h1 : i < n) (hw1 : Cond.fieldLink RJ0 1053 RJ3 "SIOOBE_FORMATTER" "Ljava/util/function/BiFunction;" ∈ lw_tbl) (hw2 : Cond.methodLink RJ0 1059 yJ3_checkIndex_8e157 ∈ lw_tbl) (hw3 : Cond.static yJ3_checkIndex_8e157 ∈ lw_tbl) (hw4 : Cond.initialized RJ3 ∈ lw_tbl) (hw5 : Cond.code yJ3_checkIndex_8e157 cJ3_checkIndex_8e157 3 (some .int) ∈ lw_tbl) :
    Met l yJ0_checkIndex_df160 [.code yJ0_checkIndex_df160 cJ0_checkIndex_df160 2 none] { frames := 1, cells := 0, slots := 0, locals := 22 } (va_Pc [.int i, .int n] (fun U => Wd U ∧ va_Zq RJ3 "SIOOBE_FORMATTER" "Ljava/util/function/BiFunction;" (fun _ => False) U U.heap)) (fun _ st o t => o = .returned none ∧ t.heap = st.heap) 0 0 (fun _ => False) := by
  refine Met.ofW (cc := cJ0_checkIndex_df160) (maxL := 2) (ret := none) (by decide) rfl ?_
  intro p e s m args below meth c s₁ B hml hv
  obtain ⟨rfl, hwd, hz⟩ := hv
  have hx := B.exec
  have hb := B.bytes
  have hr := B.returns
  have hlocks := B.notSynchronized
  have hown : s.vm.findClass RJ0 = some m.cls := findClass_of_methodNamed B.named
  have hl := lv_entry ([.int i, .int n]) (n := 2) (Nat.le_of_ble_eq_true rfl)
  rw [lg_entry_eq]
  generalize (lg_sl ([.int i, .int n]) ++ List.replicate (2 - (lg_sl ([.int i, .int n])).length) Slot.unset).toArray = ls at hl ⊢
  refine lv_iload_n hx hb (show decode cJ0_checkIndex_df160 0 = .ok (.iload_n 0, 1) by decide +kernel) rfl (lv_at hl 0 rfl) ?_
  refine lv_iload_n hx hb (show decode cJ0_checkIndex_df160 1 = .ok (.iload_n 1, 1) by decide +kernel) rfl (lv_at hl 1 rfl) ?_
  obtain ⟨v, hv, hcat⟩ : ∃ v, va_Z RJ3 "SIOOBE_FORMATTER" "Ljava/util/function/BiFunction;" v (fun _ => False) s s.heap ∧ v.category = 1 := by
    rcases hz with h | ⟨t, h⟩
    · exact ⟨_, h, rfl⟩
    · exact ⟨_, h, rfl⟩
  refine va_gets hx hb hv va_S.rf hown (hwd _ hw1 rfl _) (fun _ h => h) (show decode cJ0_checkIndex_df160 2 = .ok (.getstatic 1053, 3) by decide +kernel) ?_
  have hcb : CallB { frames := 1, cells := 0, slots := 0, locals := 22 } s #[.int i, .int n] RJ0 1059 yJ3_checkIndex_8e157 cJ3_checkIndex_8e157 3 (some .int) [.code yJ3_checkIndex_8e157 cJ3_checkIndex_8e157 3 (some .int)] { frames := 0, cells := 0, slots := 0, locals := 0 } 0 0 3 :=
    ⟨rfl, rfl, Nat.le_refl _, by decide, fun w hw => by rw [List.mem_singleton.mp hw]; exact wd_at hwd hw5 rfl, List.mem_singleton.mpr rfl, hwd _ hw5 rfl _, hwd _ hw4 rfl _, ⟨by decide +kernel, by decide +kernel⟩, fun sig hs => by
      have h9 : (parseMethodDescriptor yJ3_checkIndex_8e157.desc).map (fun d => d.parameters.length) = some 3 := by decide +kernel
      rw [hs] at h9
      exact (Option.some.inj h9).symm, hwd _ hw2 rfl _⟩
  have hrun := va_runS (As := [.int i, .int n, v]) (rest := []) (n := 3) (e := e) (R := { frames := 1, cells := 0, slots := 0, locals := 22 }) (below := below) (meth := meth) (H := s.heap) (locs := []) (cells := 0) (slots := 0) (g := F0 m 5 ls [v, .int n, .int i]) ⟨hx, hb, hml, hown, fun w hw => absurd hw List.not_mem_nil⟩ (m_pchk l i n v h0 h1) ⟨hcb, hwd _ hw3 rfl _⟩ ⟨fun a U g mk h => h, fun U hU hW => ⟨rfl, hcat⟩⟩ rfl rfl hl.1 rfl (Nat.le_of_ble_eq_true rfl) (show decode cJ0_checkIndex_df160 5 = .ok (.invokestatic 1059, 3) by decide +kernel) ⟨Nat.le_refl _, Nat.le_refl _⟩ (Ts := [])
  refine go_call hrun ?_
  rintro v9 st₀ t L hh0 hal ⟨ho, hheap⟩ hL
  cases ho
  have hLn : L = [] := List.eq_nil_iff_forall_not_mem.mpr (fun q hq => hL q hq)
  subst hLn
  rw [hheap, hh0]
  refine lv_pop hx hb (show decode cJ0_checkIndex_df160 8 = .ok (.pop, 1) by decide +kernel) rfl ?_
  exact W.vret hx hb hr (fun t ht hW => ⟨rfl, ht⟩) (fun q hq => absurd hq List.not_mem_nil) (show decode cJ0_checkIndex_df160 9 = .ok (.return_, 1) by decide +kernel) hlocks
theorem s_chk {idx : Nat} (hd : decode cc pc = .ok (.invokestatic idx, 3)) (hw0 : Cond.methodLink own idx yJ0_checkIndex_df160 ∈ lw_tbl) (hw1 : Cond.fieldLink RJ0 1053 RJ3 "SIOOBE_FORMATTER" "Ljava/util/function/BiFunction;" ∈ lw_tbl) (hw2 : Cond.methodLink RJ0 1059 yJ3_checkIndex_8e157 ∈ lw_tbl) (hw3 : Cond.static yJ3_checkIndex_8e157 ∈ lw_tbl) (hw4 : Cond.initialized RJ3 ∈ lw_tbl) (hw5 : Cond.code yJ3_checkIndex_8e157 cJ3_checkIndex_8e157 3 (some .int) ∈ lw_tbl)
    (hw6 : Cond.static yJ0_checkIndex_df160 ∈ lw_tbl) (hw7 : Cond.initialized RJ0 ∈ lw_tbl) (hw8 : Cond.code yJ0_checkIndex_df160 cJ0_checkIndex_df160 2 none ∈ lw_tbl) (hq : 2 ≤ rq.1 ∧ 43 ≤ rq.2) : SimX own cc nL mn rq pc 3 xChk := by
  refine simP ?_
  intro ls st h ls' st' h' he
  unfold xChk at he
  split at he
  · rename_i n i r
    split at he
    · rename_i hc
      obtain ⟨h0, h1, hl⟩ := hc
      cases he
      refine ⟨rfl, rfl, ?_⟩
      intro G p l e R s m args below meth c A Q C hR ad H locs lsR c0 s0 g hc hs
      refine ⟨ok_t (ok_t g.2.2.2.2.1), fun k => ?_⟩
      have hwd := C.2.2.2.2.1
      have hcb : CallB R s args own idx yJ0_checkIndex_df160 cJ0_checkIndex_df160 2 none [.code yJ0_checkIndex_df160 cJ0_checkIndex_df160 2 none] { frames := 1, cells := 0, slots := 0, locals := 22 } 0 0 2 :=
        ⟨rfl, rfl, by show 1 + 1 ≤ _; omega, by show 8 + (2 + 11) + 22 ≤ _; omega, fun w hw => by rw [List.mem_singleton.mp hw]; exact wd_at hwd hw8 rfl, List.mem_singleton.mpr rfl, hwd _ hw8 rfl _, hwd _ hw7 rfl _, ⟨by decide +kernel, by decide +kernel⟩, fun sig hs => by
          have h9 : (parseMethodDescriptor yJ0_checkIndex_df160.desc).map (fun d => d.parameters.length) = some 2 := by decide +kernel
          rw [hs] at h9
          exact (Option.some.inj h9).symm, hwd _ hw0 rfl _⟩
      have hzq : va_Zq RJ3 "SIOOBE_FORMATTER" "Ljava/util/function/BiFunction;" (fun _ => False) s H := (C.2.2.2.2.2.2.1.2.2.2.2.2.2.2.2.2.kept g.2.2.1.2.1).narrow (fun q h => h.elim)
      have hrun := va_runS (As := [.int i, .int n]) (rest := st'.map (cv ad)) (n := 2) (e := e) (R := R) (below := below) (meth := meth) (H := H) (locs := locs) (cells := h.2.2.1 - c0) (slots := h.2.2.2 - s0) (g := F0 m pc lsR (.int n :: .int i :: st'.map (cv ad))) (nL := nL) ⟨C.1, C.2.1, C.2.2.1, C.2.2.2.1, fun w hw => absurd hw List.not_mem_nil⟩ (m_chk l i n h0 h1 hw1 hw2 hw3 hw4 hw5) ⟨hcb, hwd _ hw6 rfl _⟩ ⟨fun a U g mk h => ⟨h.1, Wd.warm (s := U) (U := U.calling g mk a) h.2.1 (State.WarmedH.refl U), va_Zq.moved (u := U) (U := U.calling g mk a) (Vm.Alike.refl U.vm) h.2.2⟩, fun U hU hW => ⟨rfl, hwd.warm hW, by rw [hU]; exact hzq.moved hW.alike⟩⟩ rfl rfl g.2.2.2.2.2.2.1.2.1 rfl (cat_le hl) hd ⟨hc, hs⟩ (Ts := [])
      refine go_call hrun ?_
      rintro v9 st₀ t L hh0 hal ⟨ho, hheap⟩ hL
      cases ho
      have hLn : L = [] := List.eq_nil_iff_forall_not_mem.mpr (fun q hq => hL q hq)
      subst hLn
      rw [hheap, hh0, List.append_nil]
      exact k
    · cases he
  · cases he
end TEXT
