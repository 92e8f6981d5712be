/-! Methods: what a run of the small machine says of the real one. -/
/-- a method: its class, code, locals, name, answer, room (frames, locals), handlers -/
abbrev MI : Type := String × ByteArray × Nat × MethodName × Option FieldType × (Nat × Nat) × List (Nat × Nat × Nat × Nat)
def retI : Option Value → Instr
  | none => .return_
  | some (.int _) => .ireturn
  | some (.long _) => .lreturn
  | some (.double _) => .dreturn
  | some _ => .areturn
def retOK : Option FieldType → Option Value → Prop
  | none, none => True
  | some .int, some (.int _) => True
  | some .boolean, some (.int x) => x = 0 ∨ x = 1
  | some .byte, some (.int x) => narrow .byte (.int x) = .int x
  | some .char, some (.int x) => narrow .char (.int x) = .int x
  | some .long, some (.long _) => True
  | some .double, some (.double _) => True
  | some (.object _), some (.ref _) => True
  | some (.array _), some (.ref _) => True
  | _, _ => False
def rmOf (i : MI) (mc ms : Nat) : Room := { frames := i.2.2.2.2.2.1.1, cells := mc, slots := ms, locals := i.2.2.2.2.2.1.2 }
def cwd (i : MI) : Cond := .code i.2.2.2.1 i.2.1 i.2.2.1 i.2.2.2.2.1
def cwh (i : MI) : Cond := .codeWith i.2.2.2.1 i.2.1 i.2.2.1 i.2.2.2.2.1 i.2.2.2.2.2.2
/-- a method that returns -/
def CtrR (l : Launch) (i : MI) (Pc : Array Value → State → Prop) (Qc : Array Value → State → Outcome → State → Prop) (mc ms : Nat) (free : Addr → Prop) : Prop :=
  (i.2.2.2.2.2.2 = [] → Met l i.2.2.2.1 [cwd i] (rmOf i mc ms) Pc Qc mc ms free) ∧ (i.2.2.2.2.2.2 ≠ [] → vx_Met l i.2.2.2.1 [cwh i] (rmOf i mc ms) Pc Qc (fun _ _ _ => False) mc ms free)
/-- a method that throws -/
def CtrT (l : Launch) (i : MI) (Pc : Array Value → State → Prop) (XC : String → State → State → Prop) (mc ms : Nat) (free : Addr → Prop) : Prop :=
  vx_Met l i.2.2.2.1 [cwd i] (rmOf i mc ms) Pc (fun _ _ _ _ => False) XC mc ms free
/-- a call: at pc of the method i, of the method j; what its contract gives -/
def CallOK (i : MI) (pc : Nat) (j : MI) (thr : Prop) (as st rest : Vs) (h : Hp) : Prop :=
  ∀ (G : GG) {p : Program} {l : Launch} {e : Env} {R : Room} {s : State} {m : MethodId} {args : Array Value} {below : List Frame} {meth : Method} {c : Code} {A : Nat → Prop} (_ : Cx G i.1 i.2.1 i.2.2.1 i.2.2.2.1.name p l s m meth c A) (_ : i.2.2.2.2.2.1.1 ≤ R.frames ∧ i.2.2.2.2.2.1.2 ≤ R.locals)
    {ad : Nat → Nat} {H : Heap} {locs : List Loc} {lsR : Array Slot} {cells slots mc ms : Nat} {Pc : Array Value → State → Prop} {free : Addr → Prop}, va_P (G.1, G.2.1) vwCl (wl G.2.2.1 ad h) H → (wfh G.2.2.2.2 h) → (∀ v ∈ st, okV h.2.1 v) → lsR.size = i.2.2.1 → va_S A s.heap H locs → (∀ e, e < 64 → ad e = G.2.2.2.1 e) →
    FrameBlind Pc → (∀ U : State, U.heap = H → s.WarmedH U.vm → Pc (as.map (cv ad)).toArray U) → cells + mc ≤ R.cells → slots + ms ≤ R.slots →
    (∀ Qc, CtrR l j Pc Qc mc ms free → va_Run p l e R s m args below meth c H locs cells slots mc ms (F0 m pc lsR (st.map (cv ad))) (rest.map (cv ad)) (Qc (as.map (cv ad)).toArray) free) ∧
    (thr → ∀ XC, CtrT l j Pc XC mc ms free → vx_Run p l e R s m args below meth c H locs cells slots mc ms (F0 m pc lsR (st.map (cv ad))) (rest.map (cv ad)) (fun _ _ _ => False) XC free)
/-- a throw's four instructions -/
def ThrOK (i : MI) (pc : Nat) (E : String) : Prop := ∃ (ik ic : Nat) (names : List String), decode i.2.1 pc = .ok (.new ik, 3) ∧ decode i.2.1 (pc + 3) = .ok (.dup, 1) ∧ decode i.2.1 (pc + 4) = .ok (.invokespecial ic, 3) ∧ decode i.2.1 (pc + 7) = .ok (.athrow, 1) ∧
  Bundle.fit E = true ∧ (∀ n ∈ names, Bundle.fit n = true) ∧ (∀ w ∈ Cond.classLink i.1 ik E :: Cond.initialized E :: vx_at0 i.1 ic E names, w ∈ lw_tbl ∧ kwOK w = true ∧ vx_ot w = true) ∧ names.length + 3 < i.2.2.2.2.2.1.1 ∧ 13 * (names.length + 1) + 42 ≤ i.2.2.2.2.2.1.2
/-- a handler: what is thrown comes to it, is stored, and the block b begins -/
def HanOK (i : MI) (pc : Nat) (bp : Nat → Nat) (hs : List (String × Nat × Nat)) : Prop := ∀ E n b, hnd E hs = some (n, b) → ∃ (pre : List ExceptionTableEntry) (x : ExceptionTableEntry) (suf : List ExceptionTableEntry), tableOf i.2.2.2.2.2.2 = pre ++ x :: suf ∧
  (∀ z ∈ pre, covers z pc = false ∨ (z.catchType ≠ 0 ∧ ∃ nm : String, Cond.classLink i.1 z.catchType nm ∈ lw_tbl ∧ (E, nm) ∈ ncs)) ∧ covers x pc = true ∧ x.catchType ≠ 0 ∧ Cond.classLink i.1 x.catchType E ∈ lw_tbl ∧ Cond.castable E E ∈ lw_tbl ∧ n < i.2.2.1 ∧
  ((decode i.2.1 x.handlerPc = .ok (.astore n, 2) ∧ bp b = x.handlerPc + 2) ∨ ∃ k : Fin 4, decode i.2.1 x.handlerPc = .ok (.astore_n k, 1) ∧ (k : Nat) = n ∧ bp b = x.handlerPc + 1)
/-- what holds of a method, whoever calls it -/
def MOK (i : MI) : Prop := (i.2.2.2.2.2.2 = [] → cwd i ∈ lw_tbl) ∧ (i.2.2.2.2.2.2 ≠ [] → cwh i ∈ lw_tbl ∧ plainName i.2.2.2.1.cls = true) ∧ Cond.initialized i.2.2.2.1.cls ∈ lw_tbl ∧ plainFor i.2.2.2.1 = true ∧ i.2.2.2.1.cls = i.1
section PROG
variable (mi : Nat → MI) (bpc : Nat → Nat → Nat)
/-- what a block's end says, said of the real machine -/
def TRok (i : MI) (bp : Nat → Nat) (pc : Nat) (ls : Lo) (st : Vs) (h : Hp) : TR → Prop
  | none => True
  | some (.inl (b, ls', st', h')) => ls' = ls ∧ h' = h ∧ (∀ v ∈ st', v ∈ st) ∧ ∀ {p : Program} {l : Launch} {e : Env} {R : Room} {s : State} {m : MethodId} {args : Array Value} {below : List Frame} {meth : Method} {c : Code} {H : Heap} {locs : List Loc} {cells slots : Nat} {Q : State → Prop} {ad : Nat → Nat} {lsR : Array Slot}, p.tables.exec = Jvm.exec → c.code = i.2.1 →
      W p l e R s m args below meth c H locs cells slots Q (F0 m (bp b) lsR (st'.map (cv ad))) → W p l e R s m args below meth c H locs cells slots Q (F0 m pc lsR (st.map (cv ad)))
  | some (.inr (.inl (.inl v, h'))) => h' = h ∧ st = v.toList ∧ decode i.2.1 pc = .ok (retI v, 1) ∧ retOK i.2.2.2.2.1 v
  | some (.inr (.inl (.inr E, h'))) => h' = hexc h ∧ st = [] ∧ ThrOK i pc E
  | some (.inr (.inr (m, as, b, ls', rest, h', hs))) => ls' = ls ∧ h' = h ∧ (∀ v ∈ rest, v ∈ st) ∧ (∀ v ∈ as, v ∈ st) ∧ bp b = pc + 3 ∧ (entA as).length ≤ (mi m).2.2.1 ∧ CallOK i pc (mi m) (hs ≠ none) as st rest h ∧ (hs ≠ none → (mi m).2.2.2.2.2.2 = [] ∧ plainName (mi m).2.2.2.1.cls = true) ∧ MOK (mi m) ∧ (∀ hs', hs = some hs' → HanOK i pc bp hs')
def SimT (i : MI) (bp : Nat → Nat) (pc : Nat) (tf : TF) : Prop := ∀ (ls : Lo) (st : Vs) (h : Hp), TRok mi i bp pc ls st h (tf ls st h)
def LOK (own : String) (cc : ByteArray) (nL : Nat) (mn : String) (rq : Nat × Nat) : Nat → List XF → Nat → Prop
  | pc, [], e => pc = e
  | pc, f :: fs, e => ∃ len, SimX own cc nL mn rq pc len f ∧ LOK own cc nL mn rq (pc + len) fs e
def BkOK (i : MI) (bp : Nat → Nat) (b : Nat) (B : Bk) : Prop := ∃ e, LOK i.1 i.2.1 i.2.2.1 i.2.2.2.1.name i.2.2.2.2.2.1 (bp b) B.1 e ∧ SimT mi i bp e B.2
/-- what a run says -/
def FinQ (G : GG) (i : MI) (p : Program) (l : Launch) (e : Env) (R : Room) (s : State) (m : MethodId) (args : Array Value) (below : List Frame) (meth : Method) (c : Code) (A : Nat → Prop) (n0 : Nat) (ad : Nat → Nat) (c0 s0 : Nat) (Q : State → Prop) (h' : Hp) : Option Value ⊕ String → Prop
  | .inl v => ∀ (ad' : Nat → Nat) (H' : Heap) (locs' : List Loc) (ls' : Lo) (lsR' : Array Slot) (pc' : Nat), (∀ q, q < n0 → ad' q = ad q) → Gd G ad' i.2.2.1 ls' v.toList h' A s.heap H' locs' lsR' c0 s0 → decode i.2.1 pc' = .ok (retI v, 1) → retOK i.2.2.2.2.1 v →
      W p l e R s m args below meth c H' locs' (h'.2.2.1 - c0) (h'.2.2.2 - s0) Q (F0 m pc' lsR' (v.toList.map (cv ad')))
  | .inr E => i.2.2.2.2.2.2 = [] ∧ ∃ (XC : String → State → State → Prop) (mc ms : Nat) (free : Addr → Prop), Q = vx_MQ below (fun _ _ _ _ => False) XC args s mc ms free ∧ h'.2.2.1 - c0 ≤ mc ∧ h'.2.2.2 - s0 ≤ ms ∧ (∀ q, A q → free q) ∧
      ∀ (ad' : Nat → Nat) (H1 : Heap) (locs1 : List Loc) (t : State), (∀ q, q < n0 → ad' q = ad q) → va_P (G.1, G.2.1) vwCl (wl G.2.2.1 ad' h') H1 → va_D A (wl G.2.2.1 ad' h') → va_S A s.heap H1 locs1 → wfh G.2.2.2.2 h' → (∀ e, e < 64 → ad' e = G.2.2.2.1 e) → s.vm.Alike t.vm → H1.size ≤ t.heap.size → (∀ q : Nat, q < H1.size → t.heap[q]? = H1[q]?) → XC E s t
def SimR (k b : Nat) (ls : Lo) (st : Vs) (h : Hp) (r : Option Value ⊕ String) (h' : Hp) : Prop :=
  (h.2.1 ≤ h'.2.1 ∧ h.2.2.1 ≤ h'.2.2.1 ∧ h.2.2.2 ≤ h'.2.2.2) ∧
  ∀ (G : GG) {p : Program} {l : Launch} {e : Env} {R : Room} {s : State} {m : MethodId} {args : Array Value} {below : List Frame} {meth : Method} {c : Code} {A : Nat → Prop} {Q : State → Prop} (_ : Cx G (mi k).1 (mi k).2.1 (mi k).2.2.1 (mi k).2.2.2.1.name p l s m meth c A) (_ : (mi k).2.2.2.2.2.1.1 ≤ R.frames ∧ (mi k).2.2.2.2.2.1.2 ≤ R.locals) (_ : c.exceptionTable.toList = tableOf (mi k).2.2.2.2.2.2)
    {ad : Nat → Nat} {H : Heap} {locs : List Loc} {lsR : Array Slot} {c0 s0 : Nat}, Gd G ad (mi k).2.2.1 ls st h A s.heap H locs lsR c0 s0 → h'.2.2.1 - c0 ≤ R.cells → h'.2.2.2 - s0 ≤ R.slots →
    FinQ G (mi k) p l e R s m args below meth c A h.2.1 ad c0 s0 Q h' r →
    W p l e R s m args below meth c H locs (h.2.2.1 - c0) (h.2.2.2 - s0) Q (F0 m (bpc k b) lsR (st.map (cv ad)))
theorem FinQ.mono {G : GG} {i : MI} {p : Program} {l : Launch} {e : Env} {R : Room} {s : State} {m : MethodId} {args : Array Value} {below : List Frame} {meth : Method} {c : Code} {A : Nat → Prop} {n0 n1 : Nat} {ad ad1 : Nat → Nat} {c0 s0 : Nat} {Q : State → Prop} {h' : Hp} {r : Option Value ⊕ String} (hn : n0 ≤ n1) (ha : ∀ q, q < n0 → ad1 q = ad q)
    (F : FinQ G i p l e R s m args below meth c A n0 ad c0 s0 Q h' r) : FinQ G i p l e R s m args below meth c A n1 ad1 c0 s0 Q h' r := by
  cases r with
  | inl v => exact fun ad' H' locs' ls' lsR' pc' hag => F ad' H' locs' ls' lsR' pc' (fun q hq => (hag q (Nat.lt_of_lt_of_le hq hn)).trans (ha q hq))
  | inr E =>
    obtain ⟨h0, XC, mc, ms, free, h1, h2, h3, h4, h5⟩ := F
    exact ⟨h0, XC, mc, ms, free, h1, h2, h3, h4, fun ad' H1 locs1 t hag => h5 ad' H1 locs1 t (fun q hq => (hag q (Nat.lt_of_lt_of_le hq hn)).trans (ha q hq))⟩
/-- a list of steps -/
theorem sim_L {own : String} {cc : ByteArray} {nL : Nat} {mn : String} {rq : Nat × Nat} : ∀ (fs : List XF) (pc pe : Nat) {ls : Lo} {st : Vs} {h : Hp} {ls' : Lo} {st' : Vs} {h' : Hp}, LOK own cc nL mn rq pc fs pe → exL fs ls st h = some (ls', st', h') →
    (h.2.1 ≤ h'.2.1 ∧ h.2.2.1 ≤ h'.2.2.1 ∧ h.2.2.2 ≤ h'.2.2.2) ∧
    ∀ (G : GG) {p : Program} {l : Launch} {e : Env} {R : Room} {s : State} {m : MethodId} {args : Array Value} {below : List Frame} {meth : Method} {c : Code} {A : Nat → Prop} {Q : State → Prop} (_ : Cx G own cc nL mn p l s m meth c A) (_ : rq.1 ≤ R.frames ∧ rq.2 ≤ R.locals)
      {ad : Nat → Nat} {H : Heap} {locs : List Loc} {lsR : Array Slot} {c0 s0 : Nat}, Gd G ad nL ls st h A s.heap H locs lsR c0 s0 → h'.2.2.1 - c0 ≤ R.cells → h'.2.2.2 - s0 ≤ R.slots →
      (∀ (ad' : Nat → Nat) (H' : Heap) (locs' : List Loc) (lsR' : Array Slot), (∀ q, q < h.2.1 → ad' q = ad q) → Gd G ad' nL ls' st' h' A s.heap H' locs' lsR' c0 s0 → W p l e R s m args below meth c H' locs' (h'.2.2.1 - c0) (h'.2.2.2 - s0) Q (F0 m pe lsR' (st'.map (cv ad')))) →
      W p l e R s m args below meth c H locs (h.2.2.1 - c0) (h.2.2.2 - s0) Q (F0 m pc lsR (st.map (cv ad))) := by
  intro fs
  induction fs with
  | nil =>
    intro pc pe ls st h ls' st' h' hL he
    cases he
    have hpe : pc = pe := hL
    subst hpe
    refine ⟨⟨Nat.le_refl _, Nat.le_refl _, Nat.le_refl _⟩, ?_⟩
    intro G p l e R s m args below meth c A Q C hR ad H locs lsR c0 s0 g hc hs k
    exact k ad H locs lsR (fun _ _ => rfl) g
  | cons f fs ih =>
    intro pc pe ls st h ls' st' h' hL he
    obtain ⟨len, h1, h2⟩ := hL
    rw [exL_cons] at he
    cases hf : f ls st h with
    | none => rw [hf] at he; cases he
    | some q =>
      obtain ⟨l1, s1, hh1⟩ := q
      rw [hf] at he
      obtain ⟨⟨m1, m2, m3⟩, k1⟩ := h1 hf
      obtain ⟨⟨n1, n2, n3⟩, k2⟩ := ih (pc + len) pe h2 he
      refine ⟨⟨Nat.le_trans m1 n1, Nat.le_trans m2 n2, Nat.le_trans m3 n3⟩, ?_⟩
      intro G p l e R s m args below meth c A Q C hR ad H locs lsR c0 s0 g hc hs k
      refine k1 G C hR g (by omega) (by omega) ?_
      intro ad1 H1 locs1 lsR1 ha1 g1
      refine k2 G C hR g1 hc hs ?_
      intro ad2 H2 locs2 lsR2 ha2 g2
      exact k ad2 H2 locs2 lsR2 (fun q hq => (ha2 q (Nat.lt_of_lt_of_le hq m1)).trans (ha1 q hq)) g2
/- contracts out of runs -/
def PcM (G : GG) (ad : Nat → Nat) (h : Hp) (as : Vs) (sz : Nat) : Array Value → State → Prop := va_Pc (as.map (cv ad)) (fun U => U.heap.size = sz ∧ va_P (G.1, G.2.1) vwCl (wl G.2.2.1 ad h) U.heap ∧ va_D (fun _ => True) (wl G.2.2.1 ad h) ∧ va_K (G.1, G.2.1) vwCl (gty G.2.2.1) U ∧ Wd U ∧ Ext G (va_A (wl G.2.2.1 ad h) sz) U U.heap)
def QcM (G : GG) (ad : Nat → Nat) (h : Hp) (sz : Nat) (v : Option Value) (h' : Hp) : Array Value → State → Outcome → State → Prop := fun _ st oc t => (∃ ad' : Nat → Nat, (∀ q, q < h.2.1 → ad' q = ad q) ∧ oc = .returned (v.map (cv ad')) ∧ va_P (G.1, G.2.1) vwCl (wl G.2.2.1 ad' h') t.heap ∧ va_D (va_A (wl G.2.2.1 ad h) sz) (wl G.2.2.1 ad' h') ∧ (∀ e, e < 64 → ad' e = G.2.2.2.1 e) ∧ wfh G.2.2.2.2 h' ∧ (∀ u, v = some u → okV h'.2.1 u)) ∧ va_F (va_A (wl G.2.2.1 ad h) sz) st t
def XcM (G : GG) (ad : Nat → Nat) (h : Hp) (sz : Nat) (E : String) (h' : Hp) : String → State → State → Prop := fun E' st t => E' = E ∧ (∃ ad' : Nat → Nat, (∀ q, q < h.2.1 → ad' q = ad q) ∧ va_P (G.1, G.2.1) vwCl (wl G.2.2.1 ad' h') t.heap ∧ va_D (va_A (wl G.2.2.1 ad h) sz) (wl G.2.2.1 ad' h') ∧ (∀ e, e < 64 → ad' e = G.2.2.2.1 e) ∧ wfh G.2.2.2.2 h') ∧ va_F (va_A (wl G.2.2.1 ad h) sz) st t
theorem blind_M {G : GG} {ad : Nat → Nat} {h : Hp} {as : Vs} {sz : Nat} : FrameBlind (PcM G ad h as sz) := by
  intro a U g mk hp
  obtain ⟨h0, h1, h2, h3, h4, h5, h6⟩ := hp
  exact ⟨h0, h1, h2, h3, va_K.moved (u := U) (U := U.calling g mk a) (Vm.Alike.refl U.vm) h4, Wd.warm (s := U) (U := U.calling g mk a) h5 (State.WarmedH.refl U), Ext.moved (u := U) (U := U.calling g mk a) (State.WarmedH.refl U) h6⟩
theorem entA_kl {ad : Nat → Nat} : ∀ (as : Vs) (i n : Nat), kl (cv ad) i (entA as ++ List.replicate n none) = lv_args i (as.map (cv ad))
  | [], i, n => by
    have : ∀ (n i : Nat), kl (cv ad) i (List.replicate n none) = [] := by
      intro n
      induction n with
      | zero => intro i; rfl
      | succ n ih => intro i; simp only [List.replicate_succ, kl]; exact ih _
    simp only [entA, List.nil_append, List.map_nil, lv_args]
    exact this n i
  | v :: as, i, n => by
    simp only [entA, List.map_cons, lv_args, cv_cat]
    by_cases hv : v.category = 2
    · rw [if_pos hv, if_pos hv]
      simp only [List.cons_append, kl]
      rw [entA_kl as]
    · rw [if_neg hv, if_neg hv]
      simp only [List.cons_append, kl]
      rw [entA_kl as]
theorem entA_len {ad : Nat → Nat} : ∀ (as : Vs), (lg_sl (as.map (cv ad))).length = (entA as).length
  | [] => rfl
  | v :: as => by
    have ih := entA_len (ad := ad) as
    unfold lg_sl at ih ⊢
    simp only [List.map_cons, List.flatMap_cons, List.length_append, entA, cv_cat]
    by_cases hv : v.category = 2
    · rw [if_pos hv, if_pos hv]; simp only [List.length_cons, List.length_nil]; omega
    · rw [if_neg hv, if_neg hv]; simp only [List.length_cons, List.length_nil]; omega
theorem entA_mem : ∀ (as : Vs) (v : Value), some v ∈ entA as → v ∈ as
  | [], _, h => nomatch h
  | w :: as, v, h => by
    simp only [entA] at h
    split at h
    · rcases List.mem_cons.mp h with h | h
      · cases h; exact List.mem_cons_self
      · rcases List.mem_cons.mp h with h | h
        · cases h
        · exact List.mem_cons_of_mem _ (entA_mem as v h)
    · rcases List.mem_cons.mp h with h | h
      · cases h; exact List.mem_cons_self
      · exact List.mem_cons_of_mem _ (entA_mem as v h)
theorem entL_mem {n : Nat} {as : Vs} {v : Value} (h : some v ∈ entL n as) : v ∈ as := by
  unfold entL at h
  rcases List.mem_append.mp h with h | h
  · exact entA_mem as v h
  · have := (List.mem_replicate.mp h).2
    cases this
/-- a method's start -/
theorem gd_start {G : GG} {ad : Nat → Nat} {h : Hp} {as : Vs} {nL : Nat} {s : State} (hx : (entA as).length ≤ nL) (hw : wfh G.2.2.2.2 h) (ho : ∀ v ∈ as, okV h.2.1 v) (he : ∀ e, e < 64 → ad e = G.2.2.2.1 e) (hP : va_P (G.1, G.2.1) vwCl (wl G.2.2.1 ad h) s.heap) (hD : va_D (fun _ => True) (wl G.2.2.1 ad h)) :
    Gd G ad nL (entL nL as) [] h (va_A (wl G.2.2.1 ad h) s.heap.size) s.heap s.heap [] (lg_sl (as.map (cv ad)) ++ List.replicate (nL - (lg_sl (as.map (cv ad))).length) Slot.unset).toArray h.2.2.1 h.2.2.2 := by
  refine ⟨hP, hD.self, va_S.rf, hw, fun v hv => absurd hv List.not_mem_nil, fun v hv => ho v (entL_mem hv), ⟨?_, ?_⟩, Nat.le_refl _, Nat.le_refl _, he⟩
  · unfold entL
    rw [List.length_append, List.length_replicate]
    omega
  · unfold entL
    rw [entA_kl]
    exact lv_entry _ (by rw [entA_len]; exact hx)
theorem wd_at {s : State} {w : Cond} (h : Wd s) (hw : w ∈ lw_tbl) (hk : kwOK w = true) : ∀ (a' : Array Value) (U : State), s.WarmedH U.vm → w.before a' U = true := fun a' U hW => kw_warm hk hW (h w hw hk #[])
theorem ret_W {G : GG} {i : MI} {ad : Nat → Nat} {v : Option Value} {p : Program} {l : Launch} {e : Env} {R : Room} {s : State} {m : MethodId} {args : Array Value} {below : List Frame} {meth : Method} {c : Code} {H : Heap} {locs : List Loc} {cells slots : Nat} {A : Nat → Prop} {Qc : Array Value → State → Outcome → State → Prop} {free : Addr → Prop} {pc : Nat} {lsR : Array Slot}
    (C : Cx G i.1 i.2.1 i.2.2.1 i.2.2.2.1.name p l s m meth c A) (hr : meth.sig.returnType = i.2.2.2.2.1) (hd : decode i.2.1 pc = .ok (retI v, 1)) (hv : retOK i.2.2.2.2.1 v) (hq : ∀ t : State, t.heap = H → s.WarmedH t.vm → Qc args s (.returned (v.map (cv ad))) t) (hf : ∀ q ∈ locs, free q.base) :
    W p l e R s m args below meth c H locs cells slots (MQ below Qc args s cells slots free) (F0 m pc lsR (v.toList.map (cv ad))) := by
  have hl : meth.locks = false := C.2.2.2.2.2.2.2.2.2.1
  generalize hrt : i.2.2.2.2.1 = rt at hr hv
  unfold retOK at hv
  split at hv
  · exact W.vret C.1 C.2.1 hr hq hf hd hl
  · exact W.iret C.1 C.2.1 hr hq hf hd hl
  · refine W.zret C.1 C.2.1 hr ?_ hq hf hd hl
    rcases hv with rfl | rfl <;> decide
  · exact W.zret C.1 C.2.1 hr hv hq hf hd hl
  · exact W.zret C.1 C.2.1 hr hv hq hf hd hl
  · exact W.lret C.1 C.2.1 hr hq hf hd hl
  · exact W.dret C.1 C.2.1 hr hq hf hd hl
  · exact W.aret C.1 C.2.1 hr (Or.inl ⟨_, rfl⟩) (Or.inr ⟨_, rfl⟩) hq hf hd hl
  · exact W.aret C.1 C.2.1 hr (Or.inr ⟨_, rfl⟩) (Or.inr ⟨_, rfl⟩) hq hf hd hl
  · exact hv.elim
theorem mt_ofW {l : Launch} {y : MethodName} {ws ws' : List Cond} {rm : Room} {Pc : Array Value → State → Prop} {Qc : Array Value → State → Outcome → State → Prop} {mc ms : Nat} {free : Addr → Prop} {cc : ByteArray} {maxL : Nat} {ret : Option FieldType}
    (hy : plainFor y = true) (hw : ws = Cond.code y cc maxL ret :: ws')
    (body : ∀ p e s m args below meth c s₁, BodyLoose p l y (headSpec ws rm) cc maxL ret e s m args below meth c s₁ → c.maxLocals = maxL → (∀ x ∈ c.exceptionTable.toList, False) → Pc args s →
      W p l e (headSpec ws rm).room s m args below meth c s.heap [] 0 0 (MQ below Qc args s mc ms free) (entryFrame m args maxL)) : Met l y ws rm Pc Qc mc ms free := by
  refine MetFree.of_bodySF (code := cc) (maxLocals := maxL) (ret := ret) hy ?_ ?_
  · intro args s m h hn
    obtain ⟨meth, c, h1, h2, h3, h4, h5, h6, -, -⟩ := Cond.code_spec hn (atoms_spec (ws := ws) h _ (by rw [hw]; exact List.mem_cons_self))
    exact ⟨meth, c, h1, h2, h3, h4, h5, h6⟩
  · intro p e s m args below meth c s₁ B hml hP _
    have hh0 : s₁.heap = s.heap := by rw [B.state]; rfl
    have ht : ∀ x ∈ c.exceptionTable.toList, False := by
      obtain ⟨meth9, c9, h1, h2, -, -, -, -, h7, -⟩ := Cond.code_spec B.named (atoms_spec (ws := ws) B.pre _ (by rw [hw]; exact List.mem_cons_self))
      cases Option.some.inj (h1.symm.trans B.method)
      cases Option.some.inj (h2.symm.trans (Stand.of_body B).code)
      intro x hx
      rw [Array.isEmpty_iff.mp h7] at hx
      cases hx
    obtain ⟨t, a1, o, b1, b2, b3⟩ := body p e s m args below meth c s₁ B hml ht hP s₁ hh0 (Stand.of_body B)
    exact ⟨t, o, a1, b1, b2, b3.1, b3.2⟩
theorem cx_start {G : GG} {i : MI} {ad : Nat → Nat} {h : Hp} {as : Vs} {sz : Nat} {p : Program} {l : Launch} {e : Env} {s s₁ : State} {m : MethodId} {args : Array Value} {below : List Frame} {meth : Method} {c : Code} {S : Spec} (hl : l.stackTraces = false) (hx : xOk G.2.2.2.2) (hm : MOK i) (B : BodyLoose p l i.2.2.2.1 S i.2.1 i.2.2.1 i.2.2.2.2.1 e s m args below meth c s₁) (hml : c.maxLocals = i.2.2.1) (hP : PcM G ad h as sz args s) :
    Cx G i.1 i.2.1 i.2.2.1 i.2.2.2.1.name p l s m meth c (va_A (wl G.2.2.1 ad h) s.heap.size) := by
  obtain ⟨h0, rfl, h2, h3, h4, h5, h6⟩ := hP
  have hown : s.vm.findClass i.2.2.2.1.cls = some m.cls := findClass_of_methodNamed B.named
  rw [hm.2.2.2.2] at hown
  exact ⟨B.exec, B.bytes, hml, hown, h5, h4, h6, fun q hq => Or.inr hq, hl, B.notSynchronized, (name_of_methodNamed B.named B.method).1, hx⟩
theorem ctrR_of {k : Nat} {l : Launch} (hl : l.stackTraces = false) {G : GG} (hx : xOk G.2.2.2.2) (hm : MOK (mi k)) {as : Vs} {h h' : Hp} {v : Option Value} (hS : SimR mi bpc k 0 (entL (mi k).2.2.1 as) [] h (.inl v) h') (h0 : bpc k 0 = 0) {ad : Nat → Nat} (hlen : (entA as).length ≤ (mi k).2.2.1) (hw : wfh G.2.2.2.2 h) (ho : ∀ v ∈ as, okV h.2.1 v) (he : ∀ e, e < 64 → ad e = G.2.2.2.1 e) (sz : Nat) :
    CtrR l (mi k) (PcM G ad h as sz) (QcM G ad h sz v h') (h'.2.2.1 - h.2.2.1) (h'.2.2.2 - h.2.2.2) (va_A (wl G.2.2.1 ad h) sz) := by
  have key : ∀ {p : Program} {e : Env} {s s₁ : State} {m : MethodId} {args : Array Value} {below : List Frame} {meth : Method} {c : Code} {ws : List Cond} (B : BodyLoose p l (mi k).2.2.2.1 (headSpec ws (rmOf (mi k) (h'.2.2.1 - h.2.2.1) (h'.2.2.2 - h.2.2.2))) (mi k).2.1 (mi k).2.2.1 (mi k).2.2.2.2.1 e s m args below meth c s₁) (_ : c.maxLocals = (mi k).2.2.1) (_ : c.exceptionTable.toList = tableOf (mi k).2.2.2.2.2.2) (_ : PcM G ad h as sz args s),
      W p l e (headSpec ws (rmOf (mi k) (h'.2.2.1 - h.2.2.1) (h'.2.2.2 - h.2.2.2))).room s m args below meth c s.heap [] 0 0 (MQ below (QcM G ad h sz v h') args s (h'.2.2.1 - h.2.2.1) (h'.2.2.2 - h.2.2.2) (va_A (wl G.2.2.1 ad h) sz)) (entryFrame m args (mi k).2.2.1) := by
    intro p e s s₁ m args below meth c ws B hml htb hP
    have C := cx_start hl hx hm B hml hP
    have hP' := hP
    obtain ⟨rfl, rfl, h2, h3, h4, h5, h6⟩ := hP'
    have g := gd_start (nL := (mi k).2.2.1) (s := s) hlen hw ho he h2 h3
    rw [lg_entry_eq]
    have K := hS.2 G (e := e) (R := rmOf (mi k) (h'.2.2.1 - h.2.2.1) (h'.2.2.2 - h.2.2.2)) (args := ((as.map (cv ad)).toArray)) (below := below) (Q := MQ below (QcM G ad h s.heap.size v h') (as.map (cv ad)).toArray s (h'.2.2.1 - h.2.2.1) (h'.2.2.2 - h.2.2.2) (va_A (wl G.2.2.1 ad h) s.heap.size)) C ⟨Nat.le_refl _, Nat.le_refl _⟩ htb g (Nat.le_refl _) (Nat.le_refl _) ?_
    · rw [h0, Nat.sub_self, Nat.sub_self] at K
      exact K
    · intro ad' H' locs' ls' lsR' pc' hag g' hd hv
      refine ret_W C B.returns hd hv (fun t ht hW => ⟨⟨ad', hag, rfl, by rw [ht]; exact g'.1, g'.2.1, g'.2.2.2.2.2.2.2.2.2, g'.2.2.2.1, fun u hu => g'.2.2.2.2.1 u (by rw [hu]; exact List.mem_cons_self)⟩, g'.2.2.1.F ht⟩) g'.2.2.1.2.2
  refine ⟨fun hh => mt_ofW hm.2.2.2.1 rfl ?_, fun hh => vx_ofWH (hm.2.1 hh).2 rfl ?_⟩
  · intro p e s m args below meth c s₁ B hml ht hP
    refine key B hml ?_ hP
    rw [hh]
    exact List.eq_nil_iff_forall_not_mem.mpr (fun x hx => ht x hx)
  · intro p e s m args below meth c s₁ B hml hP
    exact vx_ret (key B hml (vx_table (x := (mi k).2.2.2.1) B (atoms_spec (ws := [cwh (mi k)]) B.pre _ List.mem_cons_self)) hP)
theorem ctrT_of {k : Nat} {l : Launch} (hl : l.stackTraces = false) {G : GG} (hx : xOk G.2.2.2.2) (hm : MOK (mi k)) {as : Vs} {h h' : Hp} {E : String} (hS : SimR mi bpc k 0 (entL (mi k).2.2.1 as) [] h (.inr E) h') (hh : (mi k).2.2.2.2.2.2 = []) (hpn : plainName (mi k).2.2.2.1.cls = true) (h0 : bpc k 0 = 0) {ad : Nat → Nat} (hlen : (entA as).length ≤ (mi k).2.2.1) (hw : wfh G.2.2.2.2 h) (ho : ∀ v ∈ as, okV h.2.1 v) (he : ∀ e, e < 64 → ad e = G.2.2.2.1 e) (sz : Nat) :
    CtrT l (mi k) (PcM G ad h as sz) (XcM G ad h sz E h') (h'.2.2.1 - h.2.2.1) (h'.2.2.2 - h.2.2.2) (va_A (wl G.2.2.1 ad h) sz) := by
  refine vx_ofW hpn rfl ?_
  intro p e s m args below meth c s₁ B hml ht hP
  have C := cx_start hl hx hm B hml hP
  have hP' := hP
  obtain ⟨rfl, rfl, h2, h3, h4, h5, h6⟩ := hP'
  have g := gd_start (nL := (mi k).2.2.1) (s := s) hlen hw ho he h2 h3
  rw [lg_entry_eq]
  have htb : c.exceptionTable.toList = tableOf (mi k).2.2.2.2.2.2 := by
    rw [hh]
    exact List.eq_nil_iff_forall_not_mem.mpr (fun x hx => ht x hx)
  have K := hS.2 G (e := e) (R := rmOf (mi k) (h'.2.2.1 - h.2.2.1) (h'.2.2.2 - h.2.2.2)) (args := ((as.map (cv ad)).toArray)) (below := below) (Q := vx_MQ below (fun _ _ _ _ => False) (XcM G ad h s.heap.size E h') (as.map (cv ad)).toArray s (h'.2.2.1 - h.2.2.1) (h'.2.2.2 - h.2.2.2) (va_A (wl G.2.2.1 ad h) s.heap.size)) C ⟨Nat.le_refl _, Nat.le_refl _⟩ htb g (Nat.le_refl _) (Nat.le_refl _) ?_
  · rw [h0, Nat.sub_self, Nat.sub_self] at K
    exact K
  · refine ⟨hh, _, _, _, _, rfl, Nat.le_refl _, Nat.le_refl _, fun _ h => h, ?_⟩
    intro ad' H1 locs1 t hag q1 q2 q3 q4 q5 q6 q7 q8
    refine ⟨rfl, ⟨ad', hag, q1.kept (fun k q hq => q8 _ (q1 k q hq).lt), q2, q5, q4⟩, Nat.le_trans q3.1 q7, fun q hq hA => ?_⟩
    rw [q8 q (Nat.lt_of_lt_of_le hq q3.1)]
    exact q3.2.1 q hq hA
end PROG
