/-! The small machine and the real one. -/
/-- words that hold on, whatever is loaded behind -/
def kwOK (w : Cond) : Bool := goodWord w || (match w with
  | .fieldLinkNest .. => true
  | .methodLinkNest .. => true
  | .declares _ => true
  | .castable .. => true
  | .arrayOver (.object _) => true
  | _ => false)
theorem kw_warm {w : Cond} (hk : kwOK w = true) {a a' : Array Value} {s U : State} (hW : s.WarmedH U.vm) (h : w.before a s = true) : w.before a' U = true := by
  unfold kwOK at hk
  rcases Bool.or_eq_true _ _ ▸ hk with hg | hk
  · exact word_at hW (good_of_word hg) h
  · split at hk
    · exact va_Nw.use rfl (va_Nw.warmF hW (va_Nw.of rfl h))
    · exact va_Nw.use rfl (va_Nw.warmM hW (va_Nw.of rfl h))
    · exact va_Nw.use rfl (va_Nw.warmD hW (va_Nw.of rfl h))
    · exact va_Nw.use rfl (va_Nw.warmC hW (va_Nw.of rfl h))
    · exact (va_AO.moved hW.alike (va_AO.of h)).use
    · cases hk
def Wd (s : State) : Prop := ∀ w ∈ lw_tbl, kwOK w = true → ∀ a, w.before a s = true
theorem Wd.warm {s U : State} (h : Wd s) (hW : s.WarmedH U.vm) : Wd U := fun w hw hk _ => kw_warm hk hW (h w hw hk #[])
/-- numbers of the classes, of their fields, of the array classes; addresses and contents of what was there before -/
abbrev GG : Type := (Nat → ClassId) × (Nat → Nat → Nat) × (Nat → ClassId) × (Nat → Nat) × (Nat → va_E)
def cv (ad : Nat → Nat) : Value → Value
  | .ref p => .ref (ad p)
  | v => v
def cE (tA : Nat → ClassId) (ad : Nat → Nat) : va_E → va_E
  | .inl (t, n, .inr (.inr (.inr (.inr f)))) => .inl (tA t, n, .inr (.inr (.inr (.inr (fun i => (f i).map ad)))))
  | .inl (t, n, x) => .inl (tA t, n, x)
  | .inr (c, fs) => .inr (c, fs.map (cv ad))
def wl (tA : Nat → ClassId) (ad : Nat → Nat) (h : Hp) : va_W := (List.range (h.2.1 - 64)).map (fun i => (ad (64 + i), cE tA ad (h.1 (64 + i))))
def gty (tA : Nat → ClassId) : List (ClassId × FieldType) := [(tA 0, .int), (tA 1, .long), (tA 2, .double), (tA 3, .boolean), (tA 4, .object RX0)]
def okV (n : Nat) (v : Value) : Prop := ∀ p, v = .ref p → p < n
def okE (n : Nat) : va_E → Prop
  | .inl (t, _, .inr (.inr (.inr (.inr f)))) => t ≤ 4 ∧ ∀ i q, f i = some q → q < n
  | .inl (t, _, _) => t ≤ 4
  | .inr (_, fs) => ∀ v ∈ fs, okV n v
/-- the texts' bytes; which entry of which class is which text, at which place -/
def txs : List (List Int32) := [[104, 97, 110, 100], [114, 105, 103, 104, 116], [108, 101, 102, 116], [119, 101, 105, 103, 104, 116], [115, 112, 97, 110], [112, 108, 97, 121], [114, 101, 115, 116], [98, 121], [115, 116, 114, 101, 116, 99, 104], [99, 114, 111, 115, 115], [114, 101, 112, 101, 97, 116], [99, 104, 97, 110, 103, 101], [106, 117, 109, 112], [98, 108, 97, 99, 107], [119, 101, 97, 107], [101, 97, 115, 101], [102, 114, 101, 101], [114, 101, 97, 99, 104]]
def bytS (i : Nat) : List Int32 := txs.getD i []
def strs : List (String × Nat × String × Nat) := [("HandFingers$Text", 96, "hand", 3), ("HandFingers$Text", 102, "right", 4), ("HandFingers$Text", 110, "left", 5), ("HandFingers$Text", 115, "weight", 6), ("HandFingers$Text", 147, "span", 7), ("HandFingers$Text", 156, "play", 8), ("HandFingers$Text", 175, "rest", 9), ("HandFingers$Text", 180, "by", 10), ("HandFingers$Text", 127, "stretch", 11), ("HandFingers$Text", 129, "cross", 12), ("HandFingers$Text", 131, "repeat", 13), ("HandFingers$Text", 133, "change", 14), ("HandFingers$Text", 135, "jump", 15), ("HandFingers$Text", 137, "black", 16), ("HandFingers$Text", 139, "weak", 17), ("HandFingers$Text", 141, "ease", 18), ("HandFingers$Text", 143, "free", 19), ("HandFingers$Text", 145, "reach", 20), ("HandFingersModel", 212, "hand", 3), ("HandFingersModel", 214, "right", 4), ("HandFingersModel", 216, "left", 5), ("HandFingersModel", 218, "weight", 6), ("HandFingersModel", 223, "span", 7), ("HandFingersModel", 228, "play", 8), ("HandFingersModel", 205, "rest", 9), ("HandFingersModel", 207, "by", 10), ("HandFingersModel", 170, "stretch", 11), ("HandFingersModel", 172, "cross", 12), ("HandFingersModel", 174, "repeat", 13), ("HandFingersModel", 176, "change", 14), ("HandFingersModel", 178, "jump", 15), ("HandFingersModel", 180, "black", 16), ("HandFingersModel", 182, "weak", 17), ("HandFingersModel", 184, "ease", 18), ("HandFingersModel", 186, "free", 19), ("HandFingersModel", 188, "reach", 20)]
def xOk (xc : Nat → va_E) : Prop := (∀ e, e < 64 → ∃ t n f, xc e = .inl (t, n, .inl f) ∧ (t = 7 ∨ t = 8 ∨ t = 9 ∨ t = 10)) ∧ (∀ e n x, e < 64 → xc e = .inl (8, n, x) → ∃ i, i < 18 ∧ e = 3 + i) ∧ ∀ e n x, e < 64 → xc e = .inl (9, n, x) → ∃ i, i < 18 ∧ e = 23 + i ∧ n = (bytS i).length ∧ x = .inl (fun j => (bytS i).getD j 0)
/-- a text constant: the object at a, its bytes at v -/
def Str (a v : Nat) (b : List Int32) (A : Nat → Prop) (U : State) (H : Heap) : Prop := va_O RJ0 a A U H ∧ va_OF RJ0 "coder" "B" (.int 0) a A U H ∧ va_OF RJ0 "value" "[B" (.ref v) a A U H ∧ va_T .byte v b.length (fun j => .int (b.getD j 0)) A U H
def wfh (xc : Nat → va_E) (h : Hp) : Prop := 64 ≤ h.2.1 ∧ (∀ e, e < 64 → h.1 e = xc e) ∧ ∀ p, 64 ≤ p → p < h.2.1 → okE h.2.1 (h.1 p)
/-- known locals, by their places -/
def kl (f : Value → Value) : Nat → Lo → List (Nat × Value)
  | _, [] => []
  | i, none :: l => kl f (i + 1) l
  | i, some v :: l => (i, f v) :: kl f (i + 1) l
def lo (ad : Nat → Nat) (ls : Lo) (lsR : Array Slot) (nL : Nat) : Prop := ls.length = nL ∧ lv_has lsR nL (kl (cv ad) 0 ls)
/-- kinds of exceptions that are no others -/
def ncs : List (String × String) := [("java/lang/IllegalArgumentException", "java/lang/IndexOutOfBoundsException"), ("java/util/NoSuchElementException", "java/lang/IndexOutOfBoundsException"), ("java/util/NoSuchElementException", "java/lang/IllegalArgumentException"), ("java/lang/IllegalStateException", "java/lang/IndexOutOfBoundsException")]
/-- what was there before: arrays of ints, two static fields that hold such, what a throw needs -/
def Ext (G : GG) (A : Nat → Prop) (U : State) (H : Heap) : Prop :=
  (∀ e n f, e < 64 → G.2.2.2.2 e = .inl (7, n, .inl f) → va_X (G.2.2.2.1 e) n f U H ∧ ¬ A (G.2.2.2.1 e)) ∧
  va_Z RX5 "FIRST_WEIGHTS" "[I" (.ref (G.2.2.2.1 0)) A U H ∧ va_Z RX5 "FIRST_SPANS" "[I" (.ref (G.2.2.2.1 1)) A U H ∧
  vx_Zq Bundle.tN "UNASSIGNED_STACK" Bundle.steD A U H ∧ vx_Zq Bundle.tN "SUPPRESSED_SENTINEL" Bundle.listD A U H ∧ (∀ q ∈ ncs, va_Nc q.1 q.2 U) ∧
  (∀ i, i < 18 → Str (G.2.2.2.1 (3 + i)) (G.2.2.2.1 (23 + i)) (bytS i) A U H) ∧ (∀ q ∈ strs, vk_R q.1 q.2.1 q.2.2.1 (G.2.2.2.1 q.2.2.2) U) ∧ va_Z RJ0 "COMPACT_STRINGS" "Z" (.int 1) A U H ∧ va_Zq RJ3 "SIOOBE_FORMATTER" "Ljava/util/function/BiFunction;" A U H
theorem Ext.moved {G : GG} {A : Nat → Prop} {u U : State} {H : Heap} (hW : u.WarmedH U.vm) (h : Ext G A u H) : Ext G A U H := by
  have hvm := hW.alike
  obtain ⟨h1, h2, h3, h4, h5, h6, h7, h8, h9, h10⟩ := h
  exact ⟨fun e n f he hf => ⟨(h1 e n f he hf).1.moved hvm, (h1 e n f he hf).2⟩, h2.moved hvm, h3.moved hvm, h4.moved hvm, h5.moved hvm, fun q hq => (h6 q hq).moved hvm, fun i hi => ⟨(h7 i hi).1.moved hvm, (h7 i hi).2.1.moved hvm, (h7 i hi).2.2.1.moved hvm, (h7 i hi).2.2.2.moved hvm⟩, fun q hq => (h8 q hq).warm hW, h9.moved hvm, h10.moved hvm⟩
theorem va_X.lt {b L : Nat} {xs : Nat → Int32} {U : State} {H : Heap} (h : va_X b L xs U H) : b < H.size := by
  obtain ⟨scr, h1, -⟩ := h
  exact (Array.getElem?_eq_some_iff.mp h1).1
theorem Ext.kept {G : GG} {A : Nat → Prop} {U : State} {H H1 : Heap} (h : Ext G A U H) (hq : ∀ a : Nat, a < H.size → ¬ A a → H1[a]? = H[a]?) : Ext G A U H1 := by
  obtain ⟨h1, h2, h3, h4, h5, h6, h7, h8, h9, h10⟩ := h
  exact ⟨fun e n f he hf => ⟨(h1 e n f he hf).1.kept (hq _ (h1 e n f he hf).1.lt (h1 e n f he hf).2), (h1 e n f he hf).2⟩, h2.kept hq, h3.kept hq, h4.kept hq, h5.kept hq, h6, fun i hi => ⟨(h7 i hi).1.kept hq, (h7 i hi).2.1.kept hq, (h7 i hi).2.2.1.kept hq, (h7 i hi).2.2.2.kept hq⟩, h8, h9.kept hq, h10.kept hq⟩
theorem Ext.narrow {G : GG} {A B : Nat → Prop} {U : State} {H : Heap} (h : Ext G A U H) (hAB : ∀ q, B q → A q) : Ext G B U H := by
  obtain ⟨h1, h2, h3, h4, h5, h6, h7, h8, h9, h10⟩ := h
  exact ⟨fun e n f he hf => ⟨(h1 e n f he hf).1, fun hB => (h1 e n f he hf).2 (hAB _ hB)⟩, h2.narrow hAB, h3.narrow hAB, h4.narrow hAB, h5.narrow hAB, h6, fun i hi => ⟨(h7 i hi).1.narrow hAB, (h7 i hi).2.1.narrow hAB, (h7 i hi).2.2.1.narrow hAB, (h7 i hi).2.2.2.narrow hAB⟩, h8, h9.narrow hAB, h10.narrow hAB⟩
/-- what stands all through a method: its class, code, locals, name -/
def Cx (G : GG) (own : String) (cc : ByteArray) (nL : Nat) (mn : String) (p : Program) (l : Launch) (s : State) (m : MethodId) (meth : Method) (c : Code) (A : Nat → Prop) : Prop :=
  p.tables.exec = Jvm.exec ∧ c.code = cc ∧ c.maxLocals = nL ∧ s.vm.findClass own = some m.cls ∧ Wd s ∧ va_K (G.1, G.2.1) vwCl (gty G.2.2.1) s ∧ Ext G A s s.heap ∧ (∀ q, s.heap.size ≤ q → A q) ∧
  l.stackTraces = false ∧ meth.locks = false ∧ meth.name = mn ∧ xOk G.2.2.2.2
/-- the small machine's frame and heap are the real ones -/
def Gd (G : GG) (ad : Nat → Nat) (nL : Nat) (ls : Lo) (st : Vs) (h : Hp) (A : Nat → Prop) (H0 H : Heap) (locs : List Loc) (lsR : Array Slot) (c0 s0 : Nat) : Prop :=
  va_P (G.1, G.2.1) vwCl (wl G.2.2.1 ad h) H ∧ va_D A (wl G.2.2.1 ad h) ∧ va_S A H0 H locs ∧ wfh G.2.2.2.2 h ∧ (∀ v ∈ st, okV h.2.1 v) ∧ (∀ v, some v ∈ ls → okV h.2.1 v) ∧ lo ad ls lsR nL ∧ c0 ≤ h.2.2.1 ∧ s0 ≤ h.2.2.2 ∧ ∀ e, e < 64 → ad e = G.2.2.2.1 e
def SimX (own : String) (cc : ByteArray) (nL : Nat) (mn : String) (rq : Nat × Nat) (pc len : Nat) (f : XF) : Prop :=
  ∀ {ls : Lo} {st : Vs} {h : Hp} {ls' : Lo} {st' : Vs} {h' : Hp}, f ls st h = some (ls', st', h') →
    (h.2.1 ≤ h'.2.1 ∧ h.2.2.1 ≤ h'.2.2.1 ∧ h.2.2.2 ≤ h'.2.2.2) ∧
    ∀ (G : GG) {p : Program} {l : Launch} {e : Env} {R : Room} {s : State} {m : MethodId} {args : Array Value} {below : List Frame} {meth : Method} {c : Code} {A : Nat → Prop} {Q : State → Prop} (_ : Cx G own cc nL mn p l s m meth c A) (_ : rq.1 ≤ R.frames ∧ rq.2 ≤ R.locals)
      {ad : Nat → Nat} {H : Heap} {locs : List Loc} {lsR : Array Slot} {c0 s0 : Nat}, Gd G ad nL ls st h A s.heap H locs lsR c0 s0 → h'.2.2.1 - c0 ≤ R.cells → h'.2.2.2 - s0 ≤ R.slots →
      (∀ (ad' : Nat → Nat) (H' : Heap) (locs' : List Loc) (lsR' : Array Slot), (∀ q, q < h.2.1 → ad' q = ad q) → Gd G ad' nL ls' st' h' A s.heap H' locs' lsR' c0 s0 → W p l e R s m args below meth c H' locs' (h'.2.2.1 - c0) (h'.2.2.2 - s0) Q (F0 m (pc + len) lsR' (st'.map (cv ad')))) →
      W p l e R s m args below meth c H locs (h.2.2.1 - c0) (h.2.2.2 - s0) Q (F0 m pc lsR (st.map (cv ad)))
/-- a step that leaves locals and heap as they are -/
theorem simP {own : String} {cc : ByteArray} {nL : Nat} {mn : String} {rq : Nat × Nat} {pc len : Nat} {f : XF}
    (hf : ∀ {ls : Lo} {st : Vs} {h : Hp} {ls' : Lo} {st' : Vs} {h' : Hp}, f ls st h = some (ls', st', h') → ls' = ls ∧ h' = h ∧
      ∀ (G : GG) {p : Program} {l : Launch} {e : Env} {R : Room} {s : State} {m : MethodId} {args : Array Value} {below : List Frame} {meth : Method} {c : Code} {A : Nat → Prop} {Q : State → Prop} (_ : Cx G own cc nL mn p l s m meth c A) (_ : rq.1 ≤ R.frames ∧ rq.2 ≤ R.locals)
        {ad : Nat → Nat} {H : Heap} {locs : List Loc} {lsR : Array Slot} {c0 s0 : Nat}, Gd G ad nL ls st h A s.heap H locs lsR c0 s0 → h.2.2.1 - c0 ≤ R.cells → h.2.2.2 - s0 ≤ R.slots → (∀ v ∈ st', okV h.2.1 v) ∧
        (W p l e R s m args below meth c H locs (h.2.2.1 - c0) (h.2.2.2 - s0) Q (F0 m (pc + len) lsR (st'.map (cv ad))) → W p l e R s m args below meth c H locs (h.2.2.1 - c0) (h.2.2.2 - s0) Q (F0 m pc lsR (st.map (cv ad))))) :
    SimX own cc nL mn rq pc len f := by
  intro ls st h ls' st' h' he
  obtain ⟨rfl, rfl, hk⟩ := hf he
  refine ⟨⟨Nat.le_refl _, Nat.le_refl _, Nat.le_refl _⟩, ?_⟩
  intro G p l e R s m args below meth c A Q C hR ad H locs lsR c0 s0 g hc hs k
  obtain ⟨h1, h2⟩ := hk G (e := e) (args := args) (below := below) (Q := Q) C hR g hc hs
  obtain ⟨g1, g2, g3, g4, g5, g6, g7⟩ := g
  exact h2 (k ad H locs lsR (fun _ _ => rfl) ⟨g1, g2, g3, g4, h1, g6, g7⟩)
theorem okV_i {n : Nat} {x : Int32} : okV n (.int x) := fun _ h => nomatch h
theorem okV_l {n : Nat} {x : Int64} : okV n (.long x) := fun _ h => nomatch h
theorem okV_d {n : Nat} {x : UInt64} : okV n (.double x) := fun _ h => nomatch h
theorem okV_n {n : Nat} : okV n .null := fun _ h => nomatch h
theorem ok_c {n : Nat} {v : Value} {r : Vs} (h : okV n v) (hr : ∀ w ∈ r, okV n w) : ∀ w ∈ v :: r, okV n w := fun w hw => (List.mem_cons.mp hw).elim (fun e => e ▸ h) (hr w)
theorem ok_t {n : Nat} {v : Value} {r : Vs} (hr : ∀ w ∈ v :: r, okV n w) : ∀ w ∈ r, okV n w := fun w hw => hr w (List.mem_cons_of_mem _ hw)
theorem kl_mem {f : Value → Value} : ∀ (ls : Lo) (i j : Nat) (w : Value), (j, w) ∈ kl f i ls ↔ ∃ k v, j = i + k ∧ lg ls k = some v ∧ w = f v := by
  intro ls
  induction ls with
  | nil => intro i j w; simp [kl, lg]
  | cons x l ih =>
    intro i j w
    have hs : ∀ (P : Nat → Prop), (∃ k, P k) ↔ P 0 ∨ ∃ k, P (k + 1) := fun P => ⟨fun ⟨k, h⟩ => by cases k with | zero => exact Or.inl h | succ k => exact Or.inr ⟨k, h⟩, fun h => h.elim (fun h => ⟨0, h⟩) (fun ⟨k, h⟩ => ⟨k + 1, h⟩)⟩
    rw [hs]
    cases x with
    | none =>
      simp only [kl, ih, lg]
      constructor
      · rintro ⟨k, v, rfl, h⟩
        exact Or.inr ⟨k, v, by omega, h⟩
      · rintro (⟨v, -, h, -⟩ | ⟨k, v, rfl, h⟩)
        · cases h
        · exact ⟨k, v, by omega, h⟩
    | some y =>
      simp only [kl, List.mem_cons, ih, lg, Prod.mk.injEq]
      constructor
      · rintro (⟨rfl, rfl⟩ | ⟨k, v, rfl, h⟩)
        · exact Or.inl ⟨y, by omega, rfl, rfl⟩
        · exact Or.inr ⟨k, v, by omega, h⟩
      · rintro (⟨v, rfl, h, rfl⟩ | ⟨k, v, rfl, h⟩)
        · cases h; exact Or.inl ⟨by omega, rfl⟩
        · exact Or.inr ⟨k, v, by omega, h⟩
theorem lg_mem : ∀ {ls : Lo} {i : Nat} {v : Value}, lg ls i = some v → some v ∈ ls := by
  intro ls
  induction ls with
  | nil => intro i v h; cases h
  | cons x l ih =>
    intro i v h
    cases i with
    | zero => simp only [lg] at h; rw [h]; exact List.mem_cons_self
    | succ i => exact List.mem_cons_of_mem _ (ih h)
theorem mem_lg : ∀ {ls : Lo} {v : Value}, some v ∈ ls → ∃ i, lg ls i = some v := by
  intro ls
  induction ls with
  | nil => intro v h; cases h
  | cons x l ih =>
    intro v h
    rcases List.mem_cons.mp h with rfl | h
    · exact ⟨0, rfl⟩
    · obtain ⟨i, h⟩ := ih h; exact ⟨i + 1, h⟩
theorem lg_lt : ∀ {ls : Lo} {i : Nat} {v : Value}, lg ls i = some v → i < ls.length := by
  intro ls
  induction ls with
  | nil => intro i v h; cases h
  | cons x l ih =>
    intro i v h
    cases i with
    | zero => simp
    | succ i => have := ih (i := i) (v := v) h; simp; omega
theorem lo_at {ad : Nat → Nat} {ls : Lo} {lsR : Array Slot} {nL i : Nat} {v : Value} (h : lo ad ls lsR nL) (hv : lg ls i = some v) : lsR[i]? = some (.val (cv ad v)) :=
  h.2.2.2 (i, cv ad v) ((kl_mem ls 0 i _).mpr ⟨i, v, by omega, hv, rfl⟩)
