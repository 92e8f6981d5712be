/-! Walking the small machine: a rule a step. -/
noncomputable def rn : Nat → Nat → Lo → Vs → Hp → Option Rs := run mxl blk
/-- a whole call -/
noncomputable def cl (m : Nat) (as : Vs) (h : Hp) : Option Rs := rn m 0 (entL (mxl m) as) [] h
noncomputable def gx (k : Nat) (F : List XF) (t : TF) (ls : Lo) (st : Vs) (h : Hp) : Option Rs := stp mxl rn k (F, t) ls st h
theorem rn_gx {k b : Nat} {F : List XF} {t : TF} {ls : Lo} {st : Vs} {h : Hp} {R : Option Rs} (hb : blk k b = (F, t)) (K : gx k F t ls st h = R) : rn k b ls st h = R := by
  have e := run_eq mxl blk k b ls st h
  rw [hb] at e
  exact e.trans K
theorem cl_rn {m : Nat} {as : Vs} {h : Hp} {R : Option Rs} {ls : Lo} (hl : entL (mxl m) as = ls) (K : rn m 0 ls [] h = R) : cl m as h = R := by
  subst hl; exact K
section GX
variable {k : Nat} {F : List XF} {t : TF} {ls ls' : Lo} {st r : Vs} {h : Hp} {R : Option Rs}
theorem gx_step {f : XF} {st' : Vs} {h' : Hp} (hf : f ls st h = some (ls', st', h')) (K : gx k F t ls' st' h' = R) : gx k (f :: F) t ls st h = R := by
  rw [← K]
  unfold gx stp
  rw [show exL (f :: F, t).1 ls st h = exL (F, t).1 ls' st' h' by show exL (f :: F) ls st h = _; rw [exL_cons, hf]]
theorem gx_nil {q : TR} (ht : t ls st h = q) (K : fin mxl rn k q = R) : gx k [] t ls st h = R := by
  subst ht; exact K
theorem g_C {v : Value} (K : gx k F t ls (v :: st) h = R) : gx k (xC v :: F) t ls st h = R := gx_step rfl K
theorem g_Ld {i : Nat} {x : Int32} (hx : lg ls i = some (.int x)) (K : gx k F t ls (.int x :: st) h = R) : gx k (xLd i :: F) t ls st h = R := gx_step (by unfold xLd; rw [hx]) K
theorem g_LdL {i : Nat} {x : Int64} (hx : lg ls i = some (.long x)) (K : gx k F t ls (.long x :: st) h = R) : gx k (xLdL i :: F) t ls st h = R := gx_step (by unfold xLdL; rw [hx]) K
theorem g_LdD {i : Nat} {x : UInt64} (hx : lg ls i = some (.double x)) (K : gx k F t ls (.double x :: st) h = R) : gx k (xLdD i :: F) t ls st h = R := gx_step (by unfold xLdD; rw [hx]) K
theorem g_LdA {i : Nat} {x : Nat} (hx : lg ls i = some (.ref x)) (K : gx k F t ls (.ref x :: st) h = R) : gx k (xLdA i :: F) t ls st h = R := gx_step (by unfold xLdA; rw [hx]) K
theorem g_LdN {i : Nat} (hx : lg ls i = some .null) (K : gx k F t ls (.null :: st) h = R) : gx k (xLdA i :: F) t ls st h = R := gx_step (by unfold xLdA; rw [hx]) K
theorem g_St {i : Nat} {x : Int32} (hl : lst ls i (.int x) = ls') (K : gx k F t ls' r h = R) : gx k (xSt i :: F) t ls (.int x :: r) h = R := gx_step (by subst hl; rfl) K
theorem g_StA {i : Nat} {x : Nat} (hl : lst ls i (.ref x) = ls') (K : gx k F t ls' r h = R) : gx k (xStA i :: F) t ls (.ref x :: r) h = R := gx_step (by subst hl; rfl) K
theorem g_StN {i : Nat} (hl : lst ls i .null = ls') (K : gx k F t ls' r h = R) : gx k (xStA i :: F) t ls (.null :: r) h = R := gx_step (by subst hl; rfl) K
theorem g_StL {i : Nat} {x : Int64} (hl : lstW ls i (.long x) = ls') (K : gx k F t ls' r h = R) : gx k (xStL i :: F) t ls (.long x :: r) h = R := gx_step (by subst hl; rfl) K
theorem g_StD {i : Nat} {x : UInt64} (hl : lstW ls i (.double x) = ls') (K : gx k F t ls' r h = R) : gx k (xStD i :: F) t ls (.double x :: r) h = R := gx_step (by subst hl; rfl) K
theorem g_Inc {i : Nat} {n x : Int32} (hx : lg ls i = some (.int x)) (hl : lst ls i (.int (x + n)) = ls') (K : gx k F t ls' st h = R) : gx k (xInc i n :: F) t ls st h = R := gx_step (by unfold xInc; rw [hx]; simp only [hl]) K
theorem g_I2 {f : Int32 → Int32 → Int32} {x y : Int32} (K : gx k F t ls (.int (f x y) :: r) h = R) : gx k (xI2 f :: F) t ls (.int y :: .int x :: r) h = R := gx_step rfl K
theorem g_Add {x y : Int32} (K : gx k F t ls (.int (x + y) :: r) h = R) : gx k (xAdd :: F) t ls (.int y :: .int x :: r) h = R := gx_step rfl K
theorem g_Sub {x y : Int32} (K : gx k F t ls (.int (x - y) :: r) h = R) : gx k (xSub :: F) t ls (.int y :: .int x :: r) h = R := gx_step rfl K
theorem g_Mul {x y : Int32} (K : gx k F t ls (.int (x * y) :: r) h = R) : gx k (xMul :: F) t ls (.int y :: .int x :: r) h = R := gx_step rfl K
theorem g_And {x y : Int32} (K : gx k F t ls (.int (x &&& y) :: r) h = R) : gx k (xAnd :: F) t ls (.int y :: .int x :: r) h = R := gx_step rfl K
theorem g_Or {x y : Int32} (K : gx k F t ls (.int (x ||| y) :: r) h = R) : gx k (xOr :: F) t ls (.int y :: .int x :: r) h = R := gx_step rfl K
theorem g_Xor {x y : Int32} (K : gx k F t ls (.int (x ^^^ y) :: r) h = R) : gx k (xXor :: F) t ls (.int y :: .int x :: r) h = R := gx_step rfl K
theorem g_Shl {x y : Int32} (K : gx k F t ls (.int (x <<< (y &&& 31)) :: r) h = R) : gx k (xShl :: F) t ls (.int y :: .int x :: r) h = R := gx_step rfl K
theorem g_Shr {x y : Int32} (K : gx k F t ls (.int (x >>> (y &&& 31)) :: r) h = R) : gx k (xShr :: F) t ls (.int y :: .int x :: r) h = R := gx_step rfl K
theorem g_Ushr {x y : Int32} (K : gx k F t ls (.int (x.toUInt32 >>> (y.toUInt32 &&& Int32.toUInt32 31)).toInt32 :: r) h = R) : gx k (xUshr :: F) t ls (.int y :: .int x :: r) h = R := gx_step rfl K
theorem g_Neg {x : Int32} (K : gx k F t ls (.int (-x) :: r) h = R) : gx k (xNeg :: F) t ls (.int x :: r) h = R := gx_step rfl K
theorem g_I2c {x : Int32} (K : gx k F t ls (.int (x.toUInt32 % 65536).toInt32 :: r) h = R) : gx k (xI2c :: F) t ls (.int x :: r) h = R := gx_step rfl K
theorem g_Max {x y : Int32} (hr : catS r ≤ 8) (K : gx k F t ls (.int (if x < y then y else x) :: r) h = R) : gx k (xMax :: F) t ls (.int y :: .int x :: r) h = R := gx_step (by unfold xMax xP2; exact if_pos hr) K
theorem g_Min {x y : Int32} (hr : catS r ≤ 8) (K : gx k F t ls (.int (if y < x then y else x) :: r) h = R) : gx k (xMin :: F) t ls (.int y :: .int x :: r) h = R := gx_step (by unfold xMin xP2; exact if_pos hr) K
theorem g_Abs {x : Int32} (hr : catS r ≤ 8) (K : gx k F t ls (.int (if 0 ≤ x then x else 0 - x) :: r) h = R) : gx k (xAbs :: F) t ls (.int x :: r) h = R := gx_step (by unfold xAbs; exact if_pos hr) K
theorem g_Div {x y : Int32} (hy : ¬ y = 0) (K : gx k F t ls (.int (x / y) :: r) h = R) : gx k (xDiv :: F) t ls (.int y :: .int x :: r) h = R := gx_step (by unfold xDiv; exact if_neg hy) K
theorem g_Rem {x y : Int32} (hy : ¬ y = 0) (K : gx k F t ls (.int (x - x / y * y) :: r) h = R) : gx k (xRem :: F) t ls (.int y :: .int x :: r) h = R := gx_step (by unfold xRem; exact if_neg hy) K
theorem g_I2L {x : Int32} (K : gx k F t ls (.long x.toInt64 :: r) h = R) : gx k (xI2L :: F) t ls (.int x :: r) h = R := gx_step rfl K
theorem g_Ladd {x y : Int64} (K : gx k F t ls (.long (x + y) :: r) h = R) : gx k (xLadd :: F) t ls (.long y :: .long x :: r) h = R := gx_step rfl K
theorem g_Lmin {x y : Int64} (hr : catS r ≤ 8) (K : gx k F t ls (.long (if y < x then y else x) :: r) h = R) : gx k (xLmin :: F) t ls (.long y :: .long x :: r) h = R := gx_step (by unfold xLmin; exact if_pos hr) K
theorem g_Lcmp {x y : Int64} (K : gx k F t ls (.int (lg_cmp x y) :: r) h = R) : gx k (xLcmp :: F) t ls (.long y :: .long x :: r) h = R := gx_step rfl K
theorem g_I2D {x : Int32} (K : gx k F t ls (.double (FP.i2d x) :: r) h = R) : gx k (xI2D :: F) t ls (.int x :: r) h = R := gx_step rfl K
theorem g_Ddiv {x y : UInt64} (hn : (FP.ddiv x y) &&& 0x7fffffffffffffff ≤ 0x7ff0000000000000) (K : gx k F t ls (.double (FP.ddiv x y) :: r) h = R) : gx k (xDdiv :: F) t ls (.double y :: .double x :: r) h = R := gx_step (by unfold xDdiv; exact if_pos hn) K
theorem g_Dcmp {op : CmpOp} {x y : UInt64} (K : gx k F t ls (.int (Op.cmpValue (FP.dcmp x y) op) :: r) h = R) : gx k (xDcmp op :: F) t ls (.double y :: .double x :: r) h = R := gx_step rfl K
theorem g_Dup {v : Value} (hv : v.category = 1) (K : gx k F t ls (v :: v :: r) h = R) : gx k (xDup :: F) t ls (v :: r) h = R := gx_step (by unfold xDup; exact if_pos hv) K
theorem g_Dup2 {v w : Value} (hv : v.category = 1) (hw : w.category = 1) (K : gx k F t ls (v :: w :: v :: w :: r) h = R) : gx k (xDup2 :: F) t ls (v :: w :: r) h = R := gx_step (by unfold xDup2; exact if_pos ⟨hv, hw⟩) K
theorem g_Obj {p : Nat} (hr : catS r ≤ 8) (K : gx k F t ls r h = R) : gx k (xObj :: F) t ls (.ref p :: r) h = R := gx_step (by unfold xObj; exact if_pos hr) K
theorem g_Get {ci f p : Nat} {fs : Vs} {v : Value} (hp : h.1 p = .inr (ci, fs)) (hv : vg fs f = some v) (K : gx k F t ls (v :: r) h = R) : gx k (xGet ci f :: F) t ls (.ref p :: r) h = R := gx_step (by unfold xGet; simp only [hp, hv, if_true]) K
theorem g_Put {ci f p : Nat} {ty : FieldType} {fs : Vs} {v : Value} (hp : h.1 p = .inr (ci, fs)) (hl : f < fs.length) (hv : okF ty v) (K : gx k F t ls r (hset h p (.inr (ci, vset fs f v))) = R) : gx k (xPut ci f ty :: F) t ls (v :: .ref p :: r) h = R := gx_step (by unfold xPut; simp only [hp]; exact if_pos ⟨rfl, hl, hv⟩) K
theorem g_New {ci : Nat} {fs : Vs} (K : gx k F t ls (.ref h.2.1 :: st) (hnew h (.inr (ci, fs)) fs.length) = R) : gx k (xNew ci fs :: F) t ls st h = R := gx_step rfl K
theorem g_NewA {a : Nat} {n : Int32} (hn : 0 ≤ n ∧ n.toNatClampNeg ≤ 1000000) (K : gx k F t ls (.ref h.2.1 :: r) (hnew h (.inl (a, n.toNatClampNeg, arr0 a)) n.toNatClampNeg) = R) : gx k (xNewA a :: F) t ls (.int n :: r) h = R := gx_step (by unfold xNewA; exact if_pos hn) K
theorem g_Len {a p n : Nat} {x : (Nat → Int32) ⊕ (Nat → Int64) ⊕ (Nat → UInt32) ⊕ (Nat → UInt64) ⊕ (Nat → Option Nat)} (hp : h.1 p = .inl (a, n, x)) (ha : a = 0 ∨ a = 1 ∨ a = 4 ∨ a = 7) (K : gx k F t ls (.int (Int32.ofNat n) :: r) h = R) : gx k (xLen :: F) t ls (.ref p :: r) h = R := gx_step (by unfold xLen; simp only [hp]; exact if_pos ha) K
theorem g_Ald {a p n : Nat} {i : Int32} {f : Nat → Int32} (hp : h.1 p = .inl (a, n, .inl f)) (ha : a = 0 ∨ a = 7) (hi : vin i n) (K : gx k F t ls (.int (f i.toNatClampNeg) :: r) h = R) : gx k (xAld :: F) t ls (.int i :: .ref p :: r) h = R := gx_step (by unfold xAld; simp only [hp]; exact if_pos ⟨ha, hi⟩) K
theorem g_Ast {p n : Nat} {i x : Int32} {f : Nat → Int32} (hp : h.1 p = .inl (0, n, .inl f)) (hi : vin i n) (K : gx k F t ls r (hset h p (.inl (0, n, .inl (upd f i.toNatClampNeg x)))) = R) : gx k (xAst :: F) t ls (.int x :: .int i :: .ref p :: r) h = R := gx_step (by unfold xAst; simp only [hp]; exact if_pos ⟨rfl, hi⟩) K
theorem g_Zld {p n : Nat} {i : Int32} {f : Nat → Int32} (hp : h.1 p = .inl (3, n, .inl f)) (hi : vin i n) (K : gx k F t ls (.int (f i.toNatClampNeg) :: r) h = R) : gx k (xZld :: F) t ls (.int i :: .ref p :: r) h = R := gx_step (by unfold xZld; simp only [hp]; exact if_pos ⟨rfl, hi⟩) K
theorem g_Zst {p n : Nat} {i x : Int32} {f : Nat → Int32} (hp : h.1 p = .inl (3, n, .inl f)) (hi : vin i n) (hx : x = 0 ∨ x = 1) (K : gx k F t ls r (hset h p (.inl (3, n, .inl (upd f i.toNatClampNeg x)))) = R) : gx k (xZst :: F) t ls (.int x :: .int i :: .ref p :: r) h = R := gx_step (by unfold xZst; simp only [hp]; exact if_pos ⟨rfl, hi, hx⟩) K
theorem g_Lld {p n : Nat} {i : Int32} {f : Nat → Int64} (hp : h.1 p = .inl (1, n, .inr (.inl f))) (hi : vin i n) (K : gx k F t ls (.long (f i.toNatClampNeg) :: r) h = R) : gx k (xLld :: F) t ls (.int i :: .ref p :: r) h = R := gx_step (by unfold xLld; simp only [hp]; exact if_pos ⟨rfl, hi⟩) K
theorem g_Lst {p n : Nat} {i : Int32} {x : Int64} {f : Nat → Int64} (hp : h.1 p = .inl (1, n, .inr (.inl f))) (hi : vin i n) (K : gx k F t ls r (hset h p (.inl (1, n, .inr (.inl (vp_updL f i.toNatClampNeg x))))) = R) : gx k (xLst :: F) t ls (.long x :: .int i :: .ref p :: r) h = R := gx_step (by unfold xLst; simp only [hp]; exact if_pos ⟨rfl, hi⟩) K
theorem g_Dld {p n : Nat} {i : Int32} {f : Nat → UInt64} (hp : h.1 p = .inl (2, n, .inr (.inr (.inr (.inl f))))) (hi : vin i n) (K : gx k F t ls (.double (f i.toNatClampNeg) :: r) h = R) : gx k (xDld :: F) t ls (.int i :: .ref p :: r) h = R := gx_step (by unfold xDld; simp only [hp]; exact if_pos ⟨rfl, hi⟩) K
theorem g_Dst {p n : Nat} {i : Int32} {x : UInt64} {f : Nat → UInt64} (hp : h.1 p = .inl (2, n, .inr (.inr (.inr (.inl f))))) (hi : vin i n) (K : gx k F t ls r (hset h p (.inl (2, n, .inr (.inr (.inr (.inl (vf_upd f i.toNatClampNeg x))))))) = R) : gx k (xDst :: F) t ls (.double x :: .int i :: .ref p :: r) h = R := gx_step (by unfold xDst; simp only [hp]; exact if_pos ⟨rfl, hi⟩) K
theorem g_Qld {p n : Nat} {i : Int32} {f : Nat → Option Nat} (hp : h.1 p = .inl (4, n, .inr (.inr (.inr (.inr f))))) (hi : vin i n) (K : gx k F t ls (va_rf (f i.toNatClampNeg) :: r) h = R) : gx k (xQld :: F) t ls (.int i :: .ref p :: r) h = R := gx_step (by unfold xQld; simp only [hp]; exact if_pos ⟨rfl, hi⟩) K
theorem g_Qst {p n x : Nat} {i : Int32} {f : Nat → Option Nat} {fs : Vs} (hp : h.1 p = .inl (4, n, .inr (.inr (.inr (.inr f))))) (hx : h.1 x = .inr (0, fs)) (hi : vin i n) (K : gx k F t ls r (hset h p (.inl (4, n, .inr (.inr (.inr (.inr (va_up f i.toNatClampNeg (some x)))))))) = R) : gx k (xQst :: F) t ls (.ref x :: .int i :: .ref p :: r) h = R := gx_step (by unfold xQst; simp only [hp, hx]; exact if_pos ⟨rfl, hi, rfl⟩) K
theorem g_Cpy {p q n0 n1 : Nat} {n sp dp : Int32} {f g : Nat → Int32} (hp : h.1 p = .inl (0, n0, .inl f)) (hq : h.1 q = .inl (0, n1, .inl g)) (hr : catS r ≤ 8) (h1 : 0 ≤ sp) (h2 : 0 ≤ dp) (h3 : 0 ≤ n) (h4 : sp.toNatClampNeg + n.toNatClampNeg ≤ n0) (h5 : dp.toNatClampNeg + n.toNatClampNeg ≤ n1)
    (K : gx k F t ls r (hset h q (.inl (0, n1, .inl (va_cpy f g sp.toNatClampNeg dp.toNatClampNeg n.toNatClampNeg)))) = R) : gx k (xCpy :: F) t ls (.int n :: .int dp :: .ref q :: .int sp :: .ref p :: r) h = R := gx_step (by unfold xCpy; simp only [hp, hq]; exact if_pos ⟨hr, True.intro, True.intro, h1, h2, h3, h4, h5⟩) K
theorem g_Sval {p n : Nat} {x : (Nat → Int32) ⊕ (Nat → Int64) ⊕ (Nat → UInt32) ⊕ (Nat → UInt64) ⊕ (Nat → Option Nat)} (hp : h.1 p = .inl (8, n, x)) (K : gx k F t ls (.ref (p + 20) :: r) h = R) : gx k (xSval :: F) t ls (.ref p :: r) h = R := gx_step (by unfold xSval; simp only [hp]; exact if_pos True.intro) K
theorem g_Scod {p n : Nat} {x : (Nat → Int32) ⊕ (Nat → Int64) ⊕ (Nat → UInt32) ⊕ (Nat → UInt64) ⊕ (Nat → Option Nat)} (hp : h.1 p = .inl (8, n, x)) (K : gx k F t ls (.int 0 :: r) h = R) : gx k (xScod :: F) t ls (.ref p :: r) h = R := gx_step (by unfold xScod; simp only [hp]; exact if_pos True.intro) K
theorem g_Blen {p n : Nat} {x : (Nat → Int32) ⊕ (Nat → Int64) ⊕ (Nat → UInt32) ⊕ (Nat → UInt64) ⊕ (Nat → Option Nat)} (hp : h.1 p = .inl (9, n, x)) (K : gx k F t ls (.int (Int32.ofNat n) :: r) h = R) : gx k (xBlen :: F) t ls (.ref p :: r) h = R := gx_step (by unfold xBlen; simp only [hp]; exact if_pos True.intro) K
theorem g_Bld {p n : Nat} {i : Int32} {f : Nat → Int32} (hp : h.1 p = .inl (9, n, .inl f)) (hi : vin i n) (K : gx k F t ls (.int (f i.toNatClampNeg) :: r) h = R) : gx k (xBld :: F) t ls (.int i :: .ref p :: r) h = R := gx_step (by unfold xBld; simp only [hp]; exact if_pos ⟨rfl, hi⟩) K
theorem g_Chk {n i : Int32} (h0 : 0 ≤ i) (h1 : i < n) (hr : catS r ≤ 8) (K : gx k F t ls r h = R) : gx k (xChk :: F) t ls (.int n :: .int i :: r) h = R := gx_step (by unfold xChk; exact if_pos ⟨h0, h1, hr⟩) K
/- ends -/
theorem g_Go {b : Nat} (K : rn k b ls st h = R) : gx k [] (tGo b) ls st h = R := K
theorem g_if1 {P : Int32 → Prop} {b c : Nat} {x : Int32} (kt : P x → rn k b ls r h = R) (kf : ¬ P x → rn k c ls r h = R) : gx k [] (tIf1 P b c) ls (.int x :: r) h = R := by
  by_cases hP : P x
  · exact gx_nil (show tIf1 P b c ls (.int x :: r) h = jmp b ls r h by unfold tIf1; exact if_pos hP) (kt hP)
  · exact gx_nil (show tIf1 P b c ls (.int x :: r) h = jmp c ls r h by unfold tIf1; exact if_neg hP) (kf hP)
theorem g_if2 {P : Int32 → Int32 → Prop} {b c : Nat} {x y : Int32} (kt : P x y → rn k b ls r h = R) (kf : ¬ P x y → rn k c ls r h = R) : gx k [] (tIf2 P b c) ls (.int y :: .int x :: r) h = R := by
  by_cases hP : P x y
  · exact gx_nil (show tIf2 P b c ls (.int y :: .int x :: r) h = jmp b ls r h by unfold tIf2; exact if_pos hP) (kt hP)
  · exact gx_nil (show tIf2 P b c ls (.int y :: .int x :: r) h = jmp c ls r h by unfold tIf2; exact if_neg hP) (kf hP)
theorem g_Eq0 {b c : Nat} {x : Int32} (kt : x = 0 → rn k b ls r h = R) (kf : ¬ x = 0 → rn k c ls r h = R) : gx k [] (tEq0 b c) ls (.int x :: r) h = R := g_if1 kt kf
theorem g_Ne0 {b c : Nat} {x : Int32} (kt : ¬ x = 0 → rn k b ls r h = R) (kf : x = 0 → rn k c ls r h = R) : gx k [] (tNe0 b c) ls (.int x :: r) h = R := g_if1 kt (fun q => kf (Classical.not_not.mp q))
theorem g_Lt0 {b c : Nat} {x : Int32} (kt : x < 0 → rn k b ls r h = R) (kf : ¬ x < 0 → rn k c ls r h = R) : gx k [] (tLt0 b c) ls (.int x :: r) h = R := g_if1 kt kf
theorem g_Ge0 {b c : Nat} {x : Int32} (kt : 0 ≤ x → rn k b ls r h = R) (kf : ¬ 0 ≤ x → rn k c ls r h = R) : gx k [] (tGe0 b c) ls (.int x :: r) h = R := g_if1 kt kf
theorem g_Gt0 {b c : Nat} {x : Int32} (kt : 0 < x → rn k b ls r h = R) (kf : ¬ 0 < x → rn k c ls r h = R) : gx k [] (tGt0 b c) ls (.int x :: r) h = R := g_if1 kt kf
theorem g_Le0 {b c : Nat} {x : Int32} (kt : x ≤ 0 → rn k b ls r h = R) (kf : ¬ x ≤ 0 → rn k c ls r h = R) : gx k [] (tLe0 b c) ls (.int x :: r) h = R := g_if1 kt kf
theorem g_Eq {b c : Nat} {x y : Int32} (kt : x = y → rn k b ls r h = R) (kf : ¬ x = y → rn k c ls r h = R) : gx k [] (tEq b c) ls (.int y :: .int x :: r) h = R := g_if2 kt kf
theorem g_Ne {b c : Nat} {x y : Int32} (kt : ¬ x = y → rn k b ls r h = R) (kf : x = y → rn k c ls r h = R) : gx k [] (tNe b c) ls (.int y :: .int x :: r) h = R := g_if2 kt (fun q => kf (Classical.not_not.mp q))
theorem g_Lt {b c : Nat} {x y : Int32} (kt : x < y → rn k b ls r h = R) (kf : ¬ x < y → rn k c ls r h = R) : gx k [] (tLt b c) ls (.int y :: .int x :: r) h = R := g_if2 kt kf
theorem g_Ge {b c : Nat} {x y : Int32} (kt : y ≤ x → rn k b ls r h = R) (kf : ¬ y ≤ x → rn k c ls r h = R) : gx k [] (tGe b c) ls (.int y :: .int x :: r) h = R := g_if2 kt kf
theorem g_Gt {b c : Nat} {x y : Int32} (kt : y < x → rn k b ls r h = R) (kf : ¬ y < x → rn k c ls r h = R) : gx k [] (tGt b c) ls (.int y :: .int x :: r) h = R := g_if2 kt kf
theorem g_Le {b c : Nat} {x y : Int32} (kt : x ≤ y → rn k b ls r h = R) (kf : ¬ x ≤ y → rn k c ls r h = R) : gx k [] (tLe b c) ls (.int y :: .int x :: r) h = R := g_if2 kt kf
theorem g_NulN {b c : Nat} (K : rn k b ls r h = R) : gx k [] (tNul b c) ls (.null :: r) h = R := K
theorem g_NulR {b c p : Nat} (K : rn k c ls r h = R) : gx k [] (tNul b c) ls (.ref p :: r) h = R := K
theorem g_Sw {d : Nat} {l : List (Int32 × Nat)} {x : Int32} (K : fin mxl rn k (tsw ls r h x d l) = R) : gx k [] (tSw d l) ls (.int x :: r) h = R := K
theorem g_swd {d : Nat} {x : Int32} (K : rn k d ls r h = R) : fin mxl rn k (tsw ls r h x d []) = R := K
theorem g_swc {d b : Nat} {v x : Int32} {l : List (Int32 × Nat)} (kt : x = v → rn k b ls r h = R) (kf : ¬ x = v → fin mxl rn k (tsw ls r h x d l) = R) : fin mxl rn k (tsw ls r h x d ((v, b) :: l)) = R := by
  unfold tsw
  by_cases hv : x = v
  · rw [if_pos hv]; exact kt hv
  · rw [if_neg hv]; exact kf hv
theorem g_Ret {x : Int32} (K : some (Sum.inl (some (Value.int x)), h) = R) : gx k [] tRet ls [.int x] h = R := K
theorem g_RetZ {x : Int32} (hx : x = 0 ∨ x = 1) (K : some (Sum.inl (some (Value.int x)), h) = R) : gx k [] tRetZ ls [.int x] h = R := gx_nil (q := some (.inr (.inl (.inl (some (.int x)), h)))) (show tRetZ ls [.int x] h = _ by unfold tRetZ; exact if_pos hx) K
theorem g_RetC {x : Int32} (hx : (x.toUInt32 % 65536).toInt32 = x) (K : some (Sum.inl (some (Value.int x)), h) = R) : gx k [] tRetC ls [.int x] h = R := gx_nil (q := some (.inr (.inl (.inl (some (.int x)), h)))) (show tRetC ls [.int x] h = _ by unfold tRetC; exact if_pos hx) K
theorem g_RetY (K : some (Sum.inl (some (Value.int 0)), h) = R) : gx k [] tRetY ls [.int 0] h = R := K
theorem g_RetL {x : Int64} (K : some (Sum.inl (some (Value.long x)), h) = R) : gx k [] tRetL ls [.long x] h = R := K
theorem g_RetD {x : UInt64} (K : some (Sum.inl (some (Value.double x)), h) = R) : gx k [] tRetD ls [.double x] h = R := K
theorem g_RetA {x : Nat} (K : some (Sum.inl (some (Value.ref x)), h) = R) : gx k [] tRetA ls [.ref x] h = R := K
theorem g_RetV (K : some (Sum.inl none, h) = R) : gx k [] tRetV ls [] h = R := K
theorem g_Thr {E : String} (K : some (Sum.inr E, hexc h) = R) : gx k [] (tThr E) ls [] h = R := K
/- calls -/
theorem g_aft {b : Nat} {m : Nat} {hs : Option (List (String × Nat × Nat))} {as : Vs} {v : Option Value} {h2 : Hp} (hc : cl m as h = some (.inl v, h2)) (K : rn k b ls (v.toList ++ r) h2 = R) : fin mxl rn k (some (.inr (.inr (m, as, b, ls, r, h, hs)))) = R := by
  show aft rn k b ls r hs (rn m 0 (entL (mxl m) as) [] h) = R
  rw [show rn m 0 (entL (mxl m) as) [] h = some (.inl v, h2) from hc]
  exact K
theorem g_Cs {m nl n b : Nat} {as : Vs} {v : Option Value} {h2 : Hp} (ht : tkr n st = some (as, r)) (hr : catS r ≤ 8) (he : (entA as).length ≤ nl) (hc : cl m as h = some (.inl v, h2)) (K : rn k b ls (v.toList ++ r) h2 = R) : gx k [] (tCs m nl n b) ls st h = R :=
  gx_nil (show tCs m nl n b ls st h = some (.inr (.inr (m, as, b, ls, r, h, none))) by unfold tCs; simp only [ht]; exact if_pos ⟨hr, he⟩) (g_aft hc K)
theorem g_Cv {m nl ci n b p : Nat} {hs : Option (List (String × Nat × Nat))} {as fs : Vs} {v : Option Value} {h2 : Hp} (ht : tkr n st = some (as, .ref p :: r)) (hp : h.1 p = .inr (ci, fs)) (hr : catS r ≤ 8) (he : (entA (.ref p :: as)).length ≤ nl) (hc : cl m (.ref p :: as) h = some (.inl v, h2)) (K : rn k b ls (v.toList ++ r) h2 = R) : gx k [] (tCv m nl ci n b hs) ls st h = R :=
  gx_nil (show tCv m nl ci n b hs ls st h = some (.inr (.inr (m, .ref p :: as, b, ls, r, h, hs))) by unfold tCv; simp only [ht, hp]; exact if_pos ⟨True.intro, hr, he⟩) (g_aft hc K)
theorem g_Ci {m nl n b p : Nat} {as : Vs} {v : Option Value} {h2 : Hp} (ht : tkr n st = some (as, .ref p :: r)) (hr : catS r ≤ 8) (he : (entA (.ref p :: as)).length ≤ nl) (hc : cl m (.ref p :: as) h = some (.inl v, h2)) (K : rn k b ls (v.toList ++ r) h2 = R) : gx k [] (tCi m nl n b) ls st h = R :=
  gx_nil (show tCi m nl n b ls st h = some (.inr (.inr (m, .ref p :: as, b, ls, r, h, none))) by unfold tCi; simp only [ht]; exact if_pos ⟨hr, he⟩) (g_aft hc K)
theorem g_Cx {m nl n b p n0 : Nat} {x : (Nat → Int32) ⊕ (Nat → Int64) ⊕ (Nat → UInt32) ⊕ (Nat → UInt64) ⊕ (Nat → Option Nat)} {as : Vs} {v : Option Value} {h2 : Hp} (ht : tkr n st = some (as, .ref p :: r)) (hp : h.1 p = .inl (8, n0, x)) (hr : catS r ≤ 8) (he : (entA (.ref p :: as)).length ≤ nl) (hc : cl m (.ref p :: as) h = some (.inl v, h2)) (K : rn k b ls (v.toList ++ r) h2 = R) : gx k [] (tCx m nl n b) ls st h = R :=
  gx_nil (show tCx m nl n b ls st h = some (.inr (.inr (m, .ref p :: as, b, ls, r, h, none))) by unfold tCx; simp only [ht, hp]; exact if_pos ⟨True.intro, hr, he⟩) (g_aft hc K)
/-- a call that throws, not caught here -/
theorem g_CvT {m nl ci n b p : Nat} {as fs : Vs} {E : String} {h2 : Hp} (ht : tkr n st = some (as, .ref p :: r)) (hp : h.1 p = .inr (ci, fs)) (hr : catS r ≤ 8) (he : (entA (.ref p :: as)).length ≤ nl) (hc : cl m (.ref p :: as) h = some (.inr E, h2)) (K : some (Sum.inr E, h2) = R) : gx k [] (tCv m nl ci n b (some [])) ls st h = R :=
  gx_nil (show tCv m nl ci n b (some []) ls st h = some (.inr (.inr (m, .ref p :: as, b, ls, r, h, some []))) by unfold tCv; simp only [ht, hp]; exact if_pos ⟨True.intro, hr, he⟩) (by
    show aft rn k b ls r (some []) (rn m 0 (entL (mxl m) (.ref p :: as)) [] h) = R
    rw [show rn m 0 (entL (mxl m) (.ref p :: as)) [] h = some (.inr E, h2) from hc]
    exact K)
end GX
