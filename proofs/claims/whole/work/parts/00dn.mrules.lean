/-! Rules over memory. -/
section MX
variable {k : Nat} {F : List XF} {t : TF} {ls ls' : Lo} {st r : Vs} {h : Hp} {R : Option Rs} {g : Gm} {I : Mm}
theorem m_C {z : Int} {x : Int32} (hx : x = iI z) (K : gx k F t ls (.int (iI z) :: st) h = R) : gx k (xC (.int x) :: F) t ls st h = R := by subst hx; exact g_C K
theorem m_CL {z : Int} {x : Int64} (hx : x = lI z) (K : gx k F t ls (.long (lI z) :: st) h = R) : gx k (xC (.long x) :: F) t ls st h = R := by subst hx; exact g_C K
theorem m_Inc {i : Nat} {n : Int32} {a z : Int} (hx : lg ls i = some (.int (iI a))) (hn : n = iI z) (hl : lst ls i (.int (iI (a + z))) = ls') (K : gx k F t ls' st h = R) : gx k (xInc i n :: F) t ls st h = R := by
  subst hn; exact g_Inc hx (by rw [iI_add]; exact hl) K
theorem m_Add {a b : Int} (K : gx k F t ls (.int (iI (a + b)) :: r) h = R) : gx k (xAdd :: F) t ls (.int (iI b) :: .int (iI a) :: r) h = R := g_Add (by rw [iI_add]; exact K)
theorem m_Sub {a b : Int} (K : gx k F t ls (.int (iI (a - b)) :: r) h = R) : gx k (xSub :: F) t ls (.int (iI b) :: .int (iI a) :: r) h = R := g_Sub (by rw [iI_sub]; exact K)
theorem m_Mul {a b : Int} (K : gx k F t ls (.int (iI (a * b)) :: r) h = R) : gx k (xMul :: F) t ls (.int (iI b) :: .int (iI a) :: r) h = R := g_Mul (by rw [iI_mul]; exact K)
theorem m_And {a b : Int} (K : gx k F t ls (.int (iI (andI a b)) :: r) h = R) : gx k (xAnd :: F) t ls (.int (iI b) :: .int (iI a) :: r) h = R := g_And (by rw [iI_of (iI a &&& iI b)]; exact K)
theorem m_Or {a b : Int} (K : gx k F t ls (.int (iI (orI a b)) :: r) h = R) : gx k (xOr :: F) t ls (.int (iI b) :: .int (iI a) :: r) h = R := g_Or (by rw [iI_of (iI a ||| iI b)]; exact K)
theorem m_Xor {a b : Int} (K : gx k F t ls (.int (iI (xorI a b)) :: r) h = R) : gx k (xXor :: F) t ls (.int (iI b) :: .int (iI a) :: r) h = R := g_Xor (by rw [iI_of (iI a ^^^ iI b)]; exact K)
theorem m_Shl {a b : Int} (K : gx k F t ls (.int (iI (shlI a b)) :: r) h = R) : gx k (xShl :: F) t ls (.int (iI b) :: .int (iI a) :: r) h = R := g_Shl (by rw [iI_of (iI a <<< (iI b &&& 31))]; exact K)
theorem m_Shr {a b : Int} (K : gx k F t ls (.int (iI (shrI a b)) :: r) h = R) : gx k (xShr :: F) t ls (.int (iI b) :: .int (iI a) :: r) h = R := g_Shr (by rw [iI_of (iI a >>> (iI b &&& 31))]; exact K)
theorem m_Ushr {a b : Int} (K : gx k F t ls (.int (iI (ushrI a b)) :: r) h = R) : gx k (xUshr :: F) t ls (.int (iI b) :: .int (iI a) :: r) h = R := g_Ushr (by rw [iI_of ((iI a).toUInt32 >>> ((iI b).toUInt32 &&& Int32.toUInt32 31)).toInt32]; exact K)
theorem m_Neg {a : Int} (K : gx k F t ls (.int (iI (-a)) :: r) h = R) : gx k (xNeg :: F) t ls (.int (iI a) :: r) h = R := g_Neg (by rw [iI_neg]; exact K)
theorem iI_div {a b : Int} (h1 : -2147483648 ≤ a) (h2 : a < 2147483648) (h3 : 0 < b) (h4 : b < 2147483648) : iI a / iI b = iI (Int.tdiv a b) := by
  rw [iI_of (iI a / iI b), Int32.toInt_div_of_ne_right, iI_toInt h1 h2, iI_toInt (by omega) h4]
  intro e
  rw [iI_of (-1 : Int32), iI_eq (by omega) h4 (by decide) (by decide)] at e
  exact absurd e (by show ¬ b = (-1 : Int32).toInt; rw [show (-1 : Int32).toInt = -1 from rfl]; omega)
theorem m_Div {a b : Int} (h1 : -2147483648 ≤ a) (h2 : a < 2147483648) (h3 : 0 < b) (h4 : b < 2147483648) (K : gx k F t ls (.int (iI (Int.tdiv a b)) :: r) h = R) : gx k (xDiv :: F) t ls (.int (iI b) :: .int (iI a) :: r) h = R :=
  g_Div (by rw [iI_0, iI_eq (by omega) h4 (by decide) (by decide)]; omega) (by rw [iI_div h1 h2 h3 h4]; exact K)
theorem m_Rem {a b : Int} (h1 : -2147483648 ≤ a) (h2 : a < 2147483648) (h3 : 0 < b) (h4 : b < 2147483648) (K : gx k F t ls (.int (iI (Int.tmod a b)) :: r) h = R) : gx k (xRem :: F) t ls (.int (iI b) :: .int (iI a) :: r) h = R :=
  g_Rem (by rw [iI_0, iI_eq (by omega) h4 (by decide) (by decide)]; omega) (by
    rw [iI_div h1 h2 h3 h4, iI_mul, iI_sub, Int.mul_comm, show a - b * a.tdiv b = a.tmod b by have := Int.mul_tdiv_add_tmod a b; omega]; exact K)
theorem m_Max {a b : Int} (h1 : -2147483648 ≤ a) (h2 : a < 2147483648) (h3 : -2147483648 ≤ b) (h4 : b < 2147483648) (hr : catS r ≤ 8) (K : gx k F t ls (.int (iI (max a b)) :: r) h = R) : gx k (xMax :: F) t ls (.int (iI b) :: .int (iI a) :: r) h = R := by
  refine g_Max hr ?_
  rw [← K]
  by_cases hc : a < b
  · rw [if_pos ((iI_lt h1 h2 h3 h4).mpr hc), show max a b = b by omega]
  · rw [if_neg (fun e => hc ((iI_lt h1 h2 h3 h4).mp e)), show max a b = a by omega]
theorem m_Min {a b : Int} (h1 : -2147483648 ≤ a) (h2 : a < 2147483648) (h3 : -2147483648 ≤ b) (h4 : b < 2147483648) (hr : catS r ≤ 8) (K : gx k F t ls (.int (iI (min a b)) :: r) h = R) : gx k (xMin :: F) t ls (.int (iI b) :: .int (iI a) :: r) h = R := by
  refine g_Min hr ?_
  rw [← K]
  by_cases hc : b < a
  · rw [if_pos ((iI_lt h3 h4 h1 h2).mpr hc), show min a b = b by omega]
  · rw [if_neg (fun e => hc ((iI_lt h3 h4 h1 h2).mp e)), show min a b = a by omega]
theorem m_Abs {a : Int} (h1 : -2147483648 ≤ a) (h2 : a < 2147483648) (hr : catS r ≤ 8) (K : gx k F t ls (.int (iI (if 0 ≤ a then a else -a)) :: r) h = R) : gx k (xAbs :: F) t ls (.int (iI a) :: r) h = R := by
  refine g_Abs hr ?_
  rw [← K]
  by_cases hc : 0 ≤ a
  · rw [if_pos hc, if_pos (by rw [iI_0, iI_le (by decide) (by decide) h1 h2]; exact hc)]
  · rw [if_neg hc, if_neg (by rw [iI_0, iI_le (by decide) (by decide) h1 h2]; exact hc), iI_0, iI_sub, Int.zero_sub]
theorem m_I2L {a : Int} (h1 : -2147483648 ≤ a) (h2 : a < 2147483648) (K : gx k F t ls (.long (lI a) :: r) h = R) : gx k (xI2L :: F) t ls (.int (iI a) :: r) h = R := by
  refine g_I2L ?_
  rw [show (iI a).toInt64 = lI a by rw [← Int64.toInt_inj, Int32.toInt_toInt64, iI_toInt h1 h2, lI_toInt (by omega) (by omega)]]
  exact K
theorem m_Ladd {a b : Int} (K : gx k F t ls (.long (lI (a + b)) :: r) h = R) : gx k (xLadd :: F) t ls (.long (lI b) :: .long (lI a) :: r) h = R := g_Ladd (by rw [lI_add]; exact K)
theorem m_Lmin {a b : Int} (h1 : -9223372036854775808 ≤ a) (h2 : a < 9223372036854775808) (h3 : -9223372036854775808 ≤ b) (h4 : b < 9223372036854775808) (hr : catS r ≤ 8) (K : gx k F t ls (.long (lI (min a b)) :: r) h = R) : gx k (xLmin :: F) t ls (.long (lI b) :: .long (lI a) :: r) h = R := by
  refine g_Lmin hr ?_
  rw [← K]
  by_cases hc : b < a
  · rw [if_pos ((lI_lt h3 h4 h1 h2).mpr hc), show min a b = b by omega]
  · rw [if_neg (fun e => hc ((lI_lt h3 h4 h1 h2).mp e)), show min a b = a by omega]
theorem m_Lcmp {a b : Int} (h1 : -9223372036854775808 ≤ a) (h2 : a < 9223372036854775808) (h3 : -9223372036854775808 ≤ b) (h4 : b < 9223372036854775808) (K : gx k F t ls (.int (iI (cmpI a b)) :: r) h = R) : gx k (xLcmp :: F) t ls (.long (lI b) :: .long (lI a) :: r) h = R := by
  refine g_Lcmp ?_
  rw [← K]
  congr 3
  unfold lg_cmp cmpI
  by_cases hc : a < b
  · rw [if_neg (show ¬ lI a > lI b from fun e => by have := (lI_lt h3 h4 h1 h2).mp e; omega), if_neg (fun e => by have := (lI_eq h1 h2 h3 h4).mp e; omega), if_pos hc]; rfl
  · by_cases hd : a = b
    · subst hd; simp only [lI_lt h1 h2 h3 h4, hc, gt_iff_lt, if_true, if_false]; rfl
    · rw [if_pos (show lI a > lI b from (lI_lt h3 h4 h1 h2).mpr (by omega)), if_neg hc, if_neg hd]; rfl
theorem m_Dcmp {op : CmpOp} {x y : UInt64} (K : gx k F t ls (.int (iI (dcI x y op)) :: r) h = R) : gx k (xDcmp op :: F) t ls (.double y :: .double x :: r) h = R := g_Dcmp (by rw [iI_of (Op.cmpValue (FP.dcmp x y) op)]; exact K)
theorem m_GetR {ci f p q : Nat} {fs : List (Option Nat)} (hs : g.1 p = .inr (.inl (ci, fs))) (hf : vg (rfld (I p) 0 fs) f = some (.ref q)) (K : gx k F t ls (.ref q :: r) (mk g I) = R) : gx k (xGet ci f :: F) t ls (.ref p :: r) (mk g I) = R := g_Get (rnd_obj hs) hf K
theorem m_GetI {ci f p : Nat} {j : Int} {fs : List (Option Nat)} (hs : g.1 p = .inr (.inl (ci, fs))) (hf : vg (rfld (I p) 0 fs) f = some (.int (iI (I p j)))) (K : gx k F t ls (.int (iI (I p j)) :: r) (mk g I) = R) : gx k (xGet ci f :: F) t ls (.ref p :: r) (mk g I) = R := g_Get (rnd_obj hs) hf K
theorem m_Put {ci f p : Nat} {v : Int} {ty : FieldType} {fs : List (Option Nat)} (hs : g.1 p = .inr (.inl (ci, fs))) (hf : fs[f]? = some none) (ho : okF ty (.int (iI v))) (K : gx k F t ls r (mk g (upd2 I p f v)) = R) : gx k (xPut ci f ty :: F) t ls (.int (iI v) :: .ref p :: r) (mk g I) = R := by
  refine g_Put (rnd_obj hs) ?_ ho ?_
  · rw [rfld_len]
    exact (List.getElem?_eq_some_iff.mp hf).1
  · rw [rfld_upd hf, hset_mk (i := (f : Int)) (v := v)]
    · exact K
    · rw [rnd_obj hs]
      congr 2
      refine rfld_congr (fun m => ?_)
      unfold upd2
      by_cases hm : m = (f : Int)
      · rw [if_pos (by omega), if_pos ⟨rfl, hm⟩]
      · rw [if_neg (by omega), if_neg (fun e => hm e.2)]
theorem m_PutI {ci f p : Nat} {v j : Int} {fs : List (Option Nat)} (hs : g.1 p = .inr (.inl (ci, fs))) (hf : fs[f]? = some none) (K : gx k F t ls r (mk g (upd2 I p f v)) = R) : gx k (xPut ci f .int :: F) t ls (.int (iI v) :: .ref p :: r) (mk g I) = R := m_Put hs hf True.intro K
theorem m_PutZ {ci f p : Nat} {v j : Int} {fs : List (Option Nat)} (hs : g.1 p = .inr (.inl (ci, fs))) (hf : fs[f]? = some none) (hv : v = 0 ∨ v = 1) (K : gx k F t ls r (mk g (upd2 I p f v)) = R) : gx k (xPut ci f .boolean :: F) t ls (.int (iI v) :: .ref p :: r) (mk g I) = R := m_Put hs hf (m_01 hv) K
theorem m_Len {p : Nat} (ht : gt g p = 0 ∨ gt g p = 1 ∨ gt g p = 4 ∨ gt g p = 7) (K : gx k F t ls (.int (iI (gn g p : Int)) :: r) (mk g I) = R) : gx k (xLen :: F) t ls (.ref p :: r) (mk g I) = R := by
  rcases ht with ht | ht | ht | ht
  · exact g_Len (show (mk g I).1 p = _ from rnd_int ht (by omega)) (Or.inl rfl) (by rw [iI_nat]; exact K)
  · exact g_Len (show (mk g I).1 p = _ from rnd_l ht) (Or.inr (Or.inl rfl)) (by rw [iI_nat]; exact K)
  · exact g_Len (show (mk g I).1 p = _ from rnd_q ht) (Or.inr (Or.inr (Or.inl rfl))) (by rw [iI_nat]; exact K)
  · exact g_Len (show (mk g I).1 p = _ from rnd_int ht (by omega)) (Or.inr (Or.inr (Or.inr rfl))) (by rw [iI_nat]; exact K)
theorem m_vin {i : Int} {n : Nat} (h0 : 0 ≤ i) (h1 : i < (n : Int)) (h2 : i < 2147483648) : vin (iI i) n := by
  refine ⟨?_, ?_⟩
  · rw [iI_0, iI_le (by omega) (by omega) (by omega) (by omega)]; exact h0
  · rw [iI_cl (by omega) (by omega)]; omega
theorem m_cl {i : Int} (h0 : 0 ≤ i) (h2 : i < 2147483648) : (((iI i).toNatClampNeg : Nat) : Int) = i := by rw [iI_cl (by omega) h2]; omega
theorem m_Ald {p : Nat} {i : Int} (ht : gt g p = 0 ∨ gt g p = 7) (h0 : 0 ≤ i) (h1 : i < (gn g p : Int)) (h2 : i < 2147483648) (K : gx k F t ls (.int (iI (I p i)) :: r) (mk g I) = R) : gx k (xAld :: F) t ls (.int (iI i) :: .ref p :: r) (mk g I) = R :=
  g_Ald (rnd_int rfl (by omega)) ht (m_vin h0 h1 h2) (by rw [m_cl h0 h2]; exact K)
theorem m_Zld {p : Nat} {i : Int} (ht : gt g p = 3) (h0 : 0 ≤ i) (h1 : i < (gn g p : Int)) (h2 : i < 2147483648) (K : gx k F t ls (.int (iI (I p i)) :: r) (mk g I) = R) : gx k (xZld :: F) t ls (.int (iI i) :: .ref p :: r) (mk g I) = R :=
  g_Zld (rnd_int ht (by omega)) (m_vin h0 h1 h2) (by rw [m_cl h0 h2]; exact K)
theorem hset_a {p a : Nat} {i v : Int} (ht : gt g p = a) (ha : a = 0 ∨ a = 3) (h0 : 0 ≤ i) (h2 : i < 2147483648) : hset (mk g I) p (.inl (a, gn g p, .inl (upd (fun i => iI (I p (i : Int))) (iI i).toNatClampNeg (iI v)))) = mk g (upd2 I p i v) := by
  refine hset_mk ?_
  rw [rnd_int ht (by omega)]
  congr 4
  funext j
  unfold upd upd2
  by_cases hj : j = (iI i).toNatClampNeg
  · rw [if_pos hj, if_pos ⟨rfl, by rw [hj]; exact m_cl h0 h2⟩]
  · rw [if_neg hj, if_neg (fun e => hj (by have := m_cl h0 h2; omega))]
theorem m_Ast {p : Nat} {i v : Int} (ht : gt g p = 0) (h0 : 0 ≤ i) (h1 : i < (gn g p : Int)) (h2 : i < 2147483648) (K : gx k F t ls r (mk g (upd2 I p i v)) = R) : gx k (xAst :: F) t ls (.int (iI v) :: .int (iI i) :: .ref p :: r) (mk g I) = R :=
  g_Ast (rnd_int ht (by omega)) (m_vin h0 h1 h2) (by rw [hset_a ht (by omega) h0 h2]; exact K)
theorem m_Zst {p : Nat} {i v : Int} (ht : gt g p = 3) (h0 : 0 ≤ i) (h1 : i < (gn g p : Int)) (h2 : i < 2147483648) (hv : v = 0 ∨ v = 1) (K : gx k F t ls r (mk g (upd2 I p i v)) = R) : gx k (xZst :: F) t ls (.int (iI v) :: .int (iI i) :: .ref p :: r) (mk g I) = R :=
  g_Zst (rnd_int ht (by omega)) (m_vin h0 h1 h2) (m_01 hv) (by rw [hset_a ht (by omega) h0 h2]; exact K)
theorem m_Lld {p : Nat} {i : Int} (ht : gt g p = 1) (h0 : 0 ≤ i) (h1 : i < (gn g p : Int)) (h2 : i < 2147483648) (K : gx k F t ls (.long (lI (g.2.1 p i)) :: r) (mk g I) = R) : gx k (xLld :: F) t ls (.int (iI i) :: .ref p :: r) (mk g I) = R :=
  g_Lld (rnd_l ht) (m_vin h0 h1 h2) (by rw [m_cl h0 h2]; exact K)
theorem gt_L {L : Nat → Int → Int} {p : Nat} : gt (gL g L) p = gt g p := rfl
theorem m_Lst {p : Nat} {i v : Int} (ht : gt g p = 1) (h0 : 0 ≤ i) (h1 : i < (gn g p : Int)) (h2 : i < 2147483648) (K : gx k F t ls r (mk (gL g (upd2 g.2.1 p i v)) I) = R) : gx k (xLst :: F) t ls (.long (lI v) :: .int (iI i) :: .ref p :: r) (mk g I) = R := by
  refine g_Lst (rnd_l ht) (m_vin h0 h1 h2) ?_
  rw [← K]
  congr 1
  unfold hset mk
  congr 1
  funext q
  by_cases hq : q = p
  · subst hq
    rw [if_pos rfl, rnd_l (g := gL g (upd2 g.2.1 q i v)) ht]
    show (Sum.inl (1, gn g q, Sum.inr (Sum.inl (vp_updL (fun i => lI (g.2.1 q (i : Int))) (iI i).toNatClampNeg (lI v)))) : va_E) = Sum.inl (1, gn g q, Sum.inr (Sum.inl (fun (j : Nat) => lI (upd2 g.2.1 q i v q (j : Int)))))
    congr 5
    funext j
    unfold vp_updL upd2
    by_cases hj : j = (iI i).toNatClampNeg
    · rw [if_pos hj, if_pos ⟨rfl, by rw [hj]; exact m_cl h0 h2⟩]
    · rw [if_neg hj, if_neg (fun e => hj (by have := m_cl h0 h2; omega))]
  · rw [if_neg hq]
    show rc (g.1 q) (g.2.1 q) (g.2.2.1 q) (g.2.2.2.1 q) (I q) = rc (g.1 q) (upd2 g.2.1 p i v q) (g.2.2.1 q) (g.2.2.2.1 q) (I q)
    rw [show upd2 g.2.1 p i v q = g.2.1 q from funext fun j => upd2_p hq]
theorem m_Dld {p : Nat} (ht : gt g p = 2) (h1 : 0 < gn g p) (K : gx k F t ls (.double (g.2.2.1 p 0) :: r) (mk g I) = R) : gx k (xDld :: F) t ls (.int (iI 0) :: .ref p :: r) (mk g I) = R :=
  g_Dld (rnd_d ht) (m_vin (by decide) (by omega) (by decide)) K
theorem m_Dst {p : Nat} {v : UInt64} (ht : gt g p = 2) (h1 : 0 < gn g p) (K : gx k F t ls r (mk (gD g (updD g.2.2.1 p 0 v)) I) = R) : gx k (xDst :: F) t ls (.double v :: .int (iI 0) :: .ref p :: r) (mk g I) = R := by
  refine g_Dst (rnd_d ht) (m_vin (by decide) (by omega) (by decide)) ?_
  rw [← K]
  congr 1
  unfold hset mk
  congr 1
  funext q
  by_cases hq : q = p
  · subst hq
    rw [if_pos rfl, rnd_d (g := gD g (updD g.2.2.1 q 0 v)) ht]
    show (Sum.inl (2, gn g q, Sum.inr (Sum.inr (Sum.inr (Sum.inl (vf_upd (g.2.2.1 q) (iI 0).toNatClampNeg v))))) : va_E) = Sum.inl (2, gn g q, Sum.inr (Sum.inr (Sum.inr (Sum.inl (updD g.2.2.1 q 0 v q)))))
    congr 7
    funext j
    unfold vf_upd updD
    by_cases hj : j = 0
    · rw [if_pos (show j = (iI 0).toNatClampNeg from hj), if_pos ⟨rfl, hj⟩]
    · rw [if_neg (show ¬ j = (iI 0).toNatClampNeg from hj), if_neg (fun e => hj e.2)]
  · rw [if_neg hq]
    show rc (g.1 q) (g.2.1 q) (g.2.2.1 q) (g.2.2.2.1 q) (I q) = rc (g.1 q) (g.2.1 q) (updD g.2.2.1 p 0 v q) (g.2.2.2.1 q) (I q)
    rw [show updD g.2.2.1 p 0 v q = g.2.2.1 q from funext fun j => if_neg (fun e => hq e.1)]
/- ends -/
theorem m_if1 {P : Int32 → Prop} {Q : Prop} [dq : Decidable Q] {b c : Nat} {x : Int} (h : P (iI x) ↔ Q) : gx k [] (tIf1 P b c) ls (.int (iI x) :: r) (mk g I) = if Q then rn k b ls r (mk g I) else rn k c ls r (mk g I) :=
  g_if1 (fun hp => (if_pos (h.mp hp)).symm) (fun hp => (if_neg (fun hq => hp (h.mpr hq))).symm)
theorem m_if2 {P : Int32 → Int32 → Prop} {Q : Prop} [dq : Decidable Q] {b c : Nat} {x y : Int} (h : P (iI x) (iI y) ↔ Q) : gx k [] (tIf2 P b c) ls (.int (iI y) :: .int (iI x) :: r) (mk g I) = if Q then rn k b ls r (mk g I) else rn k c ls r (mk g I) :=
  g_if2 (fun hp => (if_pos (h.mp hp)).symm) (fun hp => (if_neg (fun hq => hp (h.mpr hq))).symm)
theorem m_Eq0 {b c : Nat} {x : Int} (h1 : -2147483648 ≤ x) (h2 : x < 2147483648) : gx k [] (tEq0 b c) ls (.int (iI x) :: r) (mk g I) = if x = 0 then rn k b ls r (mk g I) else rn k c ls r (mk g I) := m_if1 (P := fun x => x = 0) (Q := x = 0) (iI_eq (b := 0) h1 h2 (by decide) (by decide))
theorem m_Ne0 {b c : Nat} {x : Int} (h1 : -2147483648 ≤ x) (h2 : x < 2147483648) : gx k [] (tNe0 b c) ls (.int (iI x) :: r) (mk g I) = if ¬ x = 0 then rn k b ls r (mk g I) else rn k c ls r (mk g I) := m_if1 (P := fun x => ¬ x = 0) (Q := ¬ x = 0) (not_congr (iI_eq (b := 0) h1 h2 (by decide) (by decide)))
theorem m_Lt0 {b c : Nat} {x : Int} (h1 : -2147483648 ≤ x) (h2 : x < 2147483648) : gx k [] (tLt0 b c) ls (.int (iI x) :: r) (mk g I) = if x < 0 then rn k b ls r (mk g I) else rn k c ls r (mk g I) := m_if1 (P := fun x => x < 0) (Q := x < 0) (iI_lt (b := 0) h1 h2 (by decide) (by decide))
theorem m_Ge0 {b c : Nat} {x : Int} (h1 : -2147483648 ≤ x) (h2 : x < 2147483648) : gx k [] (tGe0 b c) ls (.int (iI x) :: r) (mk g I) = if 0 ≤ x then rn k b ls r (mk g I) else rn k c ls r (mk g I) := m_if1 (P := fun x => 0 ≤ x) (Q := 0 ≤ x) (iI_le (a := 0) (by decide) (by decide) h1 h2)
theorem m_Gt0 {b c : Nat} {x : Int} (h1 : -2147483648 ≤ x) (h2 : x < 2147483648) : gx k [] (tGt0 b c) ls (.int (iI x) :: r) (mk g I) = if 0 < x then rn k b ls r (mk g I) else rn k c ls r (mk g I) := m_if1 (P := fun x => 0 < x) (Q := 0 < x) (iI_lt (a := 0) (by decide) (by decide) h1 h2)
theorem m_Le0 {b c : Nat} {x : Int} (h1 : -2147483648 ≤ x) (h2 : x < 2147483648) : gx k [] (tLe0 b c) ls (.int (iI x) :: r) (mk g I) = if x ≤ 0 then rn k b ls r (mk g I) else rn k c ls r (mk g I) := m_if1 (P := fun x => x ≤ 0) (Q := x ≤ 0) (iI_le (b := 0) h1 h2 (by decide) (by decide))
section TWO
variable {b c : Nat} {x y : Int}
theorem m_Eq (h1 : -2147483648 ≤ x) (h2 : x < 2147483648) (h3 : -2147483648 ≤ y) (h4 : y < 2147483648) : gx k [] (tEq b c) ls (.int (iI y) :: .int (iI x) :: r) (mk g I) = if x = y then rn k b ls r (mk g I) else rn k c ls r (mk g I) := m_if2 (P := fun x y => x = y) (Q := x = y) (iI_eq h1 h2 h3 h4)
theorem m_Ne (h1 : -2147483648 ≤ x) (h2 : x < 2147483648) (h3 : -2147483648 ≤ y) (h4 : y < 2147483648) : gx k [] (tNe b c) ls (.int (iI y) :: .int (iI x) :: r) (mk g I) = if ¬ x = y then rn k b ls r (mk g I) else rn k c ls r (mk g I) := m_if2 (P := fun x y => ¬ x = y) (Q := ¬ x = y) (not_congr (iI_eq h1 h2 h3 h4))
theorem m_Lt (h1 : -2147483648 ≤ x) (h2 : x < 2147483648) (h3 : -2147483648 ≤ y) (h4 : y < 2147483648) : gx k [] (tLt b c) ls (.int (iI y) :: .int (iI x) :: r) (mk g I) = if x < y then rn k b ls r (mk g I) else rn k c ls r (mk g I) := m_if2 (P := fun x y => x < y) (Q := x < y) (iI_lt h1 h2 h3 h4)
theorem m_Ge (h1 : -2147483648 ≤ x) (h2 : x < 2147483648) (h3 : -2147483648 ≤ y) (h4 : y < 2147483648) : gx k [] (tGe b c) ls (.int (iI y) :: .int (iI x) :: r) (mk g I) = if y ≤ x then rn k b ls r (mk g I) else rn k c ls r (mk g I) := m_if2 (P := fun x y => y ≤ x) (Q := y ≤ x) (iI_le h3 h4 h1 h2)
theorem m_Gt (h1 : -2147483648 ≤ x) (h2 : x < 2147483648) (h3 : -2147483648 ≤ y) (h4 : y < 2147483648) : gx k [] (tGt b c) ls (.int (iI y) :: .int (iI x) :: r) (mk g I) = if y < x then rn k b ls r (mk g I) else rn k c ls r (mk g I) := m_if2 (P := fun x y => y < x) (Q := y < x) (iI_lt h3 h4 h1 h2)
theorem m_Le (h1 : -2147483648 ≤ x) (h2 : x < 2147483648) (h3 : -2147483648 ≤ y) (h4 : y < 2147483648) : gx k [] (tLe b c) ls (.int (iI y) :: .int (iI x) :: r) (mk g I) = if x ≤ y then rn k b ls r (mk g I) else rn k c ls r (mk g I) := m_if2 (P := fun x y => x ≤ y) (Q := x ≤ y) (iI_le h1 h2 h3 h4)
end TWO
theorem m_swd {d : Nat} {x : Int} : fin mxl rn k (tsw ls r (mk g I) (iI x) d []) = rn k d ls r (mk g I) := rfl
theorem m_swc {d b : Nat} {v : Int32} {x z : Int} {l : List (Int32 × Nat)} (hv : v = iI z) (h1 : -2147483648 ≤ x) (h2 : x < 2147483648) (h3 : -2147483648 ≤ z) (h4 : z < 2147483648) (K : fin mxl rn k (tsw ls r (mk g I) (iI x) d l) = R) : fin mxl rn k (tsw ls r (mk g I) (iI x) d ((v, b) :: l)) = if x = z then rn k b ls r (mk g I) else R := by
  subst hv
  exact g_swc (fun e => (if_pos ((iI_eq h1 h2 h3 h4).mp e)).symm) (fun e => by rw [if_neg (fun q => e ((iI_eq h1 h2 h3 h4).mpr q))]; exact K)
/- calls -/
theorem m_Cs {m nl n b : Nat} {as : Vs} (ht : tkr n st = some (as, r)) (hr : catS r ≤ 8) (he : (entA as).length ≤ nl) : gx k [] (tCs m nl n b) ls st h = aft rn k b ls r none (cl m as h) :=
  gx_nil (show tCs m nl n b ls st h = some (.inr (.inr (m, as, b, ls, r, h, none))) by unfold tCs; simp only [ht]; exact if_pos ⟨hr, he⟩) rfl
theorem m_Cv {m nl ci n b p : Nat} {hs : Option (List (String × Nat × Nat))} {as : Vs} {fs : List (Option Nat)} (ht : tkr n st = some (as, .ref p :: r)) (hp : g.1 p = .inr (.inl (ci, fs))) (hr : catS r ≤ 8) (he : (entA (.ref p :: as)).length ≤ nl) : gx k [] (tCv m nl ci n b hs) ls st (mk g I) = aft rn k b ls r hs (cl m (.ref p :: as) (mk g I)) :=
  gx_nil (show tCv m nl ci n b hs ls st (mk g I) = some (.inr (.inr (m, .ref p :: as, b, ls, r, mk g I, hs))) by unfold tCv; simp only [ht]; rw [show (mk g I).1 p = .inr (ci, rfld (I p) 0 fs) from rnd_obj hp]; exact if_pos ⟨rfl, hr, he⟩) rfl
theorem m_Cx {m nl n b p : Nat} {as : Vs} (ht : tkr n st = some (as, .ref p :: r)) (hp : gt g p = 8) (hr : catS r ≤ 8) (he : (entA (.ref p :: as)).length ≤ nl) : gx k [] (tCx m nl n b) ls st (mk g I) = aft rn k b ls r none (cl m (.ref p :: as) (mk g I)) :=
  gx_nil (show tCx m nl n b ls st (mk g I) = some (.inr (.inr (m, .ref p :: as, b, ls, r, mk g I, none))) by unfold tCx; simp only [ht]; rw [show (mk g I).1 p = _ from rnd_int hp (by omega)]; exact if_pos ⟨rfl, hr, he⟩) rfl
end MX
/- behind a call -/
theorem aft_v {k b : Nat} {ls : Lo} {rest : Vs} {hs : Option (List (String × Nat × Nat))} {v : Value} {h : Hp} : aft rn k b ls rest hs (some (.inl (some v), h)) = rn k b ls (v :: rest) h := rfl
theorem aft_n {k b : Nat} {ls : Lo} {rest : Vs} {hs : Option (List (String × Nat × Nat))} {h : Hp} : aft rn k b ls rest hs (some (.inl none, h)) = rn k b ls rest h := rfl
theorem aft_t {k b : Nat} {ls : Lo} {rest : Vs} {E : String} {h : Hp} : aft rn k b ls rest (some []) (some (.inr E, h)) = some (.inr E, h) := rfl
