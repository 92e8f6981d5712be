/-! The steps and ends. -/
def catS (r : Vs) : Nat := (r.map (fun v => v.category)).sum
def lg : Lo → Nat → Option Value
  | [], _ => none
  | v :: _, 0 => v
  | _ :: l, n + 1 => lg l n
/-- a place ahead of a written one no longer holds a value of two places -/
def wid : Option Value → Option Value
  | some (.long _) => none
  | some (.double _) => none
  | v => v
def lst : Lo → Nat → Value → Lo
  | [], _, _ => []
  | _ :: l, 0, v => some v :: l
  | x :: [], _ + 1, _ => [x]
  | x :: _ :: l, 1, v => wid x :: some v :: l
  | x :: y :: l, n + 2, v => x :: lst (y :: l) (n + 1) v
/-- a value of two places -/
def lstW : Lo → Nat → Value → Lo
  | [], _, _ => []
  | x :: [], _, _ => [x]
  | _ :: _ :: l, 0, v => some v :: none :: l
  | x :: y :: [], _ + 1, _ => [x, y]
  | x :: _ :: _ :: l, 1, v => wid x :: some v :: none :: l
  | x :: y :: z :: l, n + 2, v => x :: lstW (y :: z :: l) (n + 1) v
def vg : Vs → Nat → Option Value
  | [], _ => none
  | v :: _, 0 => some v
  | _ :: l, n + 1 => vg l n
def vset : Vs → Nat → Value → Vs
  | [], _, _ => []
  | _ :: l, 0, v => v :: l
  | x :: l, n + 1, v => x :: vset l n v
/-- i is a place of n ones -/
def vin (i : Int32) (n : Nat) : Prop := 0 ≤ i ∧ i.toNatClampNeg < n
def okF : FieldType → Value → Prop
  | .int, .int _ => True
  | .boolean, .int x => x = 0 ∨ x = 1
  | .object _, .ref _ => True
  | .array _, .ref _ => True
  | _, _ => False
def xC (v : Value) : XF := fun ls st h => some (ls, v :: st, h)
def xLd (i : Nat) : XF := fun ls st h => match lg ls i with
  | some (.int x) => some (ls, .int x :: st, h)
  | _ => none
def xLdL (i : Nat) : XF := fun ls st h => match lg ls i with
  | some (.long x) => some (ls, .long x :: st, h)
  | _ => none
def xLdD (i : Nat) : XF := fun ls st h => match lg ls i with
  | some (.double x) => some (ls, .double x :: st, h)
  | _ => none
def xLdA (i : Nat) : XF := fun ls st h => match lg ls i with
  | some (.ref x) => some (ls, .ref x :: st, h)
  | some .null => some (ls, .null :: st, h)
  | _ => none
def xSt (i : Nat) : XF := fun ls st h => match st with
  | .int x :: r => some (lst ls i (.int x), r, h)
  | _ => none
def xStA (i : Nat) : XF := fun ls st h => match st with
  | .ref x :: r => some (lst ls i (.ref x), r, h)
  | .null :: r => some (lst ls i .null, r, h)
  | _ => none
def xStL (i : Nat) : XF := fun ls st h => match st with
  | .long x :: r => some (lstW ls i (.long x), r, h)
  | _ => none
def xStD (i : Nat) : XF := fun ls st h => match st with
  | .double x :: r => some (lstW ls i (.double x), r, h)
  | _ => none
def xInc (i : Nat) (n : Int32) : XF := fun ls st h => match lg ls i with
  | some (.int x) => some (lst ls i (.int (x + n)), st, h)
  | _ => none
def xI1 (f : Int32 → Int32) : XF := fun ls st h => match st with
  | .int x :: r => some (ls, .int (f x) :: r, h)
  | _ => none
def xI2 (f : Int32 → Int32 → Int32) : XF := fun ls st h => match st with
  | .int y :: .int x :: r => some (ls, .int (f x y) :: r, h)
  | _ => none
def xAdd : XF := xI2 (fun x y => x + y)
def xSub : XF := xI2 (fun x y => x - y)
def xMul : XF := xI2 (fun x y => x * y)
def xAnd : XF := xI2 (fun x y => x &&& y)
def xOr : XF := xI2 (fun x y => x ||| y)
def xXor : XF := xI2 (fun x y => x ^^^ y)
def xShl : XF := xI2 (fun x y => x <<< (y &&& 31))
def xShr : XF := xI2 (fun x y => x >>> (y &&& 31))
def xUshr : XF := xI2 (fun x y => (x.toUInt32 >>> (y.toUInt32 &&& Int32.toUInt32 31)).toInt32)
/-- steps that are calls of small methods -/
def xP2 (f : Int32 → Int32 → Int32) : XF := fun ls st h => match st with
  | .int y :: .int x :: r => if catS r ≤ 8 then some (ls, .int (f x y) :: r, h) else none
  | _ => none
def xMax : XF := xP2 (fun x y => if x < y then y else x)
def xMin : XF := xP2 (fun x y => if y < x then y else x)
def xNeg : XF := xI1 (fun x => -x)
def xAbs : XF := fun ls st h => match st with
  | .int x :: r => if catS r ≤ 8 then some (ls, .int (if 0 ≤ x then x else 0 - x) :: r, h) else none
  | _ => none
def xDiv : XF := fun ls st h => match st with
  | .int y :: .int x :: r => if y = 0 then none else some (ls, .int (x / y) :: r, h)
  | _ => none
def xRem : XF := fun ls st h => match st with
  | .int y :: .int x :: r => if y = 0 then none else some (ls, .int (x - x / y * y) :: r, h)
  | _ => none
def xI2L : XF := fun ls st h => match st with
  | .int x :: r => some (ls, .long x.toInt64 :: r, h)
  | _ => none
def xLadd : XF := fun ls st h => match st with
  | .long y :: .long x :: r => some (ls, .long (x + y) :: r, h)
  | _ => none
def xLmin : XF := fun ls st h => match st with
  | .long y :: .long x :: r => if catS r ≤ 8 then some (ls, .long (if y < x then y else x) :: r, h) else none
  | _ => none
def xLcmp : XF := fun ls st h => match st with
  | .long y :: .long x :: r => some (ls, .int (lg_cmp x y) :: r, h)
  | _ => none
def xI2D : XF := fun ls st h => match st with
  | .int x :: r => some (ls, .double (FP.i2d x) :: r, h)
  | _ => none
/-- a quotient that is a number -/
def xDdiv : XF := fun ls st h => match st with
  | .double y :: .double x :: r => if (FP.ddiv x y) &&& 0x7fffffffffffffff ≤ 0x7ff0000000000000 then some (ls, .double (FP.ddiv x y) :: r, h) else none
  | _ => none
def xDcmp (op : CmpOp) : XF := fun ls st h => match st with
  | .double y :: .double x :: r => some (ls, .int (Op.cmpValue (FP.dcmp x y) op) :: r, h)
  | _ => none
def xDup : XF := fun ls st h => match st with
  | v :: r => if v.category = 1 then some (ls, v :: v :: r, h) else none
  | _ => none
def xDup2 : XF := fun ls st h => match st with
  | v :: w :: r => if v.category = 1 ∧ w.category = 1 then some (ls, v :: w :: v :: w :: r, h) else none
  | _ => none
/-- Object's own constructor -/
def xObj : XF := fun ls st h => match st with
  | .ref _ :: r => if catS r ≤ 8 then some (ls, r, h) else none
  | _ => none
def xGet (ci k : Nat) : XF := fun ls st h => match st with
  | .ref p :: r => match h.1 p with
    | .inr (c, fs) => if c = ci then match vg fs k with
      | some v => some (ls, v :: r, h)
      | none => none
      else none
    | _ => none
  | _ => none
noncomputable def xPut (ci k : Nat) (ty : FieldType) : XF := fun ls st h => match st with
  | v :: .ref p :: r => match h.1 p with
    | .inr (c, fs) => @ite _ (c = ci ∧ k < fs.length ∧ okF ty v) (Classical.propDecidable _) (some (ls, r, hset h p (.inr (c, vset fs k v)))) none
    | _ => none
  | _ => none
def xNew (ci : Nat) (fs : Vs) : XF := fun ls st h => some (ls, .ref h.2.1 :: st, hnew h (.inr (ci, fs)) fs.length)
def arr0 : Nat → ((Nat → Int32) ⊕ (Nat → Int64) ⊕ (Nat → UInt32) ⊕ (Nat → UInt64) ⊕ (Nat → Option Nat))
  | 1 => .inr (.inl (fun _ => 0))
  | 2 => .inr (.inr (.inr (.inl (fun _ => 0))))
  | 4 => .inr (.inr (.inr (.inr (fun _ => none))))
  | _ => .inl (fun _ => 0)
/-- a new array: 0 of int, 1 of long, 2 of double, 3 of boolean, 4 of references -/
def xNewA (t : Nat) : XF := fun ls st h => match st with
  | .int n :: r => if 0 ≤ n ∧ n.toNatClampNeg ≤ 1000000 then some (ls, .ref h.2.1 :: r, hnew h (.inl (t, n.toNatClampNeg, arr0 t)) n.toNatClampNeg) else none
  | _ => none
def xLen : XF := fun ls st h => match st with
  | .ref p :: r => match h.1 p with
    | .inl (t, n, _) => if t = 0 ∨ t = 1 ∨ t = 4 ∨ t = 7 then some (ls, .int (Int32.ofNat n) :: r, h) else none
    | _ => none
  | _ => none
/-- int arrays: 0 our own, 7 those that were there before -/
noncomputable def xAld : XF := fun ls st h => match st with
  | .int i :: .ref p :: r => match h.1 p with
    | .inl (t, n, .inl f) => @ite _ ((t = 0 ∨ t = 7) ∧ vin i n) (Classical.propDecidable _) (some (ls, .int (f i.toNatClampNeg) :: r, h)) none
    | _ => none
  | _ => none
noncomputable def xAst : XF := fun ls st h => match st with
  | .int x :: .int i :: .ref p :: r => match h.1 p with
    | .inl (t, n, .inl f) => @ite _ (t = 0 ∧ vin i n) (Classical.propDecidable _) (some (ls, r, hset h p (.inl (t, n, .inl (upd f i.toNatClampNeg x))))) none
    | _ => none
  | _ => none
noncomputable def xZld : XF := fun ls st h => match st with
  | .int i :: .ref p :: r => match h.1 p with
    | .inl (t, n, .inl f) => @ite _ (t = 3 ∧ vin i n) (Classical.propDecidable _) (some (ls, .int (f i.toNatClampNeg) :: r, h)) none
    | _ => none
  | _ => none
noncomputable def xZst : XF := fun ls st h => match st with
  | .int x :: .int i :: .ref p :: r => match h.1 p with
    | .inl (t, n, .inl f) => @ite _ (t = 3 ∧ vin i n ∧ (x = 0 ∨ x = 1)) (Classical.propDecidable _) (some (ls, r, hset h p (.inl (t, n, .inl (upd f i.toNatClampNeg x))))) none
    | _ => none
  | _ => none
noncomputable def xLld : XF := fun ls st h => match st with
  | .int i :: .ref p :: r => match h.1 p with
    | .inl (t, n, .inr (.inl f)) => @ite _ (t = 1 ∧ vin i n) (Classical.propDecidable _) (some (ls, .long (f i.toNatClampNeg) :: r, h)) none
    | _ => none
  | _ => none
noncomputable def xLst : XF := fun ls st h => match st with
  | .long x :: .int i :: .ref p :: r => match h.1 p with
    | .inl (t, n, .inr (.inl f)) => @ite _ (t = 1 ∧ vin i n) (Classical.propDecidable _) (some (ls, r, hset h p (.inl (t, n, .inr (.inl (vp_updL f i.toNatClampNeg x)))))) none
    | _ => none
  | _ => none
noncomputable def xDld : XF := fun ls st h => match st with
  | .int i :: .ref p :: r => match h.1 p with
    | .inl (t, n, .inr (.inr (.inr (.inl f)))) => @ite _ (t = 2 ∧ vin i n) (Classical.propDecidable _) (some (ls, .double (f i.toNatClampNeg) :: r, h)) none
    | _ => none
  | _ => none
noncomputable def xDst : XF := fun ls st h => match st with
  | .double x :: .int i :: .ref p :: r => match h.1 p with
    | .inl (t, n, .inr (.inr (.inr (.inl f)))) => @ite _ (t = 2 ∧ vin i n) (Classical.propDecidable _) (some (ls, r, hset h p (.inl (t, n, .inr (.inr (.inr (.inl (vf_upd f i.toNatClampNeg x)))))))) none
    | _ => none
  | _ => none
noncomputable def xQld : XF := fun ls st h => match st with
  | .int i :: .ref p :: r => match h.1 p with
    | .inl (t, n, .inr (.inr (.inr (.inr f)))) => @ite _ (t = 4 ∧ vin i n) (Classical.propDecidable _) (some (ls, va_rf (f i.toNatClampNeg) :: r, h)) none
    | _ => none
  | _ => none
/-- only pieces (class 0) are put into arrays of references -/
noncomputable def xQst : XF := fun ls st h => match st with
  | .ref x :: .int i :: .ref p :: r => match h.1 p, h.1 x with
    | .inl (t, n, .inr (.inr (.inr (.inr f)))), .inr (c, _) => @ite _ (t = 4 ∧ vin i n ∧ c = 0) (Classical.propDecidable _) (some (ls, r, hset h p (.inl (t, n, .inr (.inr (.inr (.inr (va_up f i.toNatClampNeg (some x)))))))) ) none
    | _, _ => none
  | _ => none
/-- System.arraycopy of int arrays -/
noncomputable def xCpy : XF := fun ls st h => match st with
  | .int n :: .int dp :: .ref q :: .int sp :: .ref p :: r => match h.1 p, h.1 q with
    | .inl (t, n0, .inl f), .inl (t', n1, .inl g) => @ite _ (catS r ≤ 8 ∧ t = 0 ∧ t' = 0 ∧ 0 ≤ sp ∧ 0 ≤ dp ∧ 0 ≤ n ∧ sp.toNatClampNeg + n.toNatClampNeg ≤ n0 ∧ dp.toNatClampNeg + n.toNatClampNeg ≤ n1) (Classical.propDecidable _) (some (ls, r, hset h q (.inl (t', n1, .inl (va_cpy f g sp.toNatClampNeg dp.toNatClampNeg n.toNatClampNeg))))) none
    | _, _ => none
  | _ => none
/-- texts: 8 a text, its bytes (9) twenty places on -/
def xSval : XF := fun ls st h => match st with
  | .ref p :: r => match h.1 p with
    | .inl (t, _, _) => if t = 8 then some (ls, .ref (p + 20) :: r, h) else none
    | _ => none
  | _ => none
def xScod : XF := fun ls st h => match st with
  | .ref p :: r => match h.1 p with
    | .inl (t, _, _) => if t = 8 then some (ls, .int 0 :: r, h) else none
    | _ => none
  | _ => none
def xBlen : XF := fun ls st h => match st with
  | .ref p :: r => match h.1 p with
    | .inl (t, n, _) => if t = 9 then some (ls, .int (Int32.ofNat n) :: r, h) else none
    | _ => none
  | _ => none
noncomputable def xBld : XF := fun ls st h => match st with
  | .int i :: .ref p :: r => match h.1 p with
    | .inl (t, n, .inl f) => @ite _ (t = 9 ∧ vin i n) (Classical.propDecidable _) (some (ls, .int (f i.toNatClampNeg) :: r, h)) none
    | _ => none
  | _ => none
def xI2c : XF := xI1 (fun x => (x.toUInt32 % 65536).toInt32)
/-- an index is in range -/
def xChk : XF := fun ls st h => match st with
  | .int n :: .int i :: r => if 0 ≤ i ∧ i < n ∧ catS r ≤ 8 then some (ls, r, h) else none
  | _ => none
/- ends -/
def jmp (b : Nat) (ls : Lo) (st : Vs) (h : Hp) : TR := some (.inl (b, ls, st, h))
def tGo (b : Nat) : TF := fun ls st h => jmp b ls st h
noncomputable def tIf1 (P : Int32 → Prop) (b c : Nat) : TF := fun ls st h => match st with
  | .int x :: r => @ite _ (P x) (Classical.propDecidable _) (jmp b ls r h) (jmp c ls r h)
  | _ => none
noncomputable def tIf2 (P : Int32 → Int32 → Prop) (b c : Nat) : TF := fun ls st h => match st with
  | .int y :: .int x :: r => @ite _ (P x y) (Classical.propDecidable _) (jmp b ls r h) (jmp c ls r h)
  | _ => none
noncomputable def tEq0 : Nat → Nat → TF := tIf1 (fun x => x = 0)
noncomputable def tNe0 : Nat → Nat → TF := tIf1 (fun x => ¬ x = 0)
noncomputable def tLt0 : Nat → Nat → TF := tIf1 (fun x => x < 0)
noncomputable def tGe0 : Nat → Nat → TF := tIf1 (fun x => 0 ≤ x)
noncomputable def tGt0 : Nat → Nat → TF := tIf1 (fun x => 0 < x)
noncomputable def tLe0 : Nat → Nat → TF := tIf1 (fun x => x ≤ 0)
noncomputable def tEq : Nat → Nat → TF := tIf2 (fun x y => x = y)
noncomputable def tNe : Nat → Nat → TF := tIf2 (fun x y => ¬ x = y)
noncomputable def tLt : Nat → Nat → TF := tIf2 (fun x y => x < y)
noncomputable def tGe : Nat → Nat → TF := tIf2 (fun x y => y ≤ x)
noncomputable def tGt : Nat → Nat → TF := tIf2 (fun x y => y < x)
noncomputable def tLe : Nat → Nat → TF := tIf2 (fun x y => x ≤ y)
/-- null: b, else c -/
def tNul (b c : Nat) : TF := fun ls st h => match st with
  | .null :: r => jmp b ls r h
  | .ref _ :: r => jmp c ls r h
  | _ => none
def tsw (ls : Lo) (r : Vs) (h : Hp) (x : Int32) (d : Nat) : List (Int32 × Nat) → TR
  | [] => jmp d ls r h
  | (v, b) :: l => if x = v then jmp b ls r h else tsw ls r h x d l
def tSw (d : Nat) (l : List (Int32 × Nat)) : TF := fun ls st h => match st with
  | .int x :: r => tsw ls r h x d l
  | _ => none
def tRet : TF := fun _ st h => match st with
  | [.int x] => some (.inr (.inl (.inl (some (.int x)), h)))
  | _ => none
def tRetZ : TF := fun _ st h => match st with
  | [.int x] => if x = 0 ∨ x = 1 then some (.inr (.inl (.inl (some (.int x)), h))) else none
  | _ => none
def tRetY : TF := fun _ st h => match st with
  | [.int x] => if x = 0 then some (.inr (.inl (.inl (some (.int x)), h))) else none
  | _ => none
def tRetC : TF := fun _ st h => match st with
  | [.int x] => if (x.toUInt32 % 65536).toInt32 = x then some (.inr (.inl (.inl (some (.int x)), h))) else none
  | _ => none
def tRetL : TF := fun _ st h => match st with
  | [.long x] => some (.inr (.inl (.inl (some (.long x)), h)))
  | _ => none
def tRetD : TF := fun _ st h => match st with
  | [.double x] => some (.inr (.inl (.inl (some (.double x)), h)))
  | _ => none
def tRetA : TF := fun _ st h => match st with
  | [.ref x] => some (.inr (.inl (.inl (some (.ref x)), h)))
  | _ => none
def tRetV : TF := fun _ st h => match st with
  | [] => some (.inr (.inl (.inl none, h)))
  | _ => none
def tThr (E : String) : TF := fun _ st h => match st with
  | [] => some (.inr (.inl (.inr E, hexc h)))
  | _ => none
/-- the n topmost, the lowest first; the rest -/
def tkr (n : Nat) (st : Vs) : Option (Vs × Vs) := if n ≤ st.length then some ((st.take n).reverse, st.drop n) else none
theorem tk0 {r : Vs} : tkr 0 r = some ([], r) := rfl
theorem tk1 {a : Value} {r : Vs} : tkr 1 (a :: r) = some ([a], r) := rfl
theorem tk2 {a b : Value} {r : Vs} : tkr 2 (a :: b :: r) = some ([b, a], r) := rfl
theorem tk3 {a b c : Value} {r : Vs} : tkr 3 (a :: b :: c :: r) = some ([c, b, a], r) := rfl
theorem tk4 {a b c d : Value} {r : Vs} : tkr 4 (a :: b :: c :: d :: r) = some ([d, c, b, a], r) := rfl
theorem tk5 {a b c d e : Value} {r : Vs} : tkr 5 (a :: b :: c :: d :: e :: r) = some ([e, d, c, b, a], r) := rfl
theorem tk6 {a b c d e f : Value} {r : Vs} : tkr 6 (a :: b :: c :: d :: e :: f :: r) = some ([f, e, d, c, b, a], r) := rfl
theorem tk7 {a b c d e f g : Value} {r : Vs} : tkr 7 (a :: b :: c :: d :: e :: f :: g :: r) = some ([g, f, e, d, c, b, a], r) := rfl
/-- a call: method m (nl locals), n arguments behind the receiver (an object of class ci), then block b -/
def tCv (m nl ci n b : Nat) (hs : Option (List (String × Nat × Nat))) : TF := fun ls st h => match tkr n st with
  | some (as, .ref p :: r) => match h.1 p with
    | .inr (c, _) => if c = ci ∧ catS r ≤ 8 ∧ (entA (.ref p :: as)).length ≤ nl then some (.inr (.inr (m, .ref p :: as, b, ls, r, h, hs))) else none
    | _ => none
  | _ => none
/-- a call on a text -/
def tCx (m nl n b : Nat) : TF := fun ls st h => match tkr n st with
  | some (as, .ref p :: r) => match h.1 p with
    | .inl (t, _, _) => if t = 8 ∧ catS r ≤ 8 ∧ (entA (.ref p :: as)).length ≤ nl then some (.inr (.inr (m, .ref p :: as, b, ls, r, h, none))) else none
    | _ => none
  | _ => none
/-- where no run comes -/
def tBad : TF := fun _ _ _ => none
/-- a constructor's call -/
def tCi (m nl n b : Nat) : TF := fun ls st h => match tkr n st with
  | some (as, .ref p :: r) => if catS r ≤ 8 ∧ (entA (.ref p :: as)).length ≤ nl then some (.inr (.inr (m, .ref p :: as, b, ls, r, h, none))) else none
  | _ => none
/-- a static method's call -/
def tCs (m nl n b : Nat) : TF := fun ls st h => match tkr n st with
  | some (as, r) => if catS r ≤ 8 ∧ (entA as).length ≤ nl then some (.inr (.inr (m, as, b, ls, r, h, none))) else none
  | _ => none
