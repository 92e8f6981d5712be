/-! Numbers and memory: a heap as a function of whole numbers by places. -/
def iI (z : Int) : Int32 := Int32.ofInt z
def lI (z : Int) : Int64 := Int64.ofInt z
theorem iI_add (a b : Int) : iI a + iI b = iI (a + b) := (Int32.ofInt_add a b).symm
theorem iI_sub (a b : Int) : iI a - iI b = iI (a - b) := (Int32.ofInt_sub a b).symm
theorem iI_mul (a b : Int) : iI a * iI b = iI (a * b) := (Int32.ofInt_mul a b).symm
theorem iI_neg (a : Int) : -iI a = iI (-a) := (Int32.ofInt_neg a).symm
theorem iI_toInt {a : Int} (h : -2147483648 ≤ a) (h' : a < 2147483648) : (iI a).toInt = a := Int32.toInt_ofInt_of_le (by omega) (by omega)
theorem iI_lt {a b : Int} (h1 : -2147483648 ≤ a) (h2 : a < 2147483648) (h3 : -2147483648 ≤ b) (h4 : b < 2147483648) : iI a < iI b ↔ a < b := by
  rw [Int32.lt_iff_toInt_lt, iI_toInt h1 h2, iI_toInt h3 h4]
theorem iI_le {a b : Int} (h1 : -2147483648 ≤ a) (h2 : a < 2147483648) (h3 : -2147483648 ≤ b) (h4 : b < 2147483648) : iI a ≤ iI b ↔ a ≤ b := by
  rw [Int32.le_iff_toInt_le, iI_toInt h1 h2, iI_toInt h3 h4]
theorem iI_eq {a b : Int} (h1 : -2147483648 ≤ a) (h2 : a < 2147483648) (h3 : -2147483648 ≤ b) (h4 : b < 2147483648) : iI a = iI b ↔ a = b := by
  rw [← Int32.toInt_inj, iI_toInt h1 h2, iI_toInt h3 h4]
theorem iI_cl {a : Int} (h1 : -2147483648 ≤ a) (h2 : a < 2147483648) : (iI a).toNatClampNeg = a.toNat := Int32.toNatClampNeg_ofInt_of_le (by omega) (by omega)
theorem iI_of (x : Int32) : x = iI x.toInt := (Int32.ofInt_toInt x).symm
theorem iI_rng (x : Int32) : -2147483648 ≤ x.toInt ∧ x.toInt < 2147483648 := ⟨by have := Int32.le_toInt x; omega, by have := Int32.toInt_lt x; omega⟩
theorem iI_nat (n : Nat) : Int32.ofNat n = iI (n : Int) := Int32.ofInt_eq_ofNat.symm
theorem iI_0 : (0 : Int32) = iI 0 := rfl
theorem lI_add (a b : Int) : lI a + lI b = lI (a + b) := (Int64.ofInt_add a b).symm
theorem lI_toInt {a : Int} (h : -9223372036854775808 ≤ a) (h' : a < 9223372036854775808) : (lI a).toInt = a := Int64.toInt_ofInt_of_le (by omega) (by omega)
theorem lI_lt {a b : Int} (h1 : -9223372036854775808 ≤ a) (h2 : a < 9223372036854775808) (h3 : -9223372036854775808 ≤ b) (h4 : b < 9223372036854775808) : lI a < lI b ↔ a < b := by
  rw [Int64.lt_iff_toInt_lt, lI_toInt h1 h2, lI_toInt h3 h4]
theorem lI_eq {a b : Int} (h1 : -9223372036854775808 ≤ a) (h2 : a < 9223372036854775808) (h3 : -9223372036854775808 ≤ b) (h4 : b < 9223372036854775808) : lI a = lI b ↔ a = b := by
  rw [← Int64.toInt_inj, lI_toInt h1 h2, lI_toInt h3 h4]
/- bits -/
def andI (a b : Int) : Int := (iI a &&& iI b).toInt
def orI (a b : Int) : Int := (iI a ||| iI b).toInt
def xorI (a b : Int) : Int := (iI a ^^^ iI b).toInt
def shlI (a b : Int) : Int := (iI a <<< (iI b &&& 31)).toInt
def shrI (a b : Int) : Int := (iI a >>> (iI b &&& 31)).toInt
def ushrI (a b : Int) : Int := ((iI a).toUInt32 >>> ((iI b).toUInt32 &&& Int32.toUInt32 31)).toInt32.toInt
def cmpI (a b : Int) : Int := if a < b then -1 else if a = b then 0 else 1
def dcI (x y : UInt64) (op : CmpOp) : Int := (Op.cmpValue (FP.dcmp x y) op).toInt
/- memory -/
abbrev Sh : Type := (Nat × Nat) ⊕ ((Nat × List (Option Nat)) ⊕ va_E)
/-- shapes by places, longs, doubles, references, the next place, cells, slots -/
abbrev Gm : Type := (Nat → Sh) × (Nat → Int → Int) × (Nat → Nat → UInt64) × (Nat → Nat → Option Nat) × Nat × Nat × Nat
abbrev Mm : Type := Nat → Int → Int
def rfld (F : Int → Int) : Int → List (Option Nat) → Vs
  | _, [] => []
  | j, some r :: l => .ref r :: rfld F (j + 1) l
  | j, none :: l => .int (iI (F j)) :: rfld F (j + 1) l
def rc : Sh → (Int → Int) → (Nat → UInt64) → (Nat → Option Nat) → (Int → Int) → va_E
  | .inl (1, n), L, _, _, _ => .inl (1, n, .inr (.inl (fun i => lI (L (i : Int)))))
  | .inl (2, n), _, D, _, _ => .inl (2, n, .inr (.inr (.inr (.inl D))))
  | .inl (4, n), _, _, Q, _ => .inl (4, n, .inr (.inr (.inr (.inr Q))))
  | .inl (t, n), _, _, _, F => .inl (t, n, .inl (fun i => iI (F (i : Int))))
  | .inr (.inl (c, fs)), _, _, _, F => .inr (c, rfld F 0 fs)
  | .inr (.inr e), _, _, _, _ => e
def rnd (g : Gm) (I : Mm) (p : Nat) : va_E := rc (g.1 p) (g.2.1 p) (g.2.2.1 p) (g.2.2.2.1 p) (I p)
def mk (g : Gm) (I : Mm) : Hp := (rnd g I, g.2.2.2.2)
def upd2 (I : Mm) (p : Nat) (i v : Int) : Mm := fun q j => if q = p ∧ j = i then v else I q j
def updD (D : Nat → Nat → UInt64) (p i : Nat) (v : UInt64) : Nat → Nat → UInt64 := fun q j => if q = p ∧ j = i then v else D q j
def gL (g : Gm) (L : Nat → Int → Int) : Gm := (g.1, L, g.2.2)
def gD (g : Gm) (D : Nat → Nat → UInt64) : Gm := (g.1, g.2.1, D, g.2.2.2)
def gexc (g : Gm) : Gm := (g.1, g.2.1, g.2.2.1, g.2.2.2.1, g.2.2.2.2.1, g.2.2.2.2.2.1 + 1, g.2.2.2.2.2.2 + 6)
/-- an array's kind and length -/
def gt (g : Gm) (p : Nat) : Nat := match g.1 p with
  | .inl (t, _) => t
  | _ => 99
def gn (g : Gm) (p : Nat) : Nat := match g.1 p with
  | .inl (_, n) => n
  | _ => 0
theorem gtn {g : Gm} {p t : Nat} (h : gt g p = t) (ht : ¬ t = 99) : g.1 p = .inl (t, gn g p) := by
  unfold gt at h
  unfold gn
  cases hs : g.1 p with
  | inl q => rw [hs] at h; simp only at h ⊢; rw [← h]
  | inr q => rw [hs] at h; exact absurd h.symm ht
theorem upd2_at {I : Mm} {p : Nat} {i v : Int} : upd2 I p i v p i = v := if_pos ⟨rfl, rfl⟩
theorem upd2_p {I : Mm} {p q : Nat} {i j v : Int} (h : ¬ q = p) : upd2 I p i v q j = I q j := if_neg (fun e => h e.1)
theorem upd2_i {I : Mm} {p q : Nat} {i j v : Int} (h : ¬ j = i) : upd2 I p i v q j = I q j := if_neg (fun e => h e.2)
theorem rnd_int {g : Gm} {I : Mm} {p t : Nat} (h : gt g p = t) (ht : t = 0 ∨ t = 3 ∨ t = 7 ∨ t = 8 ∨ t = 9) : rnd g I p = .inl (t, gn g p, .inl (fun i => iI (I p (i : Int)))) := by
  have e := gtn h (by omega)
  unfold rnd
  rw [e]
  rcases ht with rfl | rfl | rfl | rfl | rfl <;> rfl
theorem rnd_l {g : Gm} {I : Mm} {p : Nat} (ht : gt g p = 1) : rnd g I p = .inl (1, gn g p, .inr (.inl (fun i => lI (g.2.1 p (i : Int))))) := by
  unfold rnd; rw [gtn ht (by omega)]; rfl
theorem rnd_d {g : Gm} {I : Mm} {p : Nat} (ht : gt g p = 2) : rnd g I p = .inl (2, gn g p, .inr (.inr (.inr (.inl (g.2.2.1 p))))) := by
  unfold rnd; rw [gtn ht (by omega)]; rfl
theorem rnd_q {g : Gm} {I : Mm} {p : Nat} (ht : gt g p = 4) : rnd g I p = .inl (4, gn g p, .inr (.inr (.inr (.inr (g.2.2.2.1 p))))) := by
  unfold rnd; rw [gtn ht (by omega)]; rfl
theorem rnd_obj {g : Gm} {I : Mm} {p c : Nat} {fs : List (Option Nat)} (h : g.1 p = .inr (.inl (c, fs))) : rnd g I p = .inr (c, rfld (I p) 0 fs) := by
  unfold rnd; rw [h]; rfl
theorem rfld_len {F : Int → Int} : ∀ {fs : List (Option Nat)} {j : Int}, (rfld F j fs).length = fs.length
  | [], _ => rfl
  | some r :: l, j => by simp only [rfld, List.length_cons, rfld_len]
  | none :: l, j => by simp only [rfld, List.length_cons, rfld_len]
theorem rfld_upd {F : Int → Int} {v : Int} : ∀ {fs : List (Option Nat)} {i : Nat} {j : Int}, fs[i]? = some none → vset (rfld F j fs) i (.int (iI v)) = rfld (fun m => if m = j + i then v else F m) j fs
  | [], i, j, h => by cases i <;> cases h
  | some r :: l, 0, j, h => by cases h
  | none :: l, 0, j, _ => by
    simp only [rfld, vset]
    rw [if_pos (show j = j + ((0 : Nat) : Int) by omega)]
    congr 1
    have : ∀ (l : List (Option Nat)) (j' : Int), j < j' → rfld F j' l = rfld (fun m => if m = j + ((0 : Nat) : Int) then v else F m) j' l := by
      intro l
      induction l with
      | nil => intros; rfl
      | cons a l ih =>
        intro j' hj
        cases a with
        | some r => simp only [rfld]; rw [ih _ (by omega)]
        | none => simp only [rfld]; rw [ih _ (by omega), if_neg (by omega)]
    exact this l (j + 1) (by omega)
  | some r :: l, i + 1, j, h => by
    simp only [rfld, vset]
    rw [rfld_upd (i := i) h]
    congr 2
    funext m
    have : j + 1 + (i : Int) = j + ((i + 1 : Nat) : Int) := by omega
    rw [this]
  | none :: l, i + 1, j, h => by
    simp only [rfld, vset]
    rw [rfld_upd (i := i) h, if_neg (by omega)]
    congr 2
    funext m
    have : j + 1 + (i : Int) = j + ((i + 1 : Nat) : Int) := by omega
    rw [this]
theorem rfld_congr {F F' : Int → Int} : ∀ {fs : List (Option Nat)} {j : Int}, (∀ m, F m = F' m) → rfld F j fs = rfld F' j fs
  | fs, j, h => by rw [show F = F' from funext h]
theorem rnd_upd_ne {g : Gm} {I : Mm} {p q : Nat} {i v : Int} (h : ¬ q = p) : rnd g (upd2 I p i v) q = rnd g I q := by
  have e : upd2 I p i v q = I q := funext fun j => upd2_p h
  unfold rnd
  rw [e]
theorem hset_mk {g : Gm} {I : Mm} {p : Nat} {i v : Int} {e : va_E} (he : e = rnd g (upd2 I p i v) p) : hset (mk g I) p e = mk g (upd2 I p i v) := by
  unfold hset mk
  congr 1
  funext q
  by_cases hq : q = p
  · subst hq; rw [if_pos rfl]; exact he
  · rw [if_neg hq]; exact (rnd_upd_ne hq).symm
/- shapes of the classes' objects at p -/
def sX0 (p : Nat) : Sh := .inr (.inl (0, [none, none, some (p + 1), some (p + 3), some (p + 5), some (p + 7), some (p + 9), some (p + 11), some (p + 13), some (p + 15)]))
def sX1 (p : Nat) : Sh := .inr (.inl (1, [none, none, none, some (p + 1), some (p + 3), some (p + 5), some (p + 7), some (p + 9), some (p + 11), some (p + 13), some (p + 15), some (p + 17), some (p + 19)]))
def sX2 (p : Nat) : Sh := .inr (.inl (2, [some (p + 1)]))
def sX3 (p : Nat) : Sh := .inr (.inl (3, [some (p + 1)]))
def sX4 (p : Nat) : Sh := .inr (.inl (4, [some (p + 1), none, none, none, none, none, none, none, none]))
def sX5 (p : Nat) : Sh := .inr (.inl (5, [some (p + 1), some (p + 18), some (p + 35), some (p + 55), some (p + 75), some (p + 78), some (p + 80), none, some (p + 82), none, none, some (p + 84)]))
def sX6 (p : Nat) : Sh := .inr (.inl (6, [some (p + 1), some (p + 2), some (p + 3), some (p + 4), some (p + 5), some (p + 6), none, none, some (p + 7), none, none, none, none, none, none, none, none, some (p + 8), some (p + 9), some (p + 10), some (p + 11), some (p + 12), some (p + 13), some (p + 14), some (p + 15), some (p + 16), some (p + 17), none, some (p + 18), none]))
/- rules -/
theorem vcI {x : Int32} : (Value.int x).category = 1 := rfl
theorem vcR {x : Nat} : (Value.ref x).category = 1 := rfl
theorem vcJ {x : Int64} : (Value.long x).category = 2 := rfl
theorem vcD {x : UInt64} : (Value.double x).category = 2 := rfl
theorem m_01 {v : Int} (h : v = 0 ∨ v = 1) : iI v = 0 ∨ iI v = 1 := by rcases h with rfl | rfl; exact Or.inl rfl; exact Or.inr rfl
