/-! A piece's numbers, and what it costs to play it: the words of both sides. -/
/-- right, events, sizes, rests, keys, sets, weights, lows, highs, limits -/
abbrev PT : Type := Int × Int × (Int → Int) × (Int → Int) × (Int → Int → Int) × (Int → Int → Int) × (Int → Int) × (Int → Int → Int) × (Int → Int → Int) × (Int → Int → Int)
def pR (P : PT) : Int := P.1
def pE (P : PT) : Int := P.2.1
def pSz (P : PT) : Int → Int := P.2.2.1
def pRe (P : PT) : Int → Int := P.2.2.2.1
def pKy (P : PT) : Int → Int → Int := P.2.2.2.2.1
def pSe (P : PT) : Int → Int → Int := P.2.2.2.2.2.1
def pW (P : PT) : Int → Int := P.2.2.2.2.2.2.1
def pLo (P : PT) : Int → Int → Int := P.2.2.2.2.2.2.2.1
def pHi (P : PT) : Int → Int → Int := P.2.2.2.2.2.2.2.2.1
def pLi (P : PT) : Int → Int → Int := P.2.2.2.2.2.2.2.2.2
/-- the piece at q -/
def pv (I : Mm) (q : Nat) : PT := (I q 0, I q 1, I (q + 2), I (q + 4), fun e k => I (q + 6) (e * 3 + k), fun e k => I (q + 8) (e * 3 + k), I (q + 10), fun a b => I (q + 12) ((a - 1) * 5 + b - 1), fun a b => I (q + 14) ((a - 1) * 5 + b - 1), fun a b => I (q + 16) ((a - 1) * 5 + b - 1))
/-- the piece in a row of numbers -/
def rv (F : Int → Int) : PT := (F 1, F 0, fun e => F (42 + 8 * e), fun e => F (42 + 8 * e + 1), fun e k => F (42 + 8 * e + 2 + k), fun e k => F (42 + 8 * e + 5 + k), fun w => F (2 + w), fun a b => F (prS a b), fun a b => F (prS a b + 1), fun a b => F (prS a b + 2))
/-- both tell the same piece -/
def Agr (P P' : PT) : Prop := pR P = pR P' ∧ pE P = pE P' ∧ (∀ e, 0 ≤ e → e < pE P → pSz P e = pSz P' e ∧ pRe P e = pRe P' e ∧ ∀ k, 0 ≤ k → k < pSz P e → pKy P e k = pKy P' e k ∧ pSe P e k = pSe P' e k) ∧ (∀ w, 0 ≤ w → w < 10 → pW P w = pW P' w) ∧ (∀ a b, 1 ≤ a → a ≤ 5 → 1 ≤ b → b ≤ 5 → ¬ a = b → pLo P a b = pLo P' a b ∧ pHi P a b = pHi P' a b ∧ pLi P a b = pLi P' a b)
/-- a piece as the document allows it -/
def Wf (P : PT) : Prop := (pR P = 0 ∨ pR P = 1) ∧ (0 ≤ pE P ∧ pE P ≤ 40) ∧ (∀ e, 0 ≤ e → e < pE P → (1 ≤ pSz P e ∧ pSz P e ≤ 3) ∧ (0 ≤ pRe P e ∧ pRe P e ≤ 9) ∧ (∀ k, 0 ≤ k → k < pSz P e → (21 ≤ pKy P e k ∧ pKy P e k ≤ 108) ∧ (0 ≤ pSe P e k ∧ pSe P e k ≤ 31)) ∧ (∀ k, 0 ≤ k → k + 1 < pSz P e → pKy P e k < pKy P e (k + 1))) ∧ (∀ w, 0 ≤ w → w < 10 → 0 ≤ pW P w ∧ pW P w ≤ 99) ∧ (∀ a b, 1 ≤ a → a ≤ 5 → 1 ≤ b → b ≤ 5 → ¬ a = b → 1 ≤ pLo P a b ∧ pLo P a b ≤ pHi P a b ∧ pHi P a b ≤ pLi P a b ∧ pLi P a b ≤ 24)
/-- numbers small enough -/
def Bnd (I : Mm) (q : Nat) : Prop := ∀ i, (-1 ≤ I (q + 2) i ∧ I (q + 2) i ≤ 3)
def stretchS (P : PT) (d a b : Int) : Int := if pLi P a b < d then -1 else pW P 0 * max 0 (max (pLo P a b - d) (d - pHi P a b))
def kindS (P : PT) (f k g k' : Int) : Int := if k = k' then 0 else if f = g then 1 else if (0 < (if pR P = 0 then k - k' else k' - k)) = (f < g) then 2 else if min f g = 1 ∧ max f g < 5 ∧ (if 0 ≤ k' - k then k' - k else k - k') ≤ pW P 9 then 3 else 4
