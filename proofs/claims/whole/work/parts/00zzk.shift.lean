/-! Pieces with other keys, with another rest: what they cost. -/
/-- all keys greater by so much -/
def shP (P : PT) (d : Int) : PT := (pR P, pE P, pSz P, pRe P, fun e k => pKy P e k + d, pSe P, pW P, pLo P, pHi P, pLi P)
/-- another rest -/
def rsP (P : PT) (e r : Int) : PT := (pR P, pE P, pSz P, fun e' => if e' = e then r else pRe P e', pKy P, pSe P, pW P, pLo P, pHi P, pLi P)
theorem nc_nn {P : PT} (hw : ∀ w, 0 ≤ w → w < 10 → 0 ≤ pW P w) {k f : Int} : 0 ≤ ncS P k f := by
  have h6 := hw 6 (by decide) (by decide)
  have h5 := hw 5 (by decide) (by decide)
  unfold ncS
  (repeat' split) <;> omega
theorem st_ge {P : PT} (hw : ∀ w, 0 ≤ w → w < 10 → 0 ≤ pW P w) {d a b : Int} : -1 ≤ stretchS P d a b := by
  have h0 := hw 0 (by decide) (by decide)
  unfold stretchS
  split
  · decide
  · have : 0 ≤ pW P 0 * max 0 (max (pLo P a b - d) (d - pHi P a b)) := Int.mul_nonneg h0 (by omega)
    omega
theorem ecost_none {P : PT} (hw : ∀ w, 0 ≤ w → w < 10 → 0 ≤ pW P w) {e b b' : Int} {F : Int → Int} (h : ecostS P e b F = -1) : ecostS P e b' F = -1 := by
  unfold ecostS at h ⊢
  have n0 := nc_nn hw (k := pKy P e 0 + b) (f := F 0)
  have n1 := nc_nn hw (k := pKy P e 1 + b) (f := F 1)
  have n2 := nc_nn hw (k := pKy P e 2 + b) (f := F 2)
  have t1 := st_ge hw (d := pKy P e 1 - pKy P e 0) (a := F 0) (b := F 1)
  have t2 := st_ge hw (d := pKy P e 2 - pKy P e 1) (a := F 1) (b := F 2)
  generalize ncS P (pKy P e 0 + b) (F 0) = x0 at *
  generalize ncS P (pKy P e 1 + b) (F 1) = x1 at *
  generalize ncS P (pKy P e 2 + b) (F 2) = x2 at *
  generalize stretchS P (pKy P e 1 - pKy P e 0) (F 0) (F 1) = y1 at *
  generalize stretchS P (pKy P e 2 - pKy P e 1) (F 1) (F 2) = y2 at *
  by_cases c1 : andI (pSe P e 0) (bitF (F 0)) = 0
  · rw [if_pos c1]
  rw [if_neg c1] at h ⊢
  by_cases c2 : pSz P e ≤ 1
  · rw [if_pos c2] at h; omega
  rw [if_neg c2] at h ⊢
  by_cases c3 : andI (pSe P e 1) (bitF (F 1)) = 0
  · rw [if_pos c3]
  rw [if_neg c3] at h ⊢
  by_cases c4 : ¬ (if pR P = 0 then F 1 < F 0 else F 0 < F 1)
  · rw [if_pos c4]
  rw [if_neg c4] at h ⊢
  by_cases c5 : y1 = -1
  · rw [if_pos c5]
  rw [if_neg c5] at h ⊢
  by_cases c6 : pSz P e ≤ 2
  · rw [if_pos c6] at h; omega
  rw [if_neg c6] at h ⊢
  by_cases c7 : andI (pSe P e 2) (bitF (F 2)) = 0
  · rw [if_pos c7]
  rw [if_neg c7] at h ⊢
  by_cases c8 : ¬ (if pR P = 0 then F 2 < F 1 else F 1 < F 2)
  · rw [if_pos c8]
  rw [if_neg c8] at h ⊢
  by_cases c9 : y2 = -1
  · rw [if_pos c9]
  rw [if_neg c9] at h
  omega
theorem nc_mod {P : PT} {k d f : Int} : ncS P (k + d) f = ncS P (k + d % 12) f := by
  have : bkI (k + d) = bkI (k + d % 12) := by
    unfold bkI
    rw [show (k + d) % 12 = (k + d % 12) % 12 by omega]
  unfold ncS
  rw [this]
theorem ecost_mod {P : PT} {e d : Int} {F : Int → Int} : ecostS P e d F = ecostS P e (d % 12) F := by
  unfold ecostS
  rw [nc_mod (k := pKy P e 0) (d := d), nc_mod (k := pKy P e 1) (d := d), nc_mod (k := pKy P e 2) (d := d)]
theorem ecost_sh {P : PT} {e d : Int} {F : Int → Int} : ecostS (shP P d) e 0 F = ecostS P e d F := by
  have k0 : pKy (shP P d) e 0 + 0 = pKy P e 0 + d := Int.add_zero _
  have k1 : pKy (shP P d) e 1 + 0 = pKy P e 1 + d := Int.add_zero _
  have k2 : pKy (shP P d) e 2 + 0 = pKy P e 2 + d := Int.add_zero _
  have d1 : pKy (shP P d) e 1 - pKy (shP P d) e 0 = pKy P e 1 - pKy P e 0 := by
    show pKy P e 1 + d - (pKy P e 0 + d) = _; omega
  have d2 : pKy (shP P d) e 2 - pKy (shP P d) e 1 = pKy P e 2 - pKy P e 1 := by
    show pKy P e 2 + d - (pKy P e 1 + d) = _; omega
  unfold ecostS
  rw [k0, k1, k2, d1, d2]
  rfl
theorem kind_sh {P : PT} {d f k f' k' : Int} : kindS (shP P d) f (k + d) f' (k' + d) = kindS P f k f' k' := by
  unfold kindS
  rw [show k' + d - (k + d) = k' - k by omega, show k + d - (k' + d) = k - k' by omega]
  by_cases h : k = k'
  · rw [if_pos h, if_pos (show k + d = k' + d by omega)]
  · rw [if_neg h, if_neg (show ¬ k + d = k' + d by omega)]
    rfl
theorem link_sh {P : PT} {d f k f' k' : Int} : linkS (shP P d) f (k + d) f' (k' + d) = linkS P f k f' k' := by
  unfold linkS
  rw [kind_sh, show k' + d - (k + d) = k' - k by omega, show k + d - (k' + d) = k - k' by omega]
  rfl
theorem pass_sh {P : PT} {d e r : Int} {F F' : Int → Int} : passS (shP P d) e r F F' = passS P e r F F' := by
  unfold passS
  have l0 : linkS (shP P d) (F (endS (shP P d) e 0)) (pKy (shP P d) e (endS (shP P d) e 0)) (F' (endS (shP P d) (e + 1) 0)) (pKy (shP P d) (e + 1) (endS (shP P d) (e + 1) 0)) = linkS P (F (endS P e 0)) (pKy P e (endS P e 0)) (F' (endS P (e + 1) 0)) (pKy P (e + 1) (endS P (e + 1) 0)) := link_sh
  have l1 : linkS (shP P d) (F (endS (shP P d) e 1)) (pKy (shP P d) e (endS (shP P d) e 1)) (F' (endS (shP P d) (e + 1) 1)) (pKy (shP P d) (e + 1) (endS (shP P d) (e + 1) 1)) = linkS P (F (endS P e 1)) (pKy P e (endS P e 1)) (F' (endS P (e + 1) 1)) (pKy P (e + 1) (endS P (e + 1) 1)) := link_sh
  rw [l0, l1]
  rfl
theorem shp_sh {P : PT} (hw : ∀ w, 0 ≤ w → w < 10 → 0 ≤ pW P w) {d e : Int} : shp (shP P d) e = shp P e := by
  unfold shp
  refine flt_congr (fun i _ => ?_)
  unfold okm
  have hs : pSz (shP P d) e = pSz P e := rfl
  rw [hs, ecost_sh]
  exact ⟨fun h h' => h (ecost_none hw h'), fun h h' => h (ecost_none hw h')⟩
theorem fg_sh {P : PT} (hw : ∀ w, 0 ≤ w → w < 10 → 0 ≤ pW P w) {d e c : Int} : fgP (shP P d) e c = fgP P e c := by
  unfold fgP itS
  rw [shp_sh hw]
  rfl
theorem cnt_sh {P : PT} (hw : ∀ w, 0 ≤ w → w < 10 → 0 ≤ pW P w) {d : Int} : cntS (shP P d) = cntS P := by
  funext e
  unfold cntS
  rw [shp_sh hw]
theorem own_sh {P : PT} (hw : ∀ w, 0 ≤ w → w < 10 → 0 ≤ pW P w) {d : Int} : ownS (shP P d) 0 = ownS P (d % 12) := by
  funext e c
  unfold ownS
  rw [fg_sh hw, ecost_sh, ecost_mod]
theorem step_sh {P : PT} (hw : ∀ w, 0 ≤ w → w < 10 → 0 ≤ pW P w) {d : Int} : stepS (shP P d) = stepS P := by
  funext e c n
  unfold stepS stepW
  rw [fg_sh hw, fg_sh hw, pass_sh]
  rfl
theorem ls_sh {P : PT} (hw : ∀ w, 0 ≤ w → w < 10 → 0 ≤ pW P w) {d : Int} : lsS (shP P d) 0 = lsS P (d % 12) := by
  unfold lsS
  have hE : pE (shP P d) = pE P := rfl
  have hA : ahS (shP P d) 0 (pE P - 1) = ahS P (d % 12) (pE P - 1) := by
    funext c
    unfold ahS ahN
    rw [cnt_sh hw, own_sh hw, step_sh hw]
  rw [hE, hA, cnt_sh hw]
theorem sum_none {a b : Int} (ha : -1 ≤ a) (hb : -1 ≤ b) : sumS a b = -1 ↔ (a = -1 ∨ b = -1) := by
  unfold sumS
  split
  · exact ⟨fun _ => by assumption, fun _ => rfl⟩
  · exact ⟨fun h => by omega, fun h => by omega⟩
theorem mn_none' {f : Int → Int} {n : Int} (hn : 0 ≤ n) (h : ∀ i, 0 ≤ i → i < n → f i = -1) : mnI f n = -1 := by
  have hb := mnI_b (f := f) (n := n) (A := 0) hn (by decide) (fun i a b => by rw [h i a b]; decide)
  rcases (show mnI f n = -1 ∨ mnI f n = 0 by omega) with e | e
  · exact e
  · obtain ⟨i, i0, i1, hi⟩ := mn_at hn (fun i a b => by rw [h i a b]; decide) (by decide) e
    rw [h i i0 i1] at hi
    exact absurd hi (by decide)
theorem ah_none {P : PT} (hW : Wf P) {b b' : Int} : ∀ (e : Nat) (c : Int), (e : Int) < pE P → ahN P b e c = -1 → ahN P b' e c = -1 := by
  have hbd := Wf_bd hW
  have hw : ∀ w, 0 ≤ w → w < 10 → 0 ≤ pW P w := fun w a b => (hW.2.2.2.1 w a b).1
  intro e
  induction e with
  | zero => intro c _ h; exact ecost_none hw h
  | succ e ih =>
    intro c he h
    have n0 := hbd.2.2.1 e (by omega) (by omega)
    have gs := fun k => (st_b hbd (e := e) (c := k) (n := c) (by omega) (by omega)).1
    have ga := fun b k => (ah_b hbd (b := b) e k (by omega)).1
    have go := (hbd.2.2.2.1 b (e + 1 : Nat) c (by omega) he).1
    have h : sumS (mnI (fun c' => sumS (ahN P b e c') (stepS P e c' c)) (cntS P e)) (ownS P b (e + 1 : Nat) c) = -1 := h
    show sumS (mnI (fun c' => sumS (ahN P b' e c') (stepS P e c' c)) (cntS P e)) (ownS P b' (e + 1 : Nat) c) = -1
    have gm := mn_ge (f := fun c' => sumS (ahN P b e c') (stepS P e c' c)) n0.2.1 (fun i _ _ => sum_ge (ga b i) (gs i))
    rcases (sum_none gm go).mp h with h1 | h1
    · have hall := mn_none n0.2.1 (fun i _ _ => sum_ge (ga b i) (gs i)) h1
      have : mnI (fun c' => sumS (ahN P b' e c') (stepS P e c' c)) (cntS P e) = -1 := mn_none' n0.2.1 (fun i i0 i1 => by
        rcases (sum_none (ga b i) (gs i)).mp (hall i i0 i1) with h2 | h2
        · rw [ih i (by omega) h2]; unfold sumS; rw [if_pos (Or.inl rfl)]
        · rw [h2]; unfold sumS; rw [if_pos (Or.inr rfl)])
      rw [this]; unfold sumS; rw [if_pos (Or.inl rfl)]
    · have : ownS P b' (e + 1 : Nat) c = -1 := ecost_none hw h1
      rw [this]; unfold sumS; rw [if_pos (Or.inr rfl)]
/-- no shift makes a fingering allowed that was none -/
theorem ls_none {P : PT} (hW : Wf P) {b b' : Int} (h : lsS P b = -1) : lsS P b' = -1 := by
  have hbd := Wf_bd hW
  have w1 := hW.2.1
  unfold lsS at h ⊢
  by_cases h0 : pE P = 0
  · rw [if_pos h0] at h; exact absurd h (by decide)
  · rw [if_neg h0] at h ⊢
    have n0 := hbd.2.2.1 (pE P - 1) (by omega) (by omega)
    have hall := mn_none n0.2.1 (fun i _ _ => (ahS_b hbd (b := b) (c := i) (by omega) (by omega)).1) h
    exact mn_none' n0.2.1 (fun i i0 i1 => ah_none hW _ _ (by omega) (hall i i0 i1))
/- rests -/
theorem les_as {a b c : Int} (ha : -1 ≤ a) (hb : -1 ≤ b) (hc : -1 ≤ c) : lesS (lesS a b) c = lesS a (lesS b c) := by
  unfold lesS
  (repeat' split) <;> omega
theorem les_ge {a b : Int} (ha : -1 ≤ a) (hb : -1 ≤ b) : -1 ≤ lesS a b := by
  unfold lesS
  (repeat' split) <;> omega
theorem les_n {a : Int} : lesS a (-1) = a := by unfold lesS; split <;> simp_all
theorem les_fold {f : Int → Int} {a n : Int} (hn : 0 ≤ n) (ha : -1 ≤ a) (h : ∀ i, 0 ≤ i → i < n → -1 ≤ f i) : itI (fun i b => lesS b (f i)) a n = lesS a (mnI f n) := by
  have := itI_ind (F := fun i b => lesS b (f i)) (a := a) (n := n) (fun i b => b = lesS a (mnI f i) ∧ -1 ≤ mnI f i) ⟨by rw [mnI_0, les_n], by rw [mnI_0]; decide⟩ (fun i b i0 i1 hb => by
    obtain ⟨rfl, hm⟩ := hb
    have hf := h i i0 i1
    rw [mnI_s i0]
    exact ⟨les_as ha hm hf, les_ge hm hf⟩) hn
  exact this.1
theorem sum_les {a x y : Int} (ha : 0 ≤ a) (hx : -1 ≤ x) (hy : -1 ≤ y) : sumS a (lesS x y) = lesS (sumS a x) (sumS a y) := by
  unfold sumS lesS
  (repeat' split) <;> omega
theorem sum_mn {f : Int → Int} {a n : Int} (hn : 0 ≤ n) (ha : 0 ≤ a) (h : ∀ i, 0 ≤ i → i < n → -1 ≤ f i) : sumS a (mnI f n) = mnI (fun i => sumS a (f i)) n := by
  have := itI_ind (F := fun i b => lesS b (f i)) (a := -1) (n := n) (fun i b => sumS a b = mnI (fun i => sumS a (f i)) i ∧ -1 ≤ b) ⟨by rw [mnI_0]; unfold sumS; rw [if_pos (Or.inr rfl)], by decide⟩ (fun i b i0 i1 hb => by
    obtain ⟨h1, h2⟩ := hb
    have hf := h i i0 i1
    rw [mnI_s i0, ← h1]
    exact ⟨sum_les ha h2 hf, les_ge h2 hf⟩) hn
  exact this.1
theorem shp_rs {P : PT} {e r e' : Int} : shp (rsP P e r) e' = shp P e' := rfl
theorem step_rs {P : PT} {e r e' c n : Int} (h : ¬ e' = e) : stepS (rsP P e r) e' c n = stepS P e' c n := by
  have : pRe (rsP P e r) e' = pRe P e' := if_neg h
  unfold stepS
  rw [this]
  rfl
theorem step_rs9 {P : PT} {e r c n : Int} : stepS (rsP P e r) e c n = stepW P r e c n := by
  have : pRe (rsP P e r) e = r := if_pos rfl
  unfold stepS
  rw [this]
  rfl
theorem ah_rs {P : PT} {e r : Int} : ∀ (k : Nat) (c : Int), (k : Int) ≤ e → ahN (rsP P e r) 0 k c = ahN P 0 k c := by
  intro k
  induction k with
  | zero => intro c _; rfl
  | succ k ih =>
    intro c hk
    show sumS (mnI (fun c' => sumS (ahN (rsP P e r) 0 k c') (stepS (rsP P e r) k c' c)) (cntS (rsP P e r) k)) (ownS (rsP P e r) 0 (k + 1 : Nat) c) = sumS (mnI (fun c' => sumS (ahN P 0 k c') (stepS P k c' c)) (cntS P k)) (ownS P 0 (k + 1 : Nat) c)
    have : (fun c' => sumS (ahN (rsP P e r) 0 k c') (stepS (rsP P e r) k c' c)) = fun c' => sumS (ahN P 0 k c') (stepS P k c' c) := by
      funext c'
      rw [ih c' (by omega), step_rs (by omega)]
    rw [this]
    rfl
theorem bh_rs {P : PT} {e r : Int} : ∀ (d : Nat) (c : Int), e + 1 ≤ pE P - 1 - d → bhN (rsP P e r) d c = bhN P d c := by
  intro d
  induction d with
  | zero => intro c _; rfl
  | succ d ih =>
    intro c hd
    show mnI (fun k => sumS (stepS (rsP P e r) (pE P - 2 - d) c k) (sumS (ownS (rsP P e r) 0 (pE P - 1 - d) k) (bhN (rsP P e r) d k))) (cntS (rsP P e r) (pE P - 1 - d)) = mnI (fun k => sumS (stepS P (pE P - 2 - d) c k) (sumS (ownS P 0 (pE P - 1 - d) k) (bhN P d k))) (cntS P (pE P - 1 - d))
    have : (fun k => sumS (stepS (rsP P e r) (pE P - 2 - d) c k) (sumS (ownS (rsP P e r) 0 (pE P - 1 - d) k) (bhN (rsP P e r) d k))) = fun k => sumS (stepS P (pE P - 2 - d) c k) (sumS (ownS P 0 (pE P - 1 - d) k) (bhN P d k)) := by
      funext k
      rw [ih k (by omega), step_rs (by omega)]
      rfl
    rw [this]
    rfl
theorem rs_Wf {P : PT} (hW : Wf P) {e r : Int} (hr : 0 ≤ r ∧ r ≤ 9) : Wf (rsP P e r) := by
  obtain ⟨w0, w1, w2, w3, w4⟩ := hW
  refine ⟨w0, w1, fun e' a b => ?_, w3, w4⟩
  obtain ⟨x1, x2, x3, x4⟩ := w2 e' a b
  refine ⟨x1, ?_, x3, x4⟩
  show 0 ≤ (if e' = e then r else pRe P e') ∧ (if e' = e then r else pRe P e') ≤ 9
  split
  · exact hr
  · exact x2
/-- a rest of 9 behind an event -/
theorem lr_ls {P : PT} (hW : Wf P) {e : Int} (e0 : 0 ≤ e) (e1 : e + 1 < pE P) : lrS P e = lsS (rsP P e 9) 0 := by
  have hbd := Wf_bd hW
  have hbd' := Wf_bd (rs_Wf hW (e := e) (r := 9) (by decide))
  obtain ⟨n, hn⟩ : ∃ n : Nat, e = n := ⟨e.toNat, by omega⟩
  have h1 := tG_ls hbd' (show 1 ≤ pE (rsP P e 9) by show 1 ≤ pE P; omega) (e := n) (show (n : Int) < pE P by omega)
  rw [← hn] at h1
  rw [h1]
  have c0 := hbd.2.2.1 e e0 (by omega)
  have c1 := hbd.2.2.1 (e + 1) (by omega) e1
  have hah : ∀ c, ahS (rsP P e 9) 0 e c = ahS P 0 e c := fun c => ah_rs _ _ (by omega)
  have hbh : ∀ c, bhS (rsP P e 9) e c = mnI (fun k => sumS (stepW P 9 e c k) (frS P (e + 1) k)) (cntS P (e + 1)) := fun c => by
    rw [bhS_s (show e + 1 < pE (rsP P e 9) from e1)]
    show mnI _ (cntS P (e + 1)) = _
    congr 1
    funext k
    rw [step_rs9]
    have : bhS (rsP P e 9) (e + 1) k = bhS P (e + 1) k := bh_rs _ _ (by show e + 1 ≤ pE P - 1 - ((pE P - 1 - (e + 1)).toNat : Nat); omega)
    rw [this]
    rfl
  have hgf : ∀ c k, -1 ≤ sumS (stepW P 9 e c k) (frS P (e + 1) k) := fun c k => sum_ge (hbd.2.2.2.2.1 e 9 c k e0 e1 (by decide)).1 (fr_ge hbd (e := e + 1) (c := k) (by omega) e1).1
  have hga : ∀ c, -1 ≤ ahS P 0 e c := fun c => (ahS_b hbd (b := 0) (c := c) e0 (by omega)).1
  unfold lrS
  show _ = mnI _ (cntS P e)
  have hF : (fun c => sumS (ahS (rsP P e 9) 0 e c) (bhS (rsP P e 9) e c)) = fun c => sumS (ahS P 0 e c) (mnI (fun k => sumS (stepW P 9 e c k) (frS P (e + 1) k)) (cntS P (e + 1))) := by
    funext c; rw [hah, hbh]
  rw [hF]
  have := itI_ind (F := fun c a => if ahS P 0 e c = -1 then a else itI (fun n b => lesS b (sumS (ahS P 0 e c) (sumS (stepW P 9 e c n) (frS P (e + 1) n)))) a (cntS P (e + 1))) (a := -1) (n := cntS P e) (fun i a => a = mnI (fun c => sumS (ahS P 0 e c) (mnI (fun k => sumS (stepW P 9 e c k) (frS P (e + 1) k)) (cntS P (e + 1)))) i ∧ -1 ≤ a) ⟨rfl, by decide⟩ (fun c a i0 i1 ha => by
    obtain ⟨ha1, ha2⟩ := ha
    have gm := mn_ge (f := fun k => sumS (stepW P 9 e c k) (frS P (e + 1) k)) c1.2.1 (fun k _ _ => hgf c k)
    rw [mnI_s i0, ← ha1]
    by_cases hc : ahS P 0 e c = -1
    · rw [if_pos hc]
      refine ⟨?_, ha2⟩
      rw [hc, show sumS (-1) (mnI (fun k => sumS (stepW P 9 e c k) (frS P (e + 1) k)) (cntS P (e + 1))) = -1 by unfold sumS; rw [if_pos (Or.inl rfl)], les_n]
    · rw [if_neg hc]
      have h0 : 0 ≤ ahS P 0 e c := by have := hga c; omega
      rw [les_fold c1.2.1 ha2 (fun k _ _ => sum_ge (hga c) (hgf c k)), sum_mn c1.2.1 h0 (fun k _ _ => hgf c k)]
      refine ⟨rfl, les_ge ha2 (mn_ge c1.2.1 (fun k _ _ => sum_ge (hga c) (hgf c k)))⟩) c0.2.1
  exact this.1
