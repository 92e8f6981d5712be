/-! Both views of a piece give the same answers. -/
section AG
variable {P P' : PT}
theorem Agr.e (h : Agr P P') : pE P = pE P' := h.2.1
theorem Agr.z (h : Agr P P') {e : Int} (e0 : 0 ≤ e) (e1 : e < pE P) : pSz P e = pSz P' e := (h.2.2.1 e e0 e1).1
theorem pt_A (h : Agr P P') (hW : Wf P) {e w : Int} (e0 : 0 ≤ e) (e1 : e < pE P) : ptS P e w = ptS P' e w := by
  unfold ptS
  by_cases h0 : w = 0
  · rw [if_pos h0, if_pos h0, fs_A h hW e0 e1, own_A h hW e0 e1]
  rw [if_neg h0, if_neg h0]
  by_cases he : e = 0
  · rw [if_pos he, if_pos he]
  rw [if_neg he, if_neg he]
  have a0 : 0 ≤ e - 1 := by omega
  have a1 : e - 1 < pE P := by omega
  have a2 : e - 1 + 1 < pE P := by omega
  rw [fs_A h hW e0 e1, fs_A h hW a0 a1, step_A h hW a0 a2]
  rw [fg_A h hW a0 a1, fg_A h hW e0 e1, cross_A h a0 a2 (hW.2.2.1 (e - 1) a0 a1).1.1 (hW.2.2.1 (e - 1 + 1) (by omega) a2).1.1]
theorem fg2_A (h : Agr P P') (hW : Wf P) {e : Int} (e0 : 0 ≤ e) (e1 : e < pE P) : fgP P e (fsS P e) = fgP P' e (fsS P' e) := by
  rw [fs_A h hW e0 e1, fg_A h hW e0 e1]
theorem us_A (h : Agr P P') (hW : Wf P) {f : Int} : usS P f = usS P' f := by
  unfold usS
  rw [← h.e]
  refine sumI_congr (fun e e0 e1 => ?_)
  rw [fg2_A h hW e0 e1, h.z e0 e1]
theorem ch_A (h : Agr P P') (hW : Wf P) {e k : Int} (e0 : 0 ≤ e) (e1 : e < pE P) : chS P e k = chS P' e k := by
  unfold chS
  rw [← cnt_A h hW e0 e1]
  refine itI_congr (fun c a c0 c1 => ?_) ((Wf_bd hW).2.2.1 e e0 e1).2.1
  rw [ah_A h hW e0 e1, bh_A h hW e0 e1, ls_A h hW, fg_A h hW e0 e1]
theorem su_A (h : Agr P P') (hW : Wf P) : suS P = suS P' := by
  unfold suS
  rw [← h.e]
  refine sumI_congr (fun e e0 e1 => ?_)
  rw [← h.z e0 e1]
  exact sumI_congr (fun k _ _ => by rw [ch_A h hW e0 e1])
theorem rch_A (h : Agr P P') (hW : Wf P) {e : Int} (e0 : 0 ≤ e) (e1 : e < pE P) : rchS P e ↔ rchS P' e := by
  unfold rchS
  rw [cnt_A h hW e0 e1]
  exact ⟨fun ⟨c, c0, c1, c2⟩ => ⟨c, c0, c1, by rw [← ah_A h hW e0 e1]; exact c2⟩, fun ⟨c, c0, c1, c2⟩ => ⟨c, c0, c1, by rw [ah_A h hW e0 e1]; exact c2⟩⟩
theorem rc_A (h : Agr P P') (hW : Wf P) : rcS P = rcS P' := by
  unfold rcS
  rw [← h.e]
  have e : fnd (fun e => ¬ rchS P e) (pE P) = fnd (fun e => ¬ rchS P' e) (pE P) := fnd_congr (fun i i0 i1 => by rw [rch_A h hW i0 i1]) hW.2.1.1
  rw [e]
theorem lw_A (h : Agr P P') (hW : Wf P) {e k f : Int} (e0 : 0 ≤ e) (e1 : e < pE P) : lwS P e k f = lwS P' e k f := by
  unfold lwS
  rw [← cnt_A h hW e0 e1]
  refine itI_congr (fun c a c0 c1 => ?_) ((Wf_bd hW).2.2.1 e e0 e1).2.1
  rw [ah_A h hW e0 e1, bh_A h hW e0 e1, fg_A h hW e0 e1]
theorem mn_A (h : Agr P P') (hW : Wf P) : mnD P = mnD P' := by
  unfold mnD
  rw [← h.e, ls_A h hW, sz_A h, ← h.e]
theorem wyN_A (h : Agr P P') (hW : Wf P) {ch : Int} : ∀ (e : Nat) (c : Int), (e : Int) < pE P → wyN P ch e c = wyN P' ch e c := by
  intro e
  induction e with
  | zero => intro c _; rfl
  | succ e ih =>
    intro c he
    have e0 : (0 : Int) ≤ e := by omega
    have e1 : (e : Int) < pE P := by omega
    have e2 : (e : Int) + 1 < pE P := by omega
    simp only [wyN]
    rw [← cnt_A h hW e0 e1]
    congr 1
    refine sumI_congr (fun i _ _ => ?_)
    rw [ah_A h hW e0 e1, step_A h hW e0 e2, own_A h hW (show (0 : Int) ≤ (e + 1 : Nat) by omega) he, ah_A h hW (show (0 : Int) ≤ (e + 1 : Nat) by omega) he, ih i e1]
theorem wy_A (h : Agr P P') (hW : Wf P) {ch : Int} : wyS P ch = wyS P' ch := by
  unfold wyS
  rw [← h.e]
  by_cases h0 : pE P = 0
  · rw [if_pos h0, if_pos h0]
  rw [if_neg h0, if_neg h0]
  have hb := hW.2.1
  have a0 : 0 ≤ pE P - 1 := by omega
  have a1 : pE P - 1 < pE P := by omega
  rw [← cnt_A h hW a0 a1]
  congr 1
  refine sumI_congr (fun i _ _ => ?_)
  rw [ah_A h hW a0 a1, ls_A h hW, wyN_A h hW _ i (by omega)]
/-- counts of both sides -/
theorem many_A (h : Agr P P') (hW : Wf P) {ch : Int} (hc : ch = 0 ∨ ch = 1) : wyS P ch = mqS P' ch := by
  rw [wy_A h hW]
  have hb := Wf_bd (hW.agr h)
  rcases hc with rfl | rfl
  · exact many_all hb
  · exact many_cheap hb
theorem dg_A (h : Agr P P') (hW : Wf P) {e : Int} (e0 : 0 ≤ e) (e1 : e < pE P) : ∀ k : Nat, dgN P e k = dgN P' e k := by
  intro k
  induction k with
  | zero => rfl
  | succ k ih => simp only [dgN]; rw [ih, fg2_A h hW e0 e1]
theorem wtN_A (h : Agr P P') (hW : Wf P) : ∀ e : Nat, (e : Int) ≤ pE P → wtN P e = wtN P' e := by
  intro e
  induction e with
  | zero => intro _; rfl
  | succ e ih =>
    intro he
    have e0 : (0 : Int) ≤ e := by omega
    have e1 : (e : Int) < pE P := by omega
    simp only [wtN]
    rw [ih (by omega), ← h.z e0 e1, dg_A h hW e0 e1, ← h.e, ← (h.2.2.1 e e0 e1).2.1, ← h.2.2.2.1 8 (by decide) (by decide)]
theorem wt_A (h : Agr P P') (hW : Wf P) : wtS P (pE P) = wtS P' (pE P') := by
  unfold wtS
  rw [← h.e]
  exact wtN_A h hW _ (by have := hW.2.1; omega)
theorem rs_A (h : Agr P P') {e r : Int} : Agr (rsP P e r) (rsP P' e r) := by
  obtain ⟨h1, h2, h3, h4, h5⟩ := h
  refine ⟨h1, h2, fun i i0 i1 => ?_, h4, h5⟩
  obtain ⟨a, b, c⟩ := h3 i i0 i1
  refine ⟨a, ?_, c⟩
  show (if i = e then r else pRe P i) = if i = e then r else pRe P' i
  rw [b]
theorem lr_A (h : Agr P P') (hW : Wf P) {e : Int} (e0 : 0 ≤ e) (e1 : e + 1 < pE P) : lrS P e = lrS P' e := by
  rw [lr_ls hW e0 e1, lr_ls (hW.agr h) e0 (by rw [← h.e]; exact e1)]
  exact ls_A (rs_A h) (rs_Wf hW (by decide))
theorem rb_A (h : Agr P P') (hW : Wf P) {k : Int} (h0 : 0 ≤ k) (h1 : k < pE P) : rbS P k = rbS P' k := by
  unfold rbS
  rw [ls_A h hW]
  exact itI_congr (fun i s i0 i1 => by rw [lr_A h hW i0 (by omega)]) h0
theorem cv_A (h : Agr P P') (hW : Wf P) {d : Int} : cvS P d = cvS P' d := by
  unfold cvS
  by_cases hf : fitS P d
  · rw [if_pos hf, if_pos ((fit_A h hW).mp hf), ls_A h hW, ls_A h hW]
  · rw [if_neg hf, if_neg (fun z => hf ((fit_A h hW).mpr z))]
theorem ez_A (h : Agr P P') (hW : Wf P) {k : Int} (h0 : 0 ≤ k) : ezS P k = ezS P' k := by
  unfold ezS
  exact itI_congr (fun i s i0 i1 => by rw [cv_A h hW]) h0
theorem fx_A (h : Agr P P') : fxS P = fxS P' := by
  unfold fxS
  rw [← h.e]
  refine sumI_congr (fun e e0 e1 => ?_)
  rw [← h.z e0 e1]
  exact sumI_congr (fun k k0 k1 => by rw [((h.2.2.1 e e0 e1).2.2 k k0 k1).2])
theorem sh_A (h : Agr P P') {d : Int} : Agr (shP P d) (shP P' d) := by
  obtain ⟨h1, h2, h3, h4, h5⟩ := h
  refine ⟨h1, h2, fun i i0 i1 => ?_, h4, h5⟩
  obtain ⟨a, b, c⟩ := h3 i i0 i1
  refine ⟨a, b, fun k k0 k1 => ?_⟩
  obtain ⟨c1, c2⟩ := c k k0 k1
  refine ⟨?_, c2⟩
  show pKy P i k + d = pKy P' i k + d
  rw [c1]
end AG
