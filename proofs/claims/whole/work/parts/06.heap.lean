section HEAP
theorem wid_s {x : Option Value} {w : Value} (h : wid x = some w) : x = some w ∧ w.category = 1 := by
  cases x with
  | none => cases h
  | some v => cases v <;> simp [wid] at h <;> exact ⟨by rw [h], by rw [← h]; rfl⟩
theorem lg_lst : ∀ (i : Nat) (ls : Lo) (v w : Value) (k : Nat), lg (lst ls i v) k = some w → i < ls.length → (k = i ∧ w = v) ∨ (k ≠ i ∧ lg ls k = some w ∧ (k + 1 = i → w.category = 1))
  | _, [], _, _, _, _, hl => absurd hl (Nat.not_lt_zero _)
  | 0, _ :: _, v, w, 0, h, _ => Or.inl ⟨rfl, (Option.some.inj h).symm⟩
  | 0, _ :: _, v, w, k + 1, h, _ => Or.inr ⟨by omega, h, fun q => by omega⟩
  | n + 1, [_], _, _, _, _, hl => absurd hl (by simp)
  | 1, _ :: _ :: _, v, w, 0, h, _ => Or.inr ⟨by omega, (wid_s h).1, fun _ => (wid_s h).2⟩
  | 1, _ :: _ :: _, v, w, 1, h, _ => Or.inl ⟨rfl, (Option.some.inj h).symm⟩
  | 1, _ :: _ :: _, v, w, k + 2, h, _ => Or.inr ⟨by omega, h, fun q => by omega⟩
  | n + 2, _ :: _ :: _, v, w, 0, h, _ => Or.inr ⟨by omega, h, fun q => by omega⟩
  | n + 2, _ :: y :: l, v, w, k + 1, h, hl => by
    rcases lg_lst (n + 1) (y :: l) v w k h (by simp at hl ⊢; omega) with ⟨a, b⟩ | ⟨a, b, c⟩
    · exact Or.inl ⟨by omega, b⟩
    · exact Or.inr ⟨by omega, b, fun q => c (by omega)⟩
theorem lst_len : ∀ (i : Nat) (ls : Lo) (v : Value), (lst ls i v).length = ls.length
  | _, [], _ => rfl
  | 0, _ :: _, _ => rfl
  | n + 1, [_], _ => rfl
  | 1, _ :: _ :: _, _ => rfl
  | n + 2, _ :: y :: l, v => by
    have := lst_len (n + 1) (y :: l) v
    simp [lst] at this ⊢
    exact this
theorem lg_lstW : ∀ (i : Nat) (ls : Lo) (v w : Value) (k : Nat), lg (lstW ls i v) k = some w → i + 1 < ls.length → (k = i ∧ w = v) ∨ (k ≠ i ∧ k ≠ i + 1 ∧ lg ls k = some w ∧ (k + 1 = i → w.category = 1))
  | _, [], _, _, _, _, hl => absurd hl (by simp)
  | _, [_], _, _, _, _, hl => absurd hl (by simp)
  | 0, _ :: _ :: _, v, w, 0, h, _ => Or.inl ⟨rfl, (Option.some.inj h).symm⟩
  | 0, _ :: _ :: _, v, w, 1, h, _ => by cases h
  | 0, _ :: _ :: _, v, w, k + 2, h, _ => Or.inr ⟨by omega, by omega, h, fun q => by omega⟩
  | n + 1, [_, _], _, _, _, _, hl => absurd hl (by simp)
  | 1, _ :: _ :: _ :: _, v, w, 0, h, _ => Or.inr ⟨by omega, by omega, (wid_s h).1, fun _ => (wid_s h).2⟩
  | 1, _ :: _ :: _ :: _, v, w, 1, h, _ => Or.inl ⟨rfl, (Option.some.inj h).symm⟩
  | 1, _ :: _ :: _ :: _, v, w, 2, h, _ => by cases h
  | 1, _ :: _ :: _ :: _, v, w, k + 3, h, _ => Or.inr ⟨by omega, by omega, h, fun q => by omega⟩
  | n + 2, _ :: _ :: _ :: _, v, w, 0, h, _ => Or.inr ⟨by omega, by omega, h, fun q => by omega⟩
  | n + 2, _ :: y :: z :: l, v, w, k + 1, h, hl => by
    rcases lg_lstW (n + 1) (y :: z :: l) v w k h (by simp at hl ⊢; omega) with ⟨a, b⟩ | ⟨a, b, c, d⟩
    · exact Or.inl ⟨by omega, b⟩
    · exact Or.inr ⟨by omega, by omega, c, fun q => d (by omega)⟩
theorem lstW_len : ∀ (i : Nat) (ls : Lo) (v : Value), (lstW ls i v).length = ls.length
  | _, [], _ => rfl
  | _, [_], _ => rfl
  | 0, _ :: _ :: _, _ => rfl
  | n + 1, [_, _], _ => rfl
  | 1, _ :: _ :: _ :: _, _ => rfl
  | n + 2, _ :: y :: z :: l, v => by
    have := lstW_len (n + 1) (y :: z :: l) v
    simp [lstW] at this ⊢
    exact this
theorem lo_st {ad : Nat → Nat} {ls : Lo} {lsR lsR' : Array Slot} {nL i : Nat} {v : Value} (h : lo ad ls lsR nL) (hi : i < nL) (h' : lv_has lsR' nL ((i, cv ad v) :: (kl (cv ad) 0 ls).filter (fun q => !(q.1 == i) && !(q.1 + 1 == i && q.2.category == 2)))) : lo ad (lst ls i v) lsR' nL := by
  refine ⟨(lst_len i ls v).trans h.1, h'.1, h'.2.1, ?_⟩
  rintro ⟨j, w⟩ hj
  obtain ⟨k, u, rfl, hk, rfl⟩ := (kl_mem _ _ _ _).mp hj
  rcases lg_lst i ls v u k hk (by rw [h.1]; exact hi) with ⟨rfl, rfl⟩ | ⟨a, b, c⟩
  · exact h'.2.2 _ (by rw [Nat.zero_add]; exact List.mem_cons_self)
  · refine h'.2.2 _ (List.mem_cons_of_mem _ (List.mem_filter.mpr ⟨(kl_mem _ _ _ _).mpr ⟨k, u, rfl, b, rfl⟩, ?_⟩))
    simp only [Nat.zero_add, cv_cat]
    by_cases hk : k + 1 = i
    · rw [c hk]; simp [a]
    · simp [a, hk]
theorem lo_stW {ad : Nat → Nat} {ls : Lo} {lsR lsR' : Array Slot} {nL i : Nat} {v : Value} (h : lo ad ls lsR nL) (hi : i + 1 < nL) (h' : lv_has lsR' nL ((i, cv ad v) :: (kl (cv ad) 0 ls).filter (fun q => !(q.1 == i) && (!(q.1 == i + 1) && !(q.1 + 1 == i && q.2.category == 2))))) : lo ad (lstW ls i v) lsR' nL := by
  refine ⟨(lstW_len i ls v).trans h.1, h'.1, h'.2.1, ?_⟩
  rintro ⟨j, w⟩ hj
  obtain ⟨k, u, rfl, hk, rfl⟩ := (kl_mem _ _ _ _).mp hj
  rcases lg_lstW i ls v u k hk (by rw [h.1]; exact hi) with ⟨rfl, rfl⟩ | ⟨a, a', b, c⟩
  · exact h'.2.2 _ (by rw [Nat.zero_add]; exact List.mem_cons_self)
  · refine h'.2.2 _ (List.mem_cons_of_mem _ (List.mem_filter.mpr ⟨(kl_mem _ _ _ _).mpr ⟨k, u, rfl, b, rfl⟩, ?_⟩))
    simp only [Nat.zero_add, cv_cat]
    by_cases hk : k + 1 = i
    · rw [c hk]; simp [a, a']
    · simp [a, a', hk]
theorem ok_lst {n i : Nat} {ls : Lo} {v : Value} (hl : i < ls.length) (h : ∀ w, some w ∈ ls → okV n w) (hv : okV n v) : ∀ w, some w ∈ lst ls i v → okV n w := by
  intro w hw
  obtain ⟨k, hk⟩ := mem_lg hw
  rcases lg_lst i ls v w k hk hl with ⟨-, rfl⟩ | ⟨-, b, -⟩
  · exact hv
  · exact h w (lg_mem b)
theorem ok_lstW {n i : Nat} {ls : Lo} {v : Value} (hl : i + 1 < ls.length) (h : ∀ w, some w ∈ ls → okV n w) (hv : okV n v) : ∀ w, some w ∈ lstW ls i v → okV n w := by
  intro w hw
  obtain ⟨k, hk⟩ := mem_lg hw
  rcases lg_lstW i ls v w k hk hl with ⟨-, rfl⟩ | ⟨-, -, b, -⟩
  · exact hv
  · exact h w (lg_mem b)
/- the heap's list -/
theorem wl_at {tA : Nat → ClassId} {ad : Nat → Nat} {h : Hp} {p : Nat} (h1 : 64 ≤ p) (h2 : p < h.2.1) : (wl tA ad h)[p - 64]? = some (ad p, cE tA ad (h.1 p)) := by
  unfold wl
  rw [List.getElem?_map, List.getElem?_range (by omega)]
  have e : 64 + (p - 64) = p := by omega
  simp only [Option.map_some, e]
theorem wl_set {tA : Nat → ClassId} {ad : Nat → Nat} {h : Hp} {p : Nat} {e : va_E} (h1 : 64 ≤ p) : wl tA ad (hset h p e) = (wl tA ad h).set (p - 64) (ad p, cE tA ad e) := by
  apply List.ext_getElem?
  intro i
  rw [List.getElem?_set]
  unfold wl
  rw [List.getElem?_map, List.getElem?_map, List.length_map, List.length_range]
  show Option.map _ (List.range (h.2.1 - 64))[i]? = _
  by_cases hi : i < h.2.1 - 64
  · rw [List.getElem?_range hi]
    by_cases hp : p - 64 = i
    · have e2 : 64 + i = p := by omega
      rw [if_pos hp, if_pos (by omega)]
      simp [e2, hset]
    · have e2 : ¬ 64 + i = p := by omega
      rw [if_neg hp]
      simp [e2, hset]
  · rw [List.getElem?_eq_none (by simp; omega)]
    by_cases hp : p - 64 = i
    · rw [if_pos hp, if_neg (by omega)]; rfl
    · rw [if_neg hp]; rfl
theorem cv_ext {n : Nat} {ad ad' : Nat → Nat} (ha : ∀ q, q < n → ad' q = ad q) {v : Value} (h : okV n v) : cv ad' v = cv ad v := by
  cases v with
  | ref p => simp only [cv]; rw [ha p (h p rfl)]
  | _ => rfl
theorem map_ext {n : Nat} {ad ad' : Nat → Nat} (ha : ∀ q, q < n → ad' q = ad q) {vs : Vs} (h : ∀ v ∈ vs, okV n v) : vs.map (cv ad') = vs.map (cv ad) := List.map_congr_left (fun v hv => cv_ext ha (h v hv))
theorem cE_ext {tA : Nat → ClassId} {n : Nat} {ad ad' : Nat → Nat} (ha : ∀ q, q < n → ad' q = ad q) {e : va_E} (h : okE n e) : cE tA ad' e = cE tA ad e := by
  match e, h with
  | .inl (t, m, .inr (.inr (.inr (.inr f)))), h =>
    have : (fun i => (f i).map ad') = (fun i => (f i).map ad) := by
      funext i
      cases hi : f i with
      | none => rfl
      | some q => simp only [Option.map_some]; rw [ha q (h.2 i q hi)]
    simp only [cE, this]
  | .inl (t, m, .inr (.inr (.inr (.inl f)))), h => rfl
  | .inl (t, m, .inr (.inr (.inl f))), h => rfl
  | .inl (t, m, .inr (.inl f)), h => rfl
  | .inl (t, m, .inl f), h => rfl
  | .inr (c, fs), h => simp only [cE]; rw [map_ext ha h]
theorem kl_ext {n : Nat} {ad ad' : Nat → Nat} (ha : ∀ q, q < n → ad' q = ad q) : ∀ (ls : Lo) (i : Nat), (∀ v, some v ∈ ls → okV n v) → kl (cv ad') i ls = kl (cv ad) i ls
  | [], _, _ => rfl
  | none :: l, i, h => by simp only [kl]; exact kl_ext ha l _ (fun v hv => h v (List.mem_cons_of_mem _ hv))
  | some v :: l, i, h => by
    simp only [kl]
    rw [cv_ext ha (h v List.mem_cons_self), kl_ext ha l _ (fun v hv => h v (List.mem_cons_of_mem _ hv))]
theorem wl_ext {tA : Nat → ClassId} {ad ad' : Nat → Nat} {h : Hp} (ha : ∀ q, q < h.2.1 → ad' q = ad q) (hw : ∀ p, 64 ≤ p → p < h.2.1 → okE h.2.1 (h.1 p)) : wl tA ad' h = wl tA ad h := by
  unfold wl
  refine List.map_congr_left (fun i hi => ?_)
  have hi' := List.mem_range.mp hi
  rw [ha _ (by omega), cE_ext ha (hw (64 + i) (by omega) (by omega))]
theorem okV_le {n n' : Nat} (hn : n ≤ n') {v : Value} (h : okV n v) : okV n' v := fun p e => Nat.lt_of_lt_of_le (h p e) hn
theorem okE_le {n n' : Nat} (hn : n ≤ n') {e : va_E} (h : okE n e) : okE n' e := by
  match e, h with
  | .inl (t, m, .inr (.inr (.inr (.inr f)))), h => exact ⟨h.1, fun i q hq => Nat.lt_of_lt_of_le (h.2 i q hq) hn⟩
  | .inl (t, m, .inr (.inr (.inr (.inl f)))), h => exact h
  | .inl (t, m, .inr (.inr (.inl f))), h => exact h
  | .inl (t, m, .inr (.inl f)), h => exact h
  | .inl (t, m, .inl f), h => exact h
  | .inr (c, fs), h => exact fun v hv => okV_le hn (h v hv)
theorem wl_new {tA : Nat → ClassId} {ad : Nat → Nat} {h : Hp} {e : va_E} {n q : Nat} (h64 : 64 ≤ h.2.1) (hw : ∀ p, 64 ≤ p → p < h.2.1 → okE h.2.1 (h.1 p)) (he : okE h.2.1 e) :
    wl tA (fun x => if x = h.2.1 then q else ad x) (hnew h e n) = wl tA ad h ++ [(q, cE tA ad e)] := by
  have ha : ∀ x, x < h.2.1 → (fun x => if x = h.2.1 then q else ad x) x = ad x := fun x hx => if_neg (by omega)
  have e1 : wl tA (fun x => if x = h.2.1 then q else ad x) (hnew h e n) = wl tA (fun x => if x = h.2.1 then q else ad x) h ++ [(q, cE tA (fun x => if x = h.2.1 then q else ad x) e)] := by
    unfold wl
    have e2 : (hnew h e n).2.1 - 64 = (h.2.1 - 64) + 1 := by show h.2.1 + 1 - 64 = _; omega
    rw [e2, List.range_succ, List.map_append]
    have e3 : 64 + (h.2.1 - 64) = h.2.1 := by omega
    congr 1
    · refine List.map_congr_left (fun i hi => ?_)
      have hi' := List.mem_range.mp hi
      have e4 : ¬ 64 + i = h.2.1 := by omega
      simp [hnew, e4]
    · simp [hnew, e3]
  rw [e1, wl_ext ha hw, cE_ext ha he]
theorem gd_new {G : GG} {ad : Nat → Nat} {nL : Nat} {ls : Lo} {st : Vs} {h : Hp} {A : Nat → Prop} {H0 H H1 : Heap} {locs : List Loc} {lsR : Array Slot} {c0 s0 n q : Nat} {e : va_E} {r : Vs} (g : Gd G ad nL ls st h A H0 H locs lsR c0 s0) (hr : ∀ v ∈ r, v ∈ st) (he : okE h.2.1 e)
    (hP : va_P (G.1, G.2.1) vwCl (wl G.2.2.1 ad h ++ [(q, cE G.2.2.1 ad e)]) H1) (hD : va_D A (wl G.2.2.1 ad h ++ [(q, cE G.2.2.1 ad e)])) (hS : va_S A H0 H1 locs) :
    Gd G (fun x => if x = h.2.1 then q else ad x) nL ls (.ref h.2.1 :: r) (hnew h e n) A H0 H1 locs lsR c0 s0 ∧ r.map (cv (fun x => if x = h.2.1 then q else ad x)) = r.map (cv ad) := by
  obtain ⟨g1, g2, g3, ⟨w1, w2, w3⟩, g5, g6, g7, g8, g9, g10⟩ := g
  have ha : ∀ x, x < h.2.1 → (fun x => if x = h.2.1 then q else ad x) x = ad x := fun x hx => if_neg (by omega)
  have e1 := wl_new (tA := G.2.2.1) (ad := ad) (n := n) (q := q) w1 w3 he
  refine ⟨⟨by rw [e1]; exact hP, by rw [e1]; exact hD, hS, ⟨?_, ?_, ?_⟩, ?_, ?_, ?_, ?_, ?_, ?_⟩, map_ext ha (fun v hv => g5 v (hr v hv))⟩
  · show 64 ≤ h.2.1 + 1; omega
  · intro p hp
    show (if p = h.2.1 then e else h.1 p) = _
    rw [if_neg (by omega)]; exact w2 p hp
  · intro p hp hp2
    have hp2 : p < h.2.1 + 1 := hp2
    show okE (h.2.1 + 1) (if p = h.2.1 then e else h.1 p)
    by_cases hpe : p = h.2.1
    · rw [if_pos hpe]; exact okE_le (by omega) he
    · rw [if_neg hpe]; exact okE_le (by omega) (w3 p hp (by omega))
  · exact ok_c (fun p hp => by cases hp; show h.2.1 < h.2.1 + 1; omega) (fun v hv => okV_le (show h.2.1 ≤ h.2.1 + 1 by omega) (g5 v (hr v hv)))
  · exact fun v hv => okV_le (show h.2.1 ≤ h.2.1 + 1 by omega) (g6 v hv)
  · exact ⟨g7.1, by rw [kl_ext ha ls 0 g6]; exact g7.2⟩
  · show c0 ≤ h.2.2.1 + 1; omega
  · show s0 ≤ h.2.2.2 + n; omega
  · intro e he; show (if e = h.2.1 then q else ad e) = _; rw [if_neg (by omega)]; exact g10 e he
theorem vg_get : ∀ (fs : Vs) (k : Nat), vg fs k = fs[k]?
  | [], _ => rfl
  | _ :: _, 0 => rfl
  | _ :: l, k + 1 => by rw [List.getElem?_cons_succ]; exact vg_get l k
theorem vset_set : ∀ (fs : Vs) (k : Nat) (v : Value), vset fs k v = fs.set k v
  | [], _, _ => rfl
  | _ :: _, 0, _ => rfl
  | x :: l, k + 1, v => by simp only [vset, List.set_cons_succ]; rw [vset_set l k v]
/-- a heap with another cell -/
theorem gd_set {G : GG} {ad : Nat → Nat} {nL : Nat} {ls : Lo} {st r : Vs} {h : Hp} {A : Nat → Prop} {H0 H H1 : Heap} {locs locs1 : List Loc} {lsR : Array Slot} {c0 s0 p : Nat} {e : va_E} (g : Gd G ad nL ls st h A H0 H locs lsR c0 s0) (hr : ∀ v ∈ r, v ∈ st) (h1 : 64 ≤ p) (he : okE h.2.1 e)
    (hP : va_P (G.1, G.2.1) vwCl ((wl G.2.2.1 ad h).set (p - 64) (ad p, cE G.2.2.1 ad e)) H1) (hD : va_D A ((wl G.2.2.1 ad h).set (p - 64) (ad p, cE G.2.2.1 ad e))) (hS : va_S A H0 H1 locs1) :
    Gd G ad nL ls r (hset h p e) A H0 H1 locs1 lsR c0 s0 := by
  obtain ⟨g1, g2, g3, ⟨w1, w2, w3⟩, g5, g6, g7, g8, g9, g10⟩ := g
  have e1 := wl_set (tA := G.2.2.1) (ad := ad) (h := h) (e := e) h1
  refine ⟨by rw [e1]; exact hP, by rw [e1]; exact hD, hS, ⟨w1, ?_, ?_⟩, fun v hv => g5 v (hr v hv), g6, g7, g8, g9, g10⟩
  · intro q hq
    show (if q = p then e else h.1 q) = _
    rw [if_neg (by omega)]; exact w2 q hq
  · intro q hq hq2
    show okE h.2.1 (if q = p then e else h.1 q)
    by_cases hqe : q = p
    · rw [if_pos hqe]; exact he
    · rw [if_neg hqe]; exact w3 q hq hq2
/-- a place that holds an object, or an array of our own, is ours -/
theorem own_at {xc : Nat → va_E} {h : Hp} {p : Nat} (hx : xOk xc) (hw : wfh xc h) (hn : ∀ t n f, h.1 p = .inl (t, n, .inl f) → t ≠ 7 ∧ t ≠ 8 ∧ t ≠ 9 ∧ t ≠ 10) : 64 ≤ p := by
  rcases Nat.lt_or_ge p 64 with hp | hp
  · obtain ⟨t, n, f, he, ht⟩ := hx.1 p hp
    have := hn t n f (by rw [hw.2.1 p hp]; exact he)
    rcases ht with ht | ht | ht | ht
    · exact absurd ht this.1
    · exact absurd ht this.2.1
    · exact absurd ht this.2.2.1
    · exact absurd ht this.2.2.2
  · exact hp
end HEAP
