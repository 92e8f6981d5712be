/-! A small machine: a frame holds known values alone, a heap holds what this program makes, at places 64 and on (64 less: what was there before). A block is a list of steps and an end. -/
/-- cells by places, the next place, how many cells and slots were made -/
abbrev Hp : Type := (Nat → va_E) × Nat × Nat × Nat
abbrev Lo : Type := List (Option Value)
abbrev Vs : Type := List Value
/-- an answer: returned or thrown, and the heap -/
abbrev Rs : Type := (Option Value ⊕ String) × Hp
abbrev XF : Type := Lo → Vs → Hp → Option (Lo × Vs × Hp)
/-- what a block's end says: go on at a block; the method's answer; call a method (its number, arguments; then: block, locals, stack, heap; handlers: name, local, block) -/
abbrev TR : Type := Option ((Nat × Lo × Vs × Hp) ⊕ Rs ⊕ (Nat × Vs × Nat × Lo × Vs × Hp × Option (List (String × Nat × Nat))))
abbrev TF : Type := Lo → Vs → Hp → TR
abbrev Bk : Type := List XF × TF
def bk0 : Bk := ([], fun _ _ _ => none)
def hset (h : Hp) (p : Nat) (e : va_E) : Hp := (fun q => if q = p then e else h.1 q, h.2)
def hnew (h : Hp) (e : va_E) (n : Nat) : Hp := (fun q => if q = h.2.1 then e else h.1 q, h.2.1 + 1, h.2.2.1 + 1, h.2.2.2 + n)
def hexc (h : Hp) : Hp := (h.1, h.2.1, h.2.2.1 + 1, h.2.2.2 + 6)
def exL : List XF → XF
  | [], ls, st, h => some (ls, st, h)
  | f :: fs, ls, st, h => match f ls st h with
    | none => none
    | some (ls', st', h') => exL fs ls' st' h'
theorem exL_nil {ls : Lo} {st : Vs} {h : Hp} : exL [] ls st h = some (ls, st, h) := rfl
theorem exL_cons {f : XF} {fs : List XF} {ls : Lo} {st : Vs} {h : Hp} : exL (f :: fs) ls st h = match f ls st h with
    | none => none
    | some (ls', st', h') => exL fs ls' st' h' := rfl
/-- arguments as locals -/
def entA : Vs → Lo
  | [] => []
  | v :: vs => if v.category = 2 then some v :: none :: entA vs else some v :: entA vs
def entL (n : Nat) (vs : Vs) : Lo := entA vs ++ List.replicate (n - (entA vs).length) none
def hnd (E : String) : List (String × Nat × Nat) → Option (Nat × Nat)
  | [] => none
  | (n, i, b) :: r => if n = E then some (i, b) else hnd E r
section SEM
variable (mx : Nat → Nat) (blk : Nat → Nat → Bk)
/-- behind a call -/
def aft (R : Nat → Nat → Lo → Vs → Hp → Option Rs) (k b : Nat) (ls : Lo) (rest : Vs) (hs : Option (List (String × Nat × Nat))) : Option Rs → Option Rs
  | none => none
  | some (.inl v, h) => R k b ls (v.toList ++ rest) h
  | some (.inr E, h) => match hs with
    | none => none
    | some hs => match hnd E hs with
      | none => some (.inr E, h)
      | some (_, b') => R k b' (ls.map (fun _ => none)) [] h
/-- behind a block's end -/
def fin (mx : Nat → Nat) (R : Nat → Nat → Lo → Vs → Hp → Option Rs) (k : Nat) : TR → Option Rs
  | none => none
  | some (.inl (b, ls, st, h)) => R k b ls st h
  | some (.inr (.inl r)) => some r
  | some (.inr (.inr (m, as, b, ls, rest, h, hs))) => aft R k b ls rest hs (R m 0 (entL (mx m) as) [] h)
def stp (mx : Nat → Nat) (R : Nat → Nat → Lo → Vs → Hp → Option Rs) (k : Nat) (B : Bk) (ls : Lo) (st : Vs) (h : Hp) : Option Rs := match exL B.1 ls st h with
  | none => none
  | some (ls', st', h') => fin mx R k (B.2 ls' st' h')
def arun : Nat → Nat → Nat → Lo → Vs → Hp → Option Rs
  | 0, _, _, _, _, _ => none
  | f + 1, k, b, ls, st, h => stp mx (arun f) k (blk k b) ls st h
/-- R's answers are R's' too -/
def Sub (R R' : Nat → Nat → Lo → Vs → Hp → Option Rs) : Prop := ∀ k b ls st h r, R k b ls st h = some r → R' k b ls st h = some r
theorem aft_mono {R R' : Nat → Nat → Lo → Vs → Hp → Option Rs} (H : Sub R R') {k b : Nat} {ls : Lo} {rest : Vs} {hs : Option (List (String × Nat × Nat))} {q q' : Option Rs} (hq : ∀ r, q = some r → q' = some r) {r : Rs} (h : aft R k b ls rest hs q = some r) : aft R' k b ls rest hs q' = some r := by
  match q, hq, h with
  | none, _, h => cases h
  | some (.inl v, h1), hq, h => rw [hq _ rfl]; exact H _ _ _ _ _ _ h
  | some (.inr E, h1), hq, h =>
    rw [hq _ rfl]
    cases hs with
    | none => cases h
    | some hs =>
      simp only [aft] at h ⊢
      cases hn : hnd E hs with
      | none => rw [hn] at h; exact h
      | some q => rw [hn] at h; exact H _ _ _ _ _ _ h
theorem stp_mono {R R' : Nat → Nat → Lo → Vs → Hp → Option Rs} (H : Sub R R') {k : Nat} {B : Bk} {ls : Lo} {st : Vs} {h : Hp} {r : Rs} (hr : stp mx R k B ls st h = some r) : stp mx R' k B ls st h = some r := by
  unfold stp at hr ⊢
  cases he : exL B.1 ls st h with
  | none => rw [he] at hr; cases hr
  | some q =>
    obtain ⟨l1, s1, h1⟩ := q
    rw [he] at hr
    simp only at hr ⊢
    cases ht : B.2 l1 s1 h1 with
    | none => rw [ht] at hr; cases hr
    | some q =>
      rw [ht] at hr
      match q, hr with
      | .inl (b, l2, s2, h2), hr => exact H _ _ _ _ _ _ hr
      | .inr (.inl q), hr => exact hr
      | .inr (.inr (m, as, b, l2, s2, h2, hs)), hr => exact aft_mono H (fun r h => H _ _ _ _ _ _ h) hr
theorem arun_succ : ∀ f, Sub (arun mx blk f) (arun mx blk (f + 1)) := by
  intro f
  induction f with
  | zero => intro k b ls st h r hr; cases hr
  | succ f ih => intro k b ls st h r hr; exact stp_mono mx ih hr
theorem arun_le {f g : Nat} (h : f ≤ g) : Sub (arun mx blk f) (arun mx blk g) := by
  induction h with
  | refl => intro k b ls st h r hr; exact hr
  | step _ ih => intro k b ls st h r hr; exact arun_succ mx blk _ _ _ _ _ _ _ (ih _ _ _ _ _ _ hr)

noncomputable def run (k b : Nat) (ls : Lo) (st : Vs) (h : Hp) : Option Rs := @dite _ (∃ f r, arun mx blk f k b ls st h = some r) (Classical.propDecidable _) (fun H => some (Classical.choose (Classical.choose_spec H))) (fun _ => none)
theorem run_of {f k b : Nat} {ls : Lo} {st : Vs} {h : Hp} {r : Rs} (hr : arun mx blk f k b ls st h = some r) : run mx blk k b ls st h = some r := by
  have H : ∃ f r, arun mx blk f k b ls st h = some r := ⟨f, r, hr⟩
  unfold run
  rw [dif_pos H]
  have h1 := Classical.choose_spec (Classical.choose_spec H)
  have h2 := arun_le mx blk (Nat.le_max_left f (Classical.choose H)) _ _ _ _ _ _ hr
  have h3 := arun_le mx blk (Nat.le_max_right f (Classical.choose H)) _ _ _ _ _ _ h1
  rw [h2] at h3
  exact h3.symm
theorem run_to {k b : Nat} {ls : Lo} {st : Vs} {h : Hp} {r : Rs} (hr : run mx blk k b ls st h = some r) : ∃ f, arun mx blk f k b ls st h = some r := by
  unfold run at hr
  by_cases H : ∃ f r, arun mx blk f k b ls st h = some r
  · rw [dif_pos H] at hr
    have h1 := Classical.choose_spec (Classical.choose_spec H)
    cases hr
    exact ⟨_, h1⟩
  · rw [dif_neg H] at hr
    cases hr
theorem sub_run (f : Nat) : Sub (arun mx blk f) (run mx blk) := fun _ _ _ _ _ _ h => run_of mx blk h
/-- what the whole run answers, some depth answers -/
theorem stp_fin {k : Nat} {B : Bk} {ls : Lo} {st : Vs} {h : Hp} {r : Rs} (hr : stp mx (run mx blk) k B ls st h = some r) : ∃ f, stp mx (arun mx blk f) k B ls st h = some r := by
  unfold stp at hr ⊢
  cases he : exL B.1 ls st h with
  | none => rw [he] at hr; cases hr
  | some q =>
    obtain ⟨l1, s1, h1⟩ := q
    rw [he] at hr
    simp only at hr ⊢
    cases ht : B.2 l1 s1 h1 with
    | none => rw [ht] at hr; cases hr
    | some q =>
      rw [ht] at hr
      match q, hr with
      | .inl (b, l2, s2, h2), hr => exact run_to mx blk hr
      | .inr (.inl q), hr => exact ⟨0, hr⟩
      | .inr (.inr (m, as, b, l2, s2, h2, hs)), hr =>
        simp only [fin] at hr ⊢
        cases hc : run mx blk m 0 (entL (mx m) as) [] h2 with
        | none => rw [hc] at hr; cases hr
        | some q =>
          rw [hc] at hr
          obtain ⟨f1, hf1⟩ := run_to mx blk hc
          match q, hr, hf1 with
          | (.inl v, h3), hr, hf1 =>
            obtain ⟨f2, hf2⟩ := run_to mx blk (show run mx blk k b l2 (v.toList ++ s2) h3 = some r from hr)
            refine ⟨max f1 f2, ?_⟩
            rw [arun_le mx blk (Nat.le_max_left f1 f2) _ _ _ _ _ _ hf1]
            exact arun_le mx blk (Nat.le_max_right f1 f2) _ _ _ _ _ _ hf2
          | (.inr E, h3), hr, hf1 =>
            cases hs with
            | none => cases hr
            | some hs =>
            simp only [aft] at hr
            cases hn : hnd E hs with
            | none =>
              rw [hn] at hr
              refine ⟨f1, ?_⟩
              rw [hf1]
              simp only [aft, hn]
              exact hr
            | some q =>
              rw [hn] at hr
              obtain ⟨f2, hf2⟩ := run_to mx blk (show run mx blk k q.2 (l2.map (fun _ => none)) [] h3 = some r from hr)
              refine ⟨max f1 f2, ?_⟩
              rw [arun_le mx blk (Nat.le_max_left f1 f2) _ _ _ _ _ _ hf1]
              simp only [aft, hn]
              exact arun_le mx blk (Nat.le_max_right f1 f2) _ _ _ _ _ _ hf2
theorem run_eq (k b : Nat) (ls : Lo) (st : Vs) (h : Hp) : run mx blk k b ls st h = stp mx (run mx blk) k (blk k b) ls st h := by
  cases hr : stp mx (run mx blk) k (blk k b) ls st h with
  | some r =>
    obtain ⟨f, hf⟩ := stp_fin mx blk hr
    exact run_of mx blk (f := f + 1) hf
  | none =>
    cases hq : run mx blk k b ls st h with
    | none => rfl
    | some r =>
      obtain ⟨f, hf⟩ := run_to mx blk hq
      cases f with
      | zero => cases hf
      | succ f =>
        have h2 := stp_mono mx (sub_run mx blk f) (show stp mx (arun mx blk f) k (blk k b) ls st h = some r from hf)
        rw [hr] at h2
        cases h2
end SEM
