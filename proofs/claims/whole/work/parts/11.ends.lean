section ENDS
variable {mi : Nat → MI} {i : MI} {bp : Nat → Nat} {pc b c : Nat}
theorem t_go {off : Int} (hd : decode i.2.1 pc = .ok (.goto off, 3)) (ht : (pc : Int) + off = (bp b : Int)) : SimT mi i bp pc (tGo b) := by
  intro ls st h
  refine ⟨rfl, rfl, fun _ h => h, ?_⟩
  intro p l e R s m args below meth c H locs cells slots Q ad lsR hx hb K
  exact lv_goto hx hb hd ht K
/-- the next block begins here -/
theorem t_fall (ht : bp b = pc) : SimT mi i bp pc (tGo b) := by
  intro ls st h
  refine ⟨rfl, rfl, fun _ h => h, ?_⟩
  intro p l e R s m args below meth c H locs cells slots Q ad lsR hx hb K
  rw [ht] at K
  exact K
theorem t_if1 {P : Int32 → Prop}
    (hW : ∀ {p : Program} {l : Launch} {e : Env} {R : Room} {s : State} {m : MethodId} {args : Array Value} {below : List Frame} {meth : Method} {cd : Code} {H : Heap} {locs : List Loc} {cells slots : Nat} {Q : State → Prop} {lsR : Array Slot} {rest : Vs} {x : Int32}, p.tables.exec = Jvm.exec → cd.code = i.2.1 → (P x → W p l e R s m args below meth cd H locs cells slots Q (F0 m (bp b) lsR rest)) → (¬ P x → W p l e R s m args below meth cd H locs cells slots Q (F0 m (bp c) lsR rest)) → W p l e R s m args below meth cd H locs cells slots Q (F0 m pc lsR (.int x :: rest))) :
    SimT mi i bp pc (tIf1 P b c) := by
  intro ls st h
  unfold tIf1
  split
  · rename_i x r
    by_cases hP : P x
    · rw [if_pos hP]
      refine ⟨rfl, rfl, fun v hv => List.mem_cons_of_mem _ hv, ?_⟩
      intro p l e R s m args below meth c H locs cells slots Q ad lsR hx hb K
      exact hW hx hb (fun _ => K) (fun h => absurd hP h)
    · rw [if_neg hP]
      refine ⟨rfl, rfl, fun v hv => List.mem_cons_of_mem _ hv, ?_⟩
      intro p l e R s m args below meth c H locs cells slots Q ad lsR hx hb K
      exact hW hx hb (fun h => absurd h hP) (fun _ => K)
  · exact True.intro
theorem t_if2 {P : Int32 → Int32 → Prop}
    (hW : ∀ {p : Program} {l : Launch} {e : Env} {R : Room} {s : State} {m : MethodId} {args : Array Value} {below : List Frame} {meth : Method} {cd : Code} {H : Heap} {locs : List Loc} {cells slots : Nat} {Q : State → Prop} {lsR : Array Slot} {rest : Vs} {x y : Int32}, p.tables.exec = Jvm.exec → cd.code = i.2.1 → (P x y → W p l e R s m args below meth cd H locs cells slots Q (F0 m (bp b) lsR rest)) → (¬ P x y → W p l e R s m args below meth cd H locs cells slots Q (F0 m (bp c) lsR rest)) → W p l e R s m args below meth cd H locs cells slots Q (F0 m pc lsR (.int y :: .int x :: rest))) :
    SimT mi i bp pc (tIf2 P b c) := by
  intro ls st h
  unfold tIf2
  split
  · rename_i y x r
    by_cases hP : P x y
    · rw [if_pos hP]
      refine ⟨rfl, rfl, fun v hv => List.mem_cons_of_mem _ (List.mem_cons_of_mem _ hv), ?_⟩
      intro p l e R s m args below meth c H locs cells slots Q ad lsR hx hb K
      exact hW hx hb (fun _ => K) (fun h => absurd hP h)
    · rw [if_neg hP]
      refine ⟨rfl, rfl, fun v hv => List.mem_cons_of_mem _ (List.mem_cons_of_mem _ hv), ?_⟩
      intro p l e R s m args below meth c H locs cells slots Q ad lsR hx hb K
      exact hW hx hb (fun h => absurd h hP) (fun _ => K)
  · exact True.intro
theorem t_eq0 {off : Int} (hd : decode i.2.1 pc = .ok (.ifCond .eq off, 3)) (ht : (pc : Int) + off = (bp b : Int)) (hc : bp c = pc + 3) : SimT mi i bp pc (tEq0 b c) := t_if1 (fun hx hb kt kf => lv_if_eq hx hb hd ht kt (fun h => by rw [← hc]; exact kf h))
theorem t_ne0 {off : Int} (hd : decode i.2.1 pc = .ok (.ifCond .ne off, 3)) (ht : (pc : Int) + off = (bp b : Int)) (hc : bp c = pc + 3) : SimT mi i bp pc (tNe0 b c) := t_if1 (fun hx hb kt kf => lv_if_ne hx hb hd ht kt (fun h => by rw [← hc]; exact kf (fun g => g h)))
theorem t_lt0 {off : Int} (hd : decode i.2.1 pc = .ok (.ifCond .lt off, 3)) (ht : (pc : Int) + off = (bp b : Int)) (hc : bp c = pc + 3) : SimT mi i bp pc (tLt0 b c) := t_if1 (fun hx hb kt kf => lv_if_lt hx hb hd ht kt (fun h => by rw [← hc]; exact kf h))
theorem t_ge0 {off : Int} (hd : decode i.2.1 pc = .ok (.ifCond .ge off, 3)) (ht : (pc : Int) + off = (bp b : Int)) (hc : bp c = pc + 3) : SimT mi i bp pc (tGe0 b c) := t_if1 (fun hx hb kt kf => lv_if_ge hx hb hd ht kt (fun h => by rw [← hc]; exact kf h))
theorem t_gt0 {off : Int} (hd : decode i.2.1 pc = .ok (.ifCond .gt off, 3)) (ht : (pc : Int) + off = (bp b : Int)) (hc : bp c = pc + 3) : SimT mi i bp pc (tGt0 b c) := t_if1 (fun hx hb kt kf => lv_if_gt hx hb hd ht kt (fun h => by rw [← hc]; exact kf h))
theorem t_le0 {off : Int} (hd : decode i.2.1 pc = .ok (.ifCond .le off, 3)) (ht : (pc : Int) + off = (bp b : Int)) (hc : bp c = pc + 3) : SimT mi i bp pc (tLe0 b c) := t_if1 (fun hx hb kt kf => lv_if_le hx hb hd ht kt (fun h => by rw [← hc]; exact kf h))
theorem t_eq {off : Int} (hd : decode i.2.1 pc = .ok (.if_icmp .eq off, 3)) (ht : (pc : Int) + off = (bp b : Int)) (hc : bp c = pc + 3) : SimT mi i bp pc (tEq b c) := t_if2 (fun hx hb kt kf => lv_icmp_eq hx hb hd ht kt (fun h => by rw [← hc]; exact kf h))
theorem t_nei {off : Int} (hd : decode i.2.1 pc = .ok (.if_icmp .ne off, 3)) (ht : (pc : Int) + off = (bp b : Int)) (hc : bp c = pc + 3) : SimT mi i bp pc (tNe b c) := t_if2 (fun hx hb kt kf => lv_icmp_ne hx hb hd ht kt (fun h => by rw [← hc]; exact kf (fun g => g h)))
theorem t_lt {off : Int} (hd : decode i.2.1 pc = .ok (.if_icmp .lt off, 3)) (ht : (pc : Int) + off = (bp b : Int)) (hc : bp c = pc + 3) : SimT mi i bp pc (tLt b c) := t_if2 (fun hx hb kt kf => lv_icmp_lt hx hb hd ht kt (fun h => by rw [← hc]; exact kf h))
theorem t_ge {off : Int} (hd : decode i.2.1 pc = .ok (.if_icmp .ge off, 3)) (ht : (pc : Int) + off = (bp b : Int)) (hc : bp c = pc + 3) : SimT mi i bp pc (tGe b c) := t_if2 (fun hx hb kt kf => lv_icmp_ge hx hb hd ht kt (fun h => by rw [← hc]; exact kf h))
theorem t_gt {off : Int} (hd : decode i.2.1 pc = .ok (.if_icmp .gt off, 3)) (ht : (pc : Int) + off = (bp b : Int)) (hc : bp c = pc + 3) : SimT mi i bp pc (tGt b c) := t_if2 (fun hx hb kt kf => lv_icmp_gt hx hb hd ht kt (fun h => by rw [← hc]; exact kf h))
theorem t_le {off : Int} (hd : decode i.2.1 pc = .ok (.if_icmp .le off, 3)) (ht : (pc : Int) + off = (bp b : Int)) (hc : bp c = pc + 3) : SimT mi i bp pc (tLe b c) := t_if2 (fun hx hb kt kf => lv_icmp_le hx hb hd ht kt (fun h => by rw [← hc]; exact kf h))
theorem t_null {off : Int} (hd : decode i.2.1 pc = .ok (.ifnull off, 3)) (ht : (pc : Int) + off = (bp b : Int)) (hc : bp c = pc + 3) : SimT mi i bp pc (tNul b c) := by
  intro ls st h
  unfold tNul
  split
  · refine ⟨rfl, rfl, fun v hv => List.mem_cons_of_mem _ hv, ?_⟩
    intro p l e R s m args below meth c H locs cells slots Q ad lsR hx hb K
    exact lv_ifnullN hx hb hd ht K
  · refine ⟨rfl, rfl, fun v hv => List.mem_cons_of_mem _ hv, ?_⟩
    intro p l e R s m args below meth c H locs cells slots Q ad lsR hx hb K
    rw [hc] at K
    exact lv_ifnull hx hb hd K
  · exact True.intro
theorem t_nonnull {off : Int} (hd : decode i.2.1 pc = .ok (.ifnonnull off, 3)) (ht : (pc : Int) + off = (bp c : Int)) (hc : bp b = pc + 3) : SimT mi i bp pc (tNul b c) := by
  intro ls st h
  unfold tNul
  split
  · refine ⟨rfl, rfl, fun v hv => List.mem_cons_of_mem _ hv, ?_⟩
    intro p l e R s m args below meth c H locs cells slots Q ad lsR hx hb K
    rw [hc] at K
    exact lv_ifnonnullN hx hb hd K
  · refine ⟨rfl, rfl, fun v hv => List.mem_cons_of_mem _ hv, ?_⟩
    intro p l e R s m args below meth c H locs cells slots Q ad lsR hx hb K
    exact lv_ifnonnull hx hb hd ht K
  · exact True.intro
/-- switches: what each number comes to -/
theorem tsw_ok {ls : Lo} {r st : Vs} {h : Hp} {x : Int32} {d : Nat} (hst : st = .int x :: r) : ∀ (l : List (Int32 × Nat)),
    ((∀ q ∈ l, x ≠ q.1) → ∀ {p : Program} {l : Launch} {e : Env} {R : Room} {s : State} {m : MethodId} {args : Array Value} {below : List Frame} {meth : Method} {cd : Code} {H : Heap} {locs : List Loc} {cells slots : Nat} {Q : State → Prop} {lsR : Array Slot} {rest : Vs}, p.tables.exec = Jvm.exec → cd.code = i.2.1 → W p l e R s m args below meth cd H locs cells slots Q (F0 m (bp d) lsR rest) → W p l e R s m args below meth cd H locs cells slots Q (F0 m pc lsR (.int x :: rest))) →
    (∀ q ∈ l, x = q.1 → ∀ {p : Program} {l : Launch} {e : Env} {R : Room} {s : State} {m : MethodId} {args : Array Value} {below : List Frame} {meth : Method} {cd : Code} {H : Heap} {locs : List Loc} {cells slots : Nat} {Q : State → Prop} {lsR : Array Slot} {rest : Vs}, p.tables.exec = Jvm.exec → cd.code = i.2.1 → W p l e R s m args below meth cd H locs cells slots Q (F0 m (bp q.2) lsR rest) → W p l e R s m args below meth cd H locs cells slots Q (F0 m pc lsR (.int x :: rest))) →
    TRok mi i bp pc ls st h (tsw ls r h x d l) := by
  intro l
  induction l with
  | nil =>
    intro h1 _
    subst hst
    refine ⟨rfl, rfl, fun v hv => List.mem_cons_of_mem _ hv, ?_⟩
    intro p l e R s m args below meth c H locs cells slots Q ad lsR hx hb K
    exact h1 (fun q hq => absurd hq List.not_mem_nil) hx hb K
  | cons q l ih =>
    intro h1 h2
    obtain ⟨v, b⟩ := q
    unfold tsw
    by_cases hv : x = v
    · rw [if_pos hv]
      subst hst
      refine ⟨rfl, rfl, fun v hv => List.mem_cons_of_mem _ hv, ?_⟩
      intro p l e R s m args below meth c H locs cells slots Q ad lsR hx hb K
      exact h2 (v, b) List.mem_cons_self hv hx hb K
    · rw [if_neg hv]
      refine ih (fun hq => h1 (fun q hq' => ?_)) (fun q hq => h2 q (List.mem_cons_of_mem _ hq))
      rcases List.mem_cons.mp hq' with rfl | hq'
      · exact hv
      · exact hq q hq'
/-- the numbers from lo on, side by side -/
def swl (lo : Int) (offs : List Int) (pc : Nat) (bs : List Nat) (bp : Nat → Nat) : Prop := offs.length = bs.length ∧ ∀ j, j < offs.length → ∃ o b, offs[j]? = some o ∧ bs[j]? = some b ∧ (pc : Int) + o = (bp b : Int)
theorem t_table {lo hi dflt : Int} {offs : Array Int} {len d : Nat} {l : List (Int32 × Nat)} (hd : decode i.2.1 pc = .ok (.tableswitch dflt lo hi offs, len)) (h1 : (pc : Int) + dflt = (bp d : Int)) (hn : hi - lo + 1 = (l.length : Int)) (hlo : -1000 ≤ lo ∧ hi ≤ 1000)
    (hl : (List.range l.length).all (fun j => match l[j]?, offs[j]? with | some q, some o => decide (q.1.toInt = lo + (j : Int)) && decide ((pc : Int) + o = (bp q.2 : Int)) | _, _ => false) = true) : SimT mi i bp pc (tSw d l) := by
  have hat : ∀ j, j < l.length → ∃ q o, l[j]? = some q ∧ offs[j]? = some o ∧ q.1.toInt = lo + (j : Int) ∧ (pc : Int) + o = (bp q.2 : Int) := by
    intro j hj
    have h2 := List.all_eq_true.mp hl j (List.mem_range.mpr hj)
    cases hq : l[j]? with
    | none => rw [hq] at h2; cases h2
    | some q =>
      cases ho : offs[j]? with
      | none => rw [hq, ho] at h2; cases h2
      | some o =>
        rw [hq, ho] at h2
        simp only [Bool.and_eq_true, decide_eq_true_eq] at h2
        exact ⟨q, o, rfl, rfl, h2.1, h2.2⟩
  intro ls st h
  unfold tSw
  split
  · rename_i x r
    refine tsw_ok rfl l ?_ ?_
    · intro hno p l' e R s m args below meth c H locs cells slots Q lsR rest hx hb K
      refine lv_tableOut hx hb hd ?_ h1 K
      rcases Int.lt_or_le x.toInt lo with h2 | h2
      · exact Or.inl h2
      · rcases Int.lt_or_le hi x.toInt with h3 | h3
        · exact Or.inr h3
        · obtain ⟨q, o, e1, -, e3, -⟩ := hat (x.toInt - lo).toNat (by omega)
          exact absurd (Int32.toInt_inj.mp (by rw [e3]; omega)) (hno q (List.mem_of_getElem? e1))
    · intro q hq hxq p l' e R s m args below meth c H locs cells slots Q lsR rest hx hb K
      obtain ⟨j, hj⟩ := List.getElem?_of_mem hq
      have hjl : j < l.length := (List.getElem?_eq_some_iff.mp hj).1
      obtain ⟨q', o, e1, e2, e3, e4⟩ := hat j hjl
      cases hj.symm.trans e1
      have hxi : x.toInt = lo + (j : Int) := by rw [hxq]; exact e3
      exact lv_tableIn hx hb hd (by omega) (by omega) (by rw [show (x.toInt - lo).toNat = j by omega]; exact e2) e4 K
  · exact True.intro
theorem t_bad : SimT mi i bp pc tBad := fun _ _ _ => True.intro
/-- a switch over two numbers -/
theorem t_lookup2 {a b : Int32} {o1 o2 dflt : Int} {b1 b2 d len : Nat} (hd : decode i.2.1 pc = .ok (.lookupswitch dflt #[(a.toInt, o1), (b.toInt, o2)], len)) (hab : a.toInt < b.toInt) (h1 : (pc : Int) + o1 = (bp b1 : Int)) (h2 : (pc : Int) + o2 = (bp b2 : Int)) (h3 : (pc : Int) + dflt = (bp d : Int)) : SimT mi i bp pc (tSw d [(a, b1), (b, b2)]) := by
  have hp : ((#[(a.toInt, o1), (b.toInt, o2)] : Array (Int × Int)).toList.zip ((#[(a.toInt, o1), (b.toInt, o2)] : Array (Int × Int)).toList.drop 1)).all (fun (a, next) => a.1 < next.1) = true := by
    simp [hab]
  intro ls st h
  unfold tSw
  split
  · rename_i x r
    refine tsw_ok rfl _ ?_ ?_
    · intro hno p l' e R s m args below meth c H locs cells slots Q lsR rest hx hb K
      refine lv_lookup hx hb hd hp (off := dflt) ?_ h3 K
      have n1 : ¬ a.toInt = x.toInt := fun e => hno (a, b1) (by simp) (Int32.toInt_inj.mp e.symm)
      have n2 : ¬ b.toInt = x.toInt := fun e => hno (b, b2) (by simp) (Int32.toInt_inj.mp e.symm)
      simp [Op.lookupswitch.offset, n1, n2]
    · intro q hq hxq p l' e R s m args below meth c H locs cells slots Q lsR rest hx hb K
      rcases List.mem_cons.mp hq with rfl | hq
      · refine lv_lookup hx hb hd hp (off := o1) ?_ h1 K
        simp [Op.lookupswitch.offset, hxq]
      · rcases List.mem_cons.mp hq with rfl | hq
        · refine lv_lookup hx hb hd hp (off := o2) ?_ h2 K
          have hxq' : x = b := hxq
          subst hxq'
          have n1 : ¬ a.toInt = x.toInt := by omega
          simp [Op.lookupswitch.offset, n1]
        · cases hq
  · exact True.intro
theorem t_ret (hd : decode i.2.1 pc = .ok (.ireturn, 1)) (hr : i.2.2.2.2.1 = some .int) : SimT mi i bp pc tRet := by
  intro ls st h
  unfold tRet
  split
  · exact ⟨rfl, rfl, hd, by rw [hr]; exact True.intro⟩
  · exact True.intro
theorem t_retZ (hd : decode i.2.1 pc = .ok (.ireturn, 1)) (hr : i.2.2.2.2.1 = some .boolean) : SimT mi i bp pc tRetZ := by
  intro ls st h
  unfold tRetZ
  split
  · split
    · rename_i h1
      exact ⟨rfl, rfl, hd, by rw [hr]; exact h1⟩
    · exact True.intro
  · exact True.intro
theorem t_retY (hd : decode i.2.1 pc = .ok (.ireturn, 1)) (hr : i.2.2.2.2.1 = some .byte) : SimT mi i bp pc tRetY := by
  intro ls st h
  unfold tRetY
  split
  · split
    · rename_i h1
      subst h1
      exact ⟨rfl, rfl, hd, by rw [hr]; show narrow .byte (.int 0) = .int 0; decide⟩
    · exact True.intro
  · exact True.intro
theorem t_retC (hd : decode i.2.1 pc = .ok (.ireturn, 1)) (hr : i.2.2.2.2.1 = some .char) : SimT mi i bp pc tRetC := by
  intro ls st h
  unfold tRetC
  split
  · split
    · rename_i x h1
      refine ⟨rfl, rfl, hd, ?_⟩
      rw [hr]
      have h2 := pk_nc x
      rw [h1] at h2
      exact h2
    · exact True.intro
  · exact True.intro
theorem t_retL (hd : decode i.2.1 pc = .ok (.lreturn, 1)) (hr : i.2.2.2.2.1 = some .long) : SimT mi i bp pc tRetL := by
  intro ls st h
  unfold tRetL
  split
  · exact ⟨rfl, rfl, hd, by rw [hr]; exact True.intro⟩
  · exact True.intro
theorem t_retD (hd : decode i.2.1 pc = .ok (.dreturn, 1)) (hr : i.2.2.2.2.1 = some .double) : SimT mi i bp pc tRetD := by
  intro ls st h
  unfold tRetD
  split
  · exact ⟨rfl, rfl, hd, by rw [hr]; exact True.intro⟩
  · exact True.intro
theorem t_retA {C : String} (hd : decode i.2.1 pc = .ok (.areturn, 1)) (hr : i.2.2.2.2.1 = some (.object C)) : SimT mi i bp pc tRetA := by
  intro ls st h
  unfold tRetA
  split
  · exact ⟨rfl, rfl, hd, by rw [hr]; exact True.intro⟩
  · exact True.intro
theorem t_retV (hd : decode i.2.1 pc = .ok (.return_, 1)) (hr : i.2.2.2.2.1 = none) : SimT mi i bp pc tRetV := by
  intro ls st h
  unfold tRetV
  split
  · exact ⟨rfl, rfl, hd, by rw [hr]; exact True.intro⟩
  · exact True.intro
theorem t_thr {E : String} (h1 : ThrOK i pc E) : SimT mi i bp pc (tThr E) := by
  intro ls st h
  unfold tThr
  split
  · exact ⟨rfl, rfl, h1⟩
  · exact True.intro
end ENDS
/- calls -/
section CALLS
variable {i j : MI} {pc n : Nat}
/-- what any call asks of the callee's words -/
theorem call_ws {s : State} (hw : Wd s) (hm : MOK j) : (j.2.2.2.2.2.2 = [] → (∀ w ∈ [cwd j], ∀ (a' : Array Value) (U : State), s.WarmedH U.vm → w.before a' U = true)) ∧ (j.2.2.2.2.2.2 ≠ [] → (∀ w ∈ [cwh j], ∀ (a' : Array Value) (U : State), s.WarmedH U.vm → w.before a' U = true)) := by
  refine ⟨fun hh w h => ?_, fun hh w h => ?_⟩
  · rw [List.mem_singleton.mp h]; exact wd_at hw (hm.1 hh) rfl
  · rw [List.mem_singleton.mp h]; exact wd_at hw (hm.2.1 hh).1 rfl
/-- frames and locals of a callee fit -/
def Fits (i j : MI) : Prop := j.2.2.2.2.2.1.1 + 1 ≤ i.2.2.2.2.2.1.1 ∧ 8 + (j.2.2.1 + 11) + j.2.2.2.2.2.1.2 ≤ i.2.2.2.2.2.1.2
def Npar (j : MI) (n : Nat) : Prop := j.2.2.2.1.cls ≠ "java/lang/invoke/MethodHandle" ∧ j.2.2.2.1.cls ≠ "java/lang/invoke/VarHandle" ∧ (parseMethodDescriptor j.2.2.2.1.desc).map (fun d => d.parameters.length) = some n
theorem npar_len (h : Npar j n) : ∀ sig, parseMethodDescriptor j.2.2.2.1.desc = some sig → n = sig.parameters.length := by
  intro sig hs
  have h2 := h.2.2
  rw [hs] at h2
  exact (Option.some.inj h2).symm
/-- an ordinary method of a class of the list, by its receiver -/
theorem call_V {idx ci N : Nat} {C : String} {T : u_T} {q : Nat} {fs As rest : Vs} {h : Hp} (hd : decode i.2.1 pc = .ok (.invokevirtual idx, 3)) (hm : MOK j) (hh : j.2.2.2.2.2.2 = []) (hf : Fits i j) (hn : Npar j n) (hcl : vwCl[ci]? = some (C, T, N)) (hC : j.2.2.2.1.cls = C)
    (hw1 : Cond.methodLink i.1 idx j.2.2.2.1 ∈ lw_tbl) (hw2 : Cond.instanceMethod j.2.2.2.1 ∈ lw_tbl) (hw3 : Cond.selects C j.2.2.2.1 j.2.2.2.1 ∈ lw_tbl) (hp : h.1 q = .inr (ci, fs)) (hA : As.length = n) (hr : catS rest ≤ 8) (hsel : kwOK (Cond.selects C j.2.2.2.1 j.2.2.2.1) = true) :
    CallOK i pc j True (.ref q :: As) (As.reverse ++ .ref q :: rest) rest h := by
  intro G p l e R s m args below meth c A Cx0 hR ad H locs lsR cells slots mc ms Pc free hP hwf hok hsz hSS hEE hbl hpc hc hs
  have hq64 := obj_own Cx0.2.2.2.2.2.2.2.2.2.2.2 hwf hp
  have hat := wl_at (tA := G.2.2.1) (ad := ad) hq64 (hok (.ref q) (by simp) _ rfl)
  rw [hp] at hat
  have hrec := va_recv Cx0.2.2.2.2.2.1 hP hcl hat
  have hws := (call_ws Cx0.2.2.2.2.1 hm).1 hh
  have hcb : CallB R s args i.1 idx j.2.2.2.1 j.2.1 j.2.2.1 j.2.2.2.2.1 [cwd j] (rmOf j mc ms) mc ms n :=
    ⟨rfl, rfl, Nat.le_trans hf.1 hR.1, Nat.le_trans hf.2 hR.2, hws, List.mem_singleton.mpr rfl, Cx0.2.2.2.2.1 _ (hm.1 hh) rfl _, Cx0.2.2.2.2.1 _ hm.2.2.1 rfl _, ⟨hn.1, hn.2.1⟩, npar_len hn, Cx0.2.2.2.2.1 _ hw1 rfl _⟩
  have hcw : CallW R s args i.1 C idx j.2.2.2.1 j.2.1 j.2.2.1 j.2.2.2.2.1 [cwd j] (rmOf j mc ms) mc ms n := ⟨hcb, Cx0.2.2.2.2.1 _ hw2 rfl _, Cx0.2.2.2.2.1 _ hw3 hsel _⟩
  have hst : (F0 m pc lsR ((As.reverse ++ .ref q :: rest).map (cv ad))).stack = (As.map (cv ad)).reverse ++ .ref (ad q) :: rest.map (cv ad) := by
    show (As.reverse ++ .ref q :: rest).map (cv ad) = _
    rw [List.map_append, List.map_reverse]
    rfl
  have hfix : CallFix p m c i.2.1 i.2.2.1 s args [] i.1 := ⟨Cx0.1, Cx0.2.1, Cx0.2.2.1, Cx0.2.2.2.1, fun w hw => absurd hw List.not_mem_nil⟩
  refine ⟨fun Qc hM => ?_, fun _ XC hM => ?_⟩
  · exact va_runV (As := As.map (cv ad)) hfix (hM.1 hh) hcw ⟨hbl, hrec, hpc⟩ rfl (by rw [List.length_map]; exact hA) hsz hst (cat_le hr) hd ⟨hc, hs⟩
  · exact vx_runV (As := As.map (cv ad)) hfix hM hcw ⟨hbl, hrec, hpc⟩ rfl (by rw [List.length_map]; exact hA) hsz hst (cat_le hr) hd ⟨hc, hs⟩
/-- a static method -/
theorem call_S {idx : Nat} {As rest : Vs} {h : Hp} (hd : decode i.2.1 pc = .ok (.invokestatic idx, 3)) (hm : MOK j) (hh : j.2.2.2.2.2.2 = []) (hf : Fits i j) (hn : Npar j n)
    (hw1 : Cond.methodLink i.1 idx j.2.2.2.1 ∈ lw_tbl) (hw2 : Cond.static j.2.2.2.1 ∈ lw_tbl) (hA : As.length = n) (hr : catS rest ≤ 8) :
    CallOK i pc j False As (As.reverse ++ rest) rest h := by
  intro G p l e R s m args below meth c A Cx0 hR ad H locs lsR cells slots mc ms Pc free hP hwf hok hsz hSS hEE hbl hpc hc hs
  have hws := (call_ws Cx0.2.2.2.2.1 hm).1 hh
  have hcb : CallB R s args i.1 idx j.2.2.2.1 j.2.1 j.2.2.1 j.2.2.2.2.1 [cwd j] (rmOf j mc ms) mc ms n :=
    ⟨rfl, rfl, Nat.le_trans hf.1 hR.1, Nat.le_trans hf.2 hR.2, hws, List.mem_singleton.mpr rfl, Cx0.2.2.2.2.1 _ (hm.1 hh) rfl _, Cx0.2.2.2.2.1 _ hm.2.2.1 rfl _, ⟨hn.1, hn.2.1⟩, npar_len hn, Cx0.2.2.2.2.1 _ hw1 rfl _⟩
  have hst : (F0 m pc lsR ((As.reverse ++ rest).map (cv ad))).stack = (As.map (cv ad)).reverse ++ rest.map (cv ad) := by
    show (As.reverse ++ rest).map (cv ad) = _
    rw [List.map_append, List.map_reverse]
  have hfix : CallFix p m c i.2.1 i.2.2.1 s args [] i.1 := ⟨Cx0.1, Cx0.2.1, Cx0.2.2.1, Cx0.2.2.2.1, fun w hw => absurd hw List.not_mem_nil⟩
  refine ⟨fun Qc hM => ?_, fun h => h.elim⟩
  exact va_runS (As := As.map (cv ad)) hfix (hM.1 hh) ⟨hcb, Cx0.2.2.2.2.1 _ hw2 rfl _⟩ ⟨hbl, hpc⟩ rfl (by rw [List.length_map]; exact hA) hsz hst (cat_le hr) hd ⟨hc, hs⟩
/-- a static method with handlers -/
theorem call_SX {idx : Nat} {As rest : Vs} {h : Hp} (hd : decode i.2.1 pc = .ok (.invokestatic idx, 3)) (hm : MOK j) (hh : j.2.2.2.2.2.2 ≠ []) (hf : Fits i j) (hn : Npar j n)
    (hw1 : Cond.methodLink i.1 idx j.2.2.2.1 ∈ lw_tbl) (hw2 : Cond.static j.2.2.2.1 ∈ lw_tbl) (hA : As.length = n) (hr : catS rest ≤ 8) :
    CallOK i pc j False As (As.reverse ++ rest) rest h := by
  intro G p l e R s m args below meth c A Cx0 hR ad H locs lsR cells slots mc ms Pc free hP hwf hok hsz hSS hEE hbl hpc hc hs
  have hws := (call_ws Cx0.2.2.2.2.1 hm).2 hh
  have hcb : vx_CSW R s args i.1 idx j.2.2.2.1 j.2.1 j.2.2.1 j.2.2.2.2.1 j.2.2.2.2.2.2 [cwh j] (rmOf j mc ms) mc ms n :=
    ⟨⟨rfl, rfl, Nat.le_trans hf.1 hR.1, Nat.le_trans hf.2 hR.2, hws, List.mem_singleton.mpr rfl⟩, Cx0.2.2.2.2.1 _ (hm.2.1 hh).1 rfl _, Cx0.2.2.2.2.1 _ hm.2.2.1 rfl _, ⟨hn.1, hn.2.1⟩, npar_len hn, Cx0.2.2.2.2.1 _ hw1 rfl _, Cx0.2.2.2.2.1 _ hw2 rfl _⟩
  have hst : (F0 m pc lsR ((As.reverse ++ rest).map (cv ad))).stack = (As.map (cv ad)).reverse ++ rest.map (cv ad) := by
    show (As.reverse ++ rest).map (cv ad) = _
    rw [List.map_append, List.map_reverse]
  have hfix : CallFix p m c i.2.1 i.2.2.1 s args [] i.1 := ⟨Cx0.1, Cx0.2.1, Cx0.2.2.1, Cx0.2.2.2.1, fun w hw => absurd hw List.not_mem_nil⟩
  refine ⟨fun Qc hM => ?_, fun h => h.elim⟩
  have hrun := vx_runSX (As := As.map (cv ad)) (cells := cells) (slots := slots) hfix (hM.2 hh) hcb ⟨hbl, hpc⟩ rfl (by rw [List.length_map]; exact hA) hsz hst (cat_le hr) hd ⟨hc, hs⟩ (l := l) (e := e) (R := R) (below := below) (meth := meth) (H := H) (locs := locs)
  intro T hT X
  rcases hrun T hT X with h1 | ⟨q, st₀, t, T', L, E, ce, h0, X', hL, e1, e2, hX, -⟩
  · exact h1
  · exact hX.elim
/-- a constructor -/
theorem call_I {idx : Nat} {q : Nat} {As rest : Vs} {h : Hp} (hd : decode i.2.1 pc = .ok (.invokespecial idx, 3)) (hm : MOK j) (hh : j.2.2.2.2.2.2 = []) (hf : Fits i j) (hn : Npar j n) (hin : j.2.2.2.1.name = "<init>") (hret : j.2.2.2.2.1 = none)
    (hw1 : Cond.methodLink i.1 idx j.2.2.2.1 ∈ lw_tbl) (hw2 : Cond.instanceMethod j.2.2.2.1 ∈ lw_tbl) (hA : As.length = n) (hr : catS rest ≤ 8) :
    CallOK i pc j False (.ref q :: As) (As.reverse ++ .ref q :: rest) rest h := by
  intro G p l e R s m args below meth c A Cx0 hR ad H locs lsR cells slots mc ms Pc free hP hwf hok hsz hSS hEE hbl hpc hc hs
  have hws := (call_ws Cx0.2.2.2.2.1 hm).1 hh
  have hcw : cwd j = .code j.2.2.2.1 j.2.1 j.2.2.1 none := by unfold cwd; rw [hret]
  have hcb : CallB R s args i.1 idx j.2.2.2.1 j.2.1 j.2.2.1 none [cwd j] (rmOf j mc ms) mc ms n :=
    ⟨rfl, rfl, Nat.le_trans hf.1 hR.1, Nat.le_trans hf.2 hR.2, hws, by rw [hcw]; exact List.mem_singleton.mpr rfl, by rw [← hcw]; exact Cx0.2.2.2.2.1 _ (hm.1 hh) rfl _, Cx0.2.2.2.2.1 _ hm.2.2.1 rfl _, ⟨hn.1, hn.2.1⟩, npar_len hn, Cx0.2.2.2.2.1 _ hw1 rfl _⟩
  have hst : (F0 m pc lsR ((As.reverse ++ .ref q :: rest).map (cv ad))).stack = (As.map (cv ad)).reverse ++ .ref (ad q) :: rest.map (cv ad) := by
    show (As.reverse ++ .ref q :: rest).map (cv ad) = _
    rw [List.map_append, List.map_reverse]
    rfl
  have hfix : CallFix p m c i.2.1 i.2.2.1 s args [] i.1 := ⟨Cx0.1, Cx0.2.1, Cx0.2.2.1, Cx0.2.2.2.1, fun w hw => absurd hw List.not_mem_nil⟩
  refine ⟨fun Qc hM => ?_, fun h => h.elim⟩
  exact va_runI (As := As.map (cv ad)) hfix (hM.1 hh) ⟨hcb, hin, Cx0.2.2.2.2.1 _ hw2 rfl _⟩ ⟨hbl, hpc⟩ rfl (by rw [List.length_map]; exact hA) hsz hst (cat_le hr) hd ⟨hc, hs⟩
/-- a nest mate's static method -/
theorem call_SN {idx : Nat} {host : String} {As rest : Vs} {h : Hp} (hd : decode i.2.1 pc = .ok (.invokestatic idx, 3)) (hm : MOK j) (hh : j.2.2.2.2.2.2 = []) (hf : Fits i j) (hn : Npar j n)
    (hw1 : Cond.methodLinkNest i.1 idx j.2.2.2.1 host ∈ lw_tbl) (hw2 : Cond.static j.2.2.2.1 ∈ lw_tbl) (hA : As.length = n) (hr : catS rest ≤ 8) :
    CallOK i pc j False As (As.reverse ++ rest) rest h := by
  intro G p l e R s m args below meth c A Cx0 hR ad H locs lsR cells slots mc ms Pc free hP hwf hok hsz hSS hEE hbl hpc hc hs
  have hws := (call_ws Cx0.2.2.2.2.1 hm).1 hh
  have hcb : va_CN R s args i.1 idx j.2.2.2.1 host j.2.1 j.2.2.1 j.2.2.2.2.1 [cwd j] (rmOf j mc ms) mc ms n :=
    ⟨⟨rfl, rfl, Nat.le_trans hf.1 hR.1, Nat.le_trans hf.2 hR.2, hws, List.mem_singleton.mpr rfl⟩, Cx0.2.2.2.2.1 _ (hm.1 hh) rfl _, Cx0.2.2.2.2.1 _ hm.2.2.1 rfl _, ⟨hn.1, hn.2.1⟩, npar_len hn, Cx0.2.2.2.2.1 _ hw1 (by unfold kwOK; simp) _⟩
  have hst : (F0 m pc lsR ((As.reverse ++ rest).map (cv ad))).stack = (As.map (cv ad)).reverse ++ rest.map (cv ad) := by
    show (As.reverse ++ rest).map (cv ad) = _
    rw [List.map_append, List.map_reverse]
  have hfix : CallFix p m c i.2.1 i.2.2.1 s args [] i.1 := ⟨Cx0.1, Cx0.2.1, Cx0.2.2.1, Cx0.2.2.2.1, fun w hw => absurd hw List.not_mem_nil⟩
  refine ⟨fun Qc hM => ?_, fun h => h.elim⟩
  exact va_runSN (As := As.map (cv ad)) hfix (hM.1 hh) ⟨hcb, Cx0.2.2.2.2.1 _ hw2 rfl _, True.intro⟩ ⟨hbl, hpc⟩ rfl (by rw [List.length_map]; exact hA) hsz hst (cat_le hr) hd ⟨hc, hs⟩
/-- a nest mate's constructor -/
theorem call_IN {idx : Nat} {host : String} {q : Nat} {As rest : Vs} {h : Hp} (hd : decode i.2.1 pc = .ok (.invokespecial idx, 3)) (hm : MOK j) (hh : j.2.2.2.2.2.2 = []) (hf : Fits i j) (hn : Npar j n) (hin : j.2.2.2.1.name = "<init>") (hret : j.2.2.2.2.1 = none)
    (hw1 : Cond.methodLinkNest i.1 idx j.2.2.2.1 host ∈ lw_tbl) (hw2 : Cond.instanceMethod j.2.2.2.1 ∈ lw_tbl) (hA : As.length = n) (hr : catS rest ≤ 8) :
    CallOK i pc j False (.ref q :: As) (As.reverse ++ .ref q :: rest) rest h := by
  intro G p l e R s m args below meth c A Cx0 hR ad H locs lsR cells slots mc ms Pc free hP hwf hok hsz hSS hEE hbl hpc hc hs
  have hws := (call_ws Cx0.2.2.2.2.1 hm).1 hh
  have hcw : cwd j = .code j.2.2.2.1 j.2.1 j.2.2.1 none := by unfold cwd; rw [hret]
  have hcb : va_CN R s args i.1 idx j.2.2.2.1 host j.2.1 j.2.2.1 none [cwd j] (rmOf j mc ms) mc ms n :=
    ⟨⟨rfl, rfl, Nat.le_trans hf.1 hR.1, Nat.le_trans hf.2 hR.2, hws, by rw [hcw]; exact List.mem_singleton.mpr rfl⟩, by rw [← hcw]; exact Cx0.2.2.2.2.1 _ (hm.1 hh) rfl _, Cx0.2.2.2.2.1 _ hm.2.2.1 rfl _, ⟨hn.1, hn.2.1⟩, npar_len hn, Cx0.2.2.2.2.1 _ hw1 (by unfold kwOK; simp) _⟩
  have hst : (F0 m pc lsR ((As.reverse ++ .ref q :: rest).map (cv ad))).stack = (As.map (cv ad)).reverse ++ .ref (ad q) :: rest.map (cv ad) := by
    show (As.reverse ++ .ref q :: rest).map (cv ad) = _
    rw [List.map_append, List.map_reverse]
    rfl
  have hfix : CallFix p m c i.2.1 i.2.2.1 s args [] i.1 := ⟨Cx0.1, Cx0.2.1, Cx0.2.2.1, Cx0.2.2.2.1, fun w hw => absurd hw List.not_mem_nil⟩
  refine ⟨fun Qc hM => ?_, fun h => h.elim⟩
  exact va_runIN (As := As.map (cv ad)) hfix (hM.1 hh) ⟨hcb, hin, Cx0.2.2.2.2.1 _ hw2 rfl _⟩ ⟨hbl, hpc⟩ rfl (by rw [List.length_map]; exact hA) hsz hst (cat_le hr) hd ⟨hc, hs⟩
end CALLS
section CALLX
variable {i j : MI} {pc n : Nat}
/-- a text's own method -/
theorem call_VS {idx : Nat} {q n0 : Nat} {x : (Nat → Int32) ⊕ (Nat → Int64) ⊕ (Nat → UInt32) ⊕ (Nat → UInt64) ⊕ (Nat → Option Nat)} {As rest : Vs} {h : Hp} (hd : decode i.2.1 pc = .ok (.invokevirtual idx, 3)) (hm : MOK j) (hh : j.2.2.2.2.2.2 = []) (hf : Fits i j) (hn : Npar j n)
    (hw1 : Cond.methodLink i.1 idx j.2.2.2.1 ∈ lw_tbl) (hw2 : Cond.instanceMethod j.2.2.2.1 ∈ lw_tbl) (hw3 : Cond.selects RJ0 j.2.2.2.1 j.2.2.2.1 ∈ lw_tbl) (hp : h.1 q = .inl (8, n0, x)) (hA : As.length = n) (hr : catS rest ≤ 8) (hsel : kwOK (Cond.selects RJ0 j.2.2.2.1 j.2.2.2.1) = true) :
    CallOK i pc j False (.ref q :: As) (As.reverse ++ .ref q :: rest) rest h := by
  intro G p l e R s m args below meth c A Cx0 hR ad H locs lsR cells slots mc ms Pc free hP hwf hok hsz hSS hEE hbl hpc hc hs
  obtain ⟨h64, hxc⟩ := txt_at hwf hp (hok (.ref q) (by simp) _ rfl) (by decide)
  obtain ⟨i9, hi9, rfl⟩ := Cx0.2.2.2.2.2.2.2.2.2.2.2.2.1 q n0 x h64 hxc
  have hrec : ∃ cell : Cell, H[ad (3 + i9)]? = some cell ∧ cell.vm.isStatics = false ∧ s.vm.findClass RJ0 = some cell.cls := by
    obtain ⟨cell, c1, c2, c3, -⟩ := (Cx0.2.2.2.2.2.2.1.2.2.2.2.2.2.1 i9 hi9).1.kept hSS.2.1
    rw [hEE _ h64]
    exact ⟨cell, c1, c2, c3⟩
  have hws := (call_ws Cx0.2.2.2.2.1 hm).1 hh
  have hcb : CallB R s args i.1 idx j.2.2.2.1 j.2.1 j.2.2.1 j.2.2.2.2.1 [cwd j] (rmOf j mc ms) mc ms n :=
    ⟨rfl, rfl, Nat.le_trans hf.1 hR.1, Nat.le_trans hf.2 hR.2, hws, List.mem_singleton.mpr rfl, Cx0.2.2.2.2.1 _ (hm.1 hh) rfl _, Cx0.2.2.2.2.1 _ hm.2.2.1 rfl _, ⟨hn.1, hn.2.1⟩, npar_len hn, Cx0.2.2.2.2.1 _ hw1 rfl _⟩
  have hcw : CallW R s args i.1 RJ0 idx j.2.2.2.1 j.2.1 j.2.2.1 j.2.2.2.2.1 [cwd j] (rmOf j mc ms) mc ms n := ⟨hcb, Cx0.2.2.2.2.1 _ hw2 rfl _, Cx0.2.2.2.2.1 _ hw3 hsel _⟩
  have hst : (F0 m pc lsR ((As.reverse ++ .ref (3 + i9) :: rest).map (cv ad))).stack = (As.map (cv ad)).reverse ++ .ref (ad (3 + i9)) :: rest.map (cv ad) := by
    show (As.reverse ++ .ref (3 + i9) :: rest).map (cv ad) = _
    rw [List.map_append, List.map_reverse]
    rfl
  have hfix : CallFix p m c i.2.1 i.2.2.1 s args [] i.1 := ⟨Cx0.1, Cx0.2.1, Cx0.2.2.1, Cx0.2.2.2.1, fun w hw => absurd hw List.not_mem_nil⟩
  refine ⟨fun Qc hM => ?_, fun h => h.elim⟩
  exact va_runV (As := As.map (cv ad)) hfix (hM.1 hh) hcw ⟨hbl, hrec, hpc⟩ rfl (by rw [List.length_map]; exact hA) hsz hst (cat_le hr) hd ⟨hc, hs⟩
end CALLX
section TCALLS
variable {mi : Nat → MI} {i j : MI} {bp : Nat → Nat} {pc n b m nl : Nat}
theorem CallOK.thr {i j : MI} {pc : Nat} {P P' : Prop} {as st rest : Vs} {h : Hp} (H : CallOK i pc j P as st rest h) (hp : P' → P) : CallOK i pc j P' as st rest h := by
  intro G p l e R s m args below meth c A Cx0 hR ad H1 locs lsR cells slots mc ms Pc free h1 h2 h3 h4 h4' h4'' h5 h6 h7 h8
  obtain ⟨a, b⟩ := H G (e := e) (args := args) (below := below) (locs := locs) (lsR := lsR) (cells := cells) (slots := slots) Cx0 hR h1 h2 h3 h4 h4' h4'' h5 h6 h7 h8
  exact ⟨a, fun q => b (hp q)⟩
theorem tkr_s {n : Nat} {st as r : Vs} (h : tkr n st = some (as, r)) : st = as.reverse ++ r ∧ as.length = n := by
  unfold tkr at h
  split at h
  · rename_i hl
    cases h
    exact ⟨by rw [List.reverse_reverse, List.take_append_drop], by simp; omega⟩
  · cases h
theorem t_cv {ci : Nat} {hs : Option (List (String × Nat × Nat))} (hb : bp b = pc + 3) (hj : mi m = j) (hmok : MOK j) (hnl : j.2.2.1 = nl) (hnh : hs ≠ none → j.2.2.2.2.2.2 = [] ∧ plainName j.2.2.2.1.cls = true) (hhan : ∀ hs', hs = some hs' → HanOK i pc bp hs')
    (hcall : ∀ (q : Nat) (fs As rest : Vs) (h : Hp), h.1 q = .inr (ci, fs) → As.length = n → catS rest ≤ 8 → CallOK i pc j (hs ≠ none) (.ref q :: As) (As.reverse ++ .ref q :: rest) rest h) : SimT mi i bp pc (tCv m nl ci n b hs) := by
  intro ls st h
  subst hj
  unfold tCv
  split
  · rename_i as q r ht
    split
    · rename_i c fs hq
      split
      · rename_i hc
        obtain ⟨rfl, hr, hl⟩ := hc
        obtain ⟨rfl, ha⟩ := tkr_s ht
        refine ⟨rfl, rfl, fun v hv => by simp [hv], fun v hv => ?_, hb, by rw [hnl]; exact hl, hcall q fs as r h hq ha hr, hnh, hmok, hhan⟩
        rcases List.mem_cons.mp hv with rfl | hv
        · simp
        · simp [hv]
      · exact True.intro
    · exact True.intro
  · exact True.intro
theorem t_ci (hb : bp b = pc + 3) (hj : mi m = j) (hmok : MOK j) (hnl : j.2.2.1 = nl) (hcall : ∀ (q : Nat) (As rest : Vs) (h : Hp), As.length = n → catS rest ≤ 8 → CallOK i pc j False (.ref q :: As) (As.reverse ++ .ref q :: rest) rest h) : SimT mi i bp pc (tCi m nl n b) := by
  intro ls st h
  subst hj
  unfold tCi
  split
  · rename_i as q r ht
    split
    · rename_i hc
      obtain ⟨hr, hl⟩ := hc
      obtain ⟨rfl, ha⟩ := tkr_s ht
      refine ⟨rfl, rfl, fun v hv => by simp [hv], fun v hv => ?_, hb, by rw [hnl]; exact hl, (hcall q as r h ha hr).thr (fun h => h rfl), fun h => absurd rfl h, hmok, fun _ h => nomatch h⟩
      rcases List.mem_cons.mp hv with rfl | hv
      · simp
      · simp [hv]
    · exact True.intro
  · exact True.intro
theorem t_cx (hb : bp b = pc + 3) (hj : mi m = j) (hmok : MOK j) (hnl : j.2.2.1 = nl) (hcall : ∀ (q n0 : Nat) (x : (Nat → Int32) ⊕ (Nat → Int64) ⊕ (Nat → UInt32) ⊕ (Nat → UInt64) ⊕ (Nat → Option Nat)) (As rest : Vs) (h : Hp), h.1 q = .inl (8, n0, x) → As.length = n → catS rest ≤ 8 → CallOK i pc j False (.ref q :: As) (As.reverse ++ .ref q :: rest) rest h) : SimT mi i bp pc (tCx m nl n b) := by
  intro ls st h
  subst hj
  unfold tCx
  split
  · rename_i as q r ht
    split
    · rename_i t n0 x hq
      split
      · rename_i hc
        obtain ⟨rfl, hr, hl⟩ := hc
        obtain ⟨rfl, ha⟩ := tkr_s ht
        refine ⟨rfl, rfl, fun v hv => by simp [hv], fun v hv => ?_, hb, by rw [hnl]; exact hl, (hcall q n0 x as r h hq ha hr).thr (fun h => h rfl), fun h => absurd rfl h, hmok, fun _ h => nomatch h⟩
        rcases List.mem_cons.mp hv with rfl | hv
        · simp
        · simp [hv]
      · exact True.intro
    · exact True.intro
  · exact True.intro
theorem t_cs (hb : bp b = pc + 3) (hj : mi m = j) (hmok : MOK j) (hnl : j.2.2.1 = nl) (hcall : ∀ (As rest : Vs) (h : Hp), As.length = n → catS rest ≤ 8 → CallOK i pc j False As (As.reverse ++ rest) rest h) : SimT mi i bp pc (tCs m nl n b) := by
  intro ls st h
  subst hj
  unfold tCs
  split
  · rename_i as r ht
    split
    · rename_i hc
      obtain ⟨hr, hl⟩ := hc
      obtain ⟨rfl, ha⟩ := tkr_s ht
      exact ⟨rfl, rfl, fun v hv => by simp [hv], fun v hv => by simp [hv], hb, by rw [hnl]; exact hl, (hcall as r h ha hr).thr (fun h => h rfl), fun h => absurd rfl h, hmok, fun _ h => nomatch h⟩
    · exact True.intro
  · exact True.intro
end TCALLS
