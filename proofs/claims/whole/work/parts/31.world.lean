/-! The real world that the law begins in, out of what the Statement gives of the start. -/
abbrev nw0 : Cond := Jvm.Cond.and given_1 narrow_1
theorem nw_at {args : Array Value} {s : State} {i : Nat} {w : Cond} (h : nw0.before args s = true) (e : (flatC nw0)[i]? = some w) : w.before args s = true := flat_of_before _ h _ (List.mem_of_getElem? e)
theorem eq_R {args : Array Value} {s : State} {t u : Term} {a : Nat} (h : (Cond.eq t u).before args s = true) (ht : t.eval args s none [] s = some (.ref a)) : u.eval args s none [] s = some (.ref a) := by
  cases hv : u.eval args s none [] s with
  | none => simp [Cond.before, Cond.holds, Cond.value, ht, hv] at h
  | some w =>
    simp only [Cond.before, Cond.holds, Cond.value, ht, hv] at h
    cases w <;> simp_all
theorem len_ex {args : Array Value} {s : State} {t : Term} {N : Nat} (hN : N < 2 ^ 31) (h : (Term.length t).eval args s none [] s = some (.int (Int32.ofNat N))) : ∃ a cell, t.eval args s none [] s = some (.ref a) ∧ s.arrayAt? a = some cell ∧ cell.slots.size = N := by
  simp only [Term.eval, Option.bind_eq_bind] at h
  cases ht : t.eval args s none [] s with
  | none => simp [ht] at h
  | some x =>
    cases x <;> simp [ht] at h
    case ref a =>
      obtain ⟨cell, hcell, h⟩ := Option.bind_eq_some_iff.mp h
      by_cases hn : cell.slots.size < 2147483648
      · rw [if_pos hn] at h
        have h1 : Int32.ofNat cell.slots.size = Int32.ofNat N := Value.int.inj (Option.some.inj h)
        have h2 : (Int32.ofNat cell.slots.size).toNatClampNeg = cell.slots.size := Int32.toNatClampNeg_ofNat_of_lt hn
        have h3 : (Int32.ofNat N).toNatClampNeg = N := Int32.toNatClampNeg_ofNat_of_lt hN
        exact ⟨a, cell, rfl, hcell, by rw [← h2, h1, h3]⟩
      · rw [if_neg hn] at h; cases h
theorem xs_of {args : Array Value} {s : State} {tm : Term} {N : Nat} {f : Nat → Int32} (hN : N < 2 ^ 31) (harr : (Cond.arrayOf tm .int).before args s = true) (hlen : (Term.length tm).eval args s none [] s = some (.int (Int32.ofNat N))) (hel : ∀ j : Nat, j < N → (Term.elem tm (.int (Int32.ofNat j))).eval args s none [] s = some (.int (f j))) : ∃ t : Nat, tm.eval args s none [] s = some (.ref t) ∧ va_X t N f s s.heap := by
  obtain ⟨t, cell, ht, hat, hsz⟩ := len_ex hN hlen
  obtain ⟨hcell, hkn, -, -⟩ := State.arrayAt?_spec hat
  obtain ⟨hof, -⟩ := Cond.arrayOf_spec harr ht hcell
  refine ⟨t, ht, cell, hcell, hof, hkn, hsz, fun j hj => ?_⟩
  obtain ⟨a, i, cell2, h1, h2, h3, h4, h5⟩ := Term.elem_spec (hel j hj)
  cases ht.symm.trans h1
  cases hat.symm.trans h3
  have hi : i = Int32.ofNat j := by
    have e : (Term.int (Int32.ofNat j)).eval args s none [] s = some (.int (Int32.ofNat j)) := rfl
    cases h2.symm.trans e
    rfl
  have hc : i.toNatClampNeg = j := by rw [hi]; exact Int32.toNatClampNeg_ofNat_of_lt (Nat.lt_trans hj hN)
  rw [hc] at h5
  exact h5
def blkC (own : String) (k : Nat) (b : List Int32) : List Cond := [.exactly (.string own k) "java/lang/String", .eq (.field (.string own k) "java/lang/String" "coder" "B") (.int 0), .arrayOf (.field (.string own k) "java/lang/String" "value" "[B") .byte, .eq (.length (.field (.string own k) "java/lang/String" "value" "[B")) (.int (Int32.ofNat b.length))] ++ (List.range b.length).map (fun j => .eq (.elem (.field (.string own k) "java/lang/String" "value" "[B") (.int (Int32.ofNat j))) (.int (b.getD j 0)))
def tidL : List Nat := [96, 102, 110, 115, 147, 156, 175, 180, 127, 129, 131, 133, 135, 137, 139, 141, 143, 145]
def midL : List Nat := [212, 214, 216, 218, 223, 228, 205, 207, 170, 172, 174, 176, 178, 180, 182, 184, 186, 188]
def basL : List Nat := [117, 125, 134, 142, 242, 250, 258, 266, 152, 163, 172, 182, 192, 200, 209, 217, 225, 233]
def eqpL : List Nat := [280, 290, 299, 310, 419, 428, 437, 444, 322, 332, 343, 354, 363, 373, 382, 391, 400, 410]
theorem bl_all : ∀ i : Fin 18, ((flatC nw0).drop (basL.getD i.val 0)).take (4 + (bytS i.val).length) = blkC "HandFingers$Text" (tidL.getD i.val 0) (bytS i.val) := by decide +kernel
theorem ep_all : ∀ i : Fin 18, (flatC nw0)[eqpL.getD i.val 0]? = some (Cond.eq (.string "HandFingers$Text" (tidL.getD i.val 0)) (.string "HandFingersModel" (midL.getD i.val 0))) := by decide +kernel
theorem we_all : ∀ j : Fin 10, (flatC nw0)[7 + j.val]? = some (Cond.eq (.elem (.static "HandFingers" "FIRST_WEIGHTS" "[I") (.int (Int32.ofNat j.val))) (.int (iI (fW (j.val : Int))))) := by decide +kernel
theorem se_all : ∀ j : Fin 50, (flatC nw0)[20 + j.val]? = some (Cond.eq (.elem (.static "HandFingers" "FIRST_SPANS" "[I") (.int (Int32.ofNat j.val))) (.int (iI (spL.getD j.val 0)))) := by decide +kernel
theorem by_len : ∀ i : Fin 18, (bytS i.val).length < 2 ^ 31 := by decide +kernel
theorem st_len : ∀ q ∈ strs, 3 ≤ q.2.2.2 ∧ q.2.2.2 < 21 ∧ ((q.1 = "HandFingers$Text" ∧ q.2.1 = tidL.getD (q.2.2.2 - 3) 0) ∨ (q.1 = "HandFingersModel" ∧ q.2.1 = midL.getD (q.2.2.2 - 3) 0)) := by decide +kernel
theorem st_ref : ∀ w ∈ strs.map (fun q => Cond.stringRef q.1 q.2.1 q.2.2.1), w ∈ lw_tbl := look9s_of _ [(2, 60), (2, 121), (2, 122), (2, 131), (2, 155), (2, 165), (2, 190), (2, 195), (2, 136), (2, 137), (2, 138), (2, 139), (2, 140), (2, 141), (2, 142), (2, 143), (2, 144), (2, 145), (6, 110), (6, 125), (6, 126), (6, 131), (6, 153), (6, 158), (6, 163), (6, 164), (6, 139), (6, 140), (6, 141), (6, 142), (6, 143), (6, 144), (6, 145), (6, 146), (6, 147), (6, 148)] (by decide +kernel)
section WO
variable {s : State} {b : Nat} {A : Nat → Prop}
theorem txt_of (h : nw0.before #[Value.ref b] s = true) (hA : ∀ a : Nat, a < s.heap.size → ¬ A a) : ∃ adK adV : Nat → Nat, ∀ i : Nat, i < 18 → Str (adK i) (adV i) (bytS i) A s s.heap ∧ (Term.string "HandFingers$Text" (tidL.getD i 0)).eval #[Value.ref b] s none [] s = some (.ref (adK i)) := by
  have h0 : ∀ i : Nat, ∃ q : Nat × Nat, i < 18 → Str q.1 q.2 (bytS i) A s s.heap ∧ (Term.string "HandFingers$Text" (tidL.getD i 0)).eval #[Value.ref b] s none [] s = some (.ref q.1) := by
    intro i
    by_cases hi : i < 18
    · have hb := bl_all ⟨i, hi⟩
      simp only at hb
      have f : ∀ w ∈ blkC "HandFingers$Text" (tidL.getD i 0) (bytS i), w.before #[Value.ref b] s = true := fun w hw => by
        rw [← hb] at hw
        exact flat_of_before _ h _ (List.mem_of_mem_drop (List.mem_of_mem_take hw))
      have f0 := f _ (List.mem_append_left _ (List.mem_cons_self))
      have f1 := f _ (List.mem_append_left _ (List.mem_cons_of_mem _ List.mem_cons_self))
      have f2 := f _ (List.mem_append_left _ (List.mem_cons_of_mem _ (List.mem_cons_of_mem _ List.mem_cons_self)))
      have f3 := f _ (List.mem_append_left _ (List.mem_cons_of_mem _ (List.mem_cons_of_mem _ (List.mem_cons_of_mem _ List.mem_cons_self))))
      have f4 : ∀ j : Nat, j < (bytS i).length → (Cond.eq (.elem (.field (.string "HandFingers$Text" (tidL.getD i 0)) "java/lang/String" "value" "[B") (.int (Int32.ofNat j))) (.int ((bytS i).getD j 0))).before #[Value.ref b] s = true := fun j hj => f _ (List.mem_append_right _ (List.mem_map.mpr ⟨j, List.mem_range.mpr hj, rfl⟩))
      obtain ⟨a, c, cA, kA, q1, q2, q3, q4, q5, q6, -⟩ := Cond.exactly_spec (args := #[Value.ref b]) (first := s) (o := none) (s := s) (idx := []) (t := Term.string "HandFingers$Text" (tidL.getD i 0)) (cls := "java/lang/String") f0
      obtain ⟨t, ht, hT⟩ := va_Tof (f := fun j => .int ((bytS i).getD j 0)) (A := A) (by_len ⟨i, hi⟩) f2 (va_eqt f3) (fun j hj => va_eqt (f4 j hj)) hA
      exact ⟨(a, t), fun _ => ⟨⟨⟨cA, q3, q5, by rw [q6]; exact q2, hA a (Array.getElem?_eq_some_iff.mp q3).1⟩, vk_OFof q1 (va_eqt f1) hA, vk_OFof q1 ht hA, hT⟩, q1⟩⟩
    · exact ⟨(0, 0), fun h => absurd h hi⟩
  obtain ⟨ad, had⟩ := Classical.axiomOfChoice h0
  exact ⟨fun i => (ad i).1, fun i => (ad i).2, fun i hi => had i hi⟩
theorem k_cls (hts : ∀ w ∈ lw_tbl, w.before #[Value.ref b] s = true) : ∃ (dC : Nat → ClassId) (dI : Nat → Nat → Nat), ∀ (k : Nat) (q : vw_C), vwCl[k]? = some q → u_Kn s q.1 q.2.1 q.2.2 (dC k) (dI k) := by
  obtain ⟨c0, i0, k0⟩ := u_known (C := RX0) (T := TX0) (N := 10) (n := 10) hts (fun w hw => (uw_X0 w hw).1) (hts _ wt_31)
  obtain ⟨c1, i1, k1⟩ := u_known (C := RX1) (T := TX1) (N := 13) (n := 13) hts (fun w hw => (uw_X1 w hw).1) (hts _ wt_119)
  obtain ⟨c2, i2, k2⟩ := u_known (C := RX2) (T := TX2) (N := 1) (n := 1) hts (fun w hw => (uw_X2 w hw).1) (hts _ wt_37)
  obtain ⟨c3, i3, k3⟩ := u_known (C := RX3) (T := TX3) (N := 1) (n := 1) hts (fun w hw => (uw_X3 w hw).1) (hts _ wt_211)
  obtain ⟨c4, i4, k4⟩ := u_known (C := RX4) (T := TX4) (N := 9) (n := 9) hts (fun w hw => (uw_X4 w hw).1) (hts _ wt_170)
  obtain ⟨c5, i5, k5⟩ := u_known (C := RX5) (T := TX5) (N := 12) (n := 12) hts (fun w hw => (uw_X5 w hw).1) (hts _ wt_23)
  obtain ⟨c6, i6, k6⟩ := u_known (C := RX6) (T := TX6) (N := 30) (n := 30) hts (fun w hw => (uw_X6 w hw).1) (hts _ wt_1135)
  refine ⟨fun k => match k with | 0 => c0 | 1 => c1 | 2 => c2 | 3 => c3 | 4 => c4 | 5 => c5 | _ => c6, fun k => match k with | 0 => i0 | 1 => i1 | 2 => i2 | 3 => i3 | 4 => i4 | 5 => i5 | _ => i6, fun k q hq => ?_⟩
  match k, hq with
  | 0, hq => cases hq; exact k0
  | 1, hq => cases hq; exact k1
  | 2, hq => cases hq; exact k2
  | 3, hq => cases hq; exact k3
  | 4, hq => cases hq; exact k4
  | 5, hq => cases hq; exact k5
  | 6, hq => cases hq; exact k6
  | k + 7, hq => simp [vwCl] at hq
theorem ar_cls {ty : FieldType} {args : Array Value} (h : (Cond.arrayClass ty).before args s = true) (hty : va_RA s = va_RA s) (ho : ∀ C, ty ≠ .object C) : ∃ cA, ArrOfT s cA ty ∧ va_RA s cA ty := by
  obtain ⟨cA, kA, comp, h1, h2, h3⟩ := Cond.arrayClass_spec h
  refine ⟨cA, fun n z => ⟨(fun k h => by cases h), kA, h2, comp, h3⟩, ?_⟩
  cases ty with
  | object C => exact absurd rfl (ho C)
  | _ => exact h1
theorem k_arr (hts : ∀ w ∈ lw_tbl, w.before #[Value.ref b] s = true) : ∃ tA : Nat → ClassId, ∀ (k : Nat) (q : ClassId × FieldType), (gty tA)[k]? = some q → ArrOfT s q.1 q.2 ∧ va_RA s q.1 q.2 := by
  obtain ⟨a0, h0⟩ := ar_cls (hts _ wt_49) rfl (fun C h => by cases h)
  obtain ⟨a1, h1⟩ := ar_cls (hts _ wt_168) rfl (fun C h => by cases h)
  obtain ⟨a2, h2⟩ := ar_cls (hts _ wt_1690) rfl (fun C h => by cases h)
  obtain ⟨a3, h3⟩ := ar_cls (hts _ wt_1248) rfl (fun C h => by cases h)
  obtain ⟨comp, a4, k, f1, f2, f3, f4, f5⟩ := Cond.arrayOver_spec (hts _ wt_218)
  have h4 : ArrOfT s a4 (.object RX0) ∧ va_RA s a4 (.object RX0) := ⟨fun n z => ⟨(fun k h => by cases h), k, f3, comp, f4⟩, k, comp, f3, f4, f1, f5⟩
  refine ⟨fun k => match k with | 0 => a0 | 1 => a1 | 2 => a2 | 3 => a3 | _ => a4, fun k q hq => ?_⟩
  match k, hq with
  | 0, hq => cases hq; exact h0
  | 1, hq => cases hq; exact h1
  | 2, hq => cases hq; exact h2
  | 3, hq => cases hq; exact h3
  | 4, hq => cases hq; exact h4
  | k + 5, hq => simp [gty] at hq
theorem wd_of (hts : ∀ w ∈ lw_tbl, w.before #[Value.ref b] s = true) : Wd s := fun w hw hk _ => kw_warm hk (State.WarmedH.refl s) (hts w hw)
theorem world_of {L : Nat} {xs : Nat → Int32} (hts : ∀ w ∈ lw_tbl, w.before #[Value.ref b] s = true) (h : nw0.before #[Value.ref b] s = true) (hX : va_X b L xs s s.heap) (hbl : b < s.heap.size) (hA : ∀ a : Nat, a < s.heap.size → ¬ A a) : ∃ G : GG, G.2.2.2.2 = rnd (g0 L) (bI xs) ∧ G.2.2.2.1 2 = b ∧ va_K (G.1, G.2.1) vwCl (gty G.2.2.1) s ∧ Ext G A s s.heap := by
  obtain ⟨dC, dI, hK⟩ := k_cls hts
  obtain ⟨tA, hT⟩ := k_arr hts
  obtain ⟨adK, adV, hS⟩ := txt_of (A := A) h hA
  obtain ⟨tW, w1, w2⟩ := xs_of (args := #[Value.ref b]) (s := s) (tm := .static "HandFingers" "FIRST_WEIGHTS" "[I") (N := 10) (f := fun j => iI (fW (j : Int))) (by decide) (nw_at h (i := 5) (by decide +kernel)) (va_eqt (nw_at h (i := 6) (by decide +kernel))) (fun j hj => va_eqt (nw_at h (we_all ⟨j, hj⟩)))
  obtain ⟨tS, s1, s2⟩ := xs_of (args := #[Value.ref b]) (s := s) (tm := .static "HandFingers" "FIRST_SPANS" "[I") (N := 50) (f := fun j => iI (spL.getD j 0)) (by decide) (nw_at h (i := 18) (by decide +kernel)) (va_eqt (nw_at h (i := 19) (by decide +kernel))) (fun j hj => va_eqt (nw_at h (se_all ⟨j, hj⟩)))
  obtain ⟨AD, hAD⟩ : ∃ AD : Nat → Nat, AD = fun e => if e = 0 then tW else if e = 1 then tS else if e = 2 then b else if e < 21 then adK (e - 3) else adV (e - 23) := ⟨_, rfl⟩
  have d0 : AD 0 = tW := by rw [hAD]; rfl
  have d1 : AD 1 = tS := by rw [hAD]; rfl
  have d2 : AD 2 = b := by rw [hAD]; rfl
  have d3 : ∀ i, i < 18 → AD (3 + i) = adK i := fun i hi => by
    rw [hAD]
    show (if 3 + i = 0 then tW else if 3 + i = 1 then tS else if 3 + i = 2 then b else if 3 + i < 21 then adK (3 + i - 3) else adV (3 + i - 23)) = adK i
    rw [if_neg (by omega), if_neg (by omega), if_neg (by omega), if_pos (by omega), show 3 + i - 3 = i by omega]
  have d4 : ∀ i, i < 18 → AD (23 + i) = adV i := fun i hi => by
    rw [hAD]
    show (if 23 + i = 0 then tW else if 23 + i = 1 then tS else if 23 + i = 2 then b else if 23 + i < 21 then adK (23 + i - 3) else adV (23 + i - 23)) = adV i
    rw [if_neg (by omega), if_neg (by omega), if_neg (by omega), if_neg (by omega), show 23 + i - 23 = i by omega]
  have xlt : ∀ {a N : Nat} {f : Nat → Int32}, va_X a N f s s.heap → ¬ A a := fun z => hA _ z.lt
  refine ⟨(dC, dI, tA, AD, rnd (g0 L) (bI xs)), rfl, d2, ⟨hK, hT⟩, ?_, ?_, ?_, ?_, ?_, ?_, ?_, ?_, ?_, ?_⟩
  · intro e n f he hf
    have hf : rnd (g0 L) (bI xs) e = .inl (7, n, .inl f) := hf
    rw [rnd_o (t := (shO L e).1) (n := (shO L e).2) (shG_o he) shO_k] at hf
    have hf := Sum.inl.inj hf
    have h7 : (shO L e).1 = 7 := congrArg Prod.fst hf
    have hn : (shO L e).2 = n := congrArg (fun z => z.2.1) hf
    have hx : (fun i : Nat => iI (bI xs e (i : Int))) = f := Sum.inl.inj (congrArg (fun z => z.2.2) hf)
    have h012 : e = 0 ∨ e = 1 ∨ e = 2 := by
      unfold shO at h7
      (repeat' split at h7) <;> first | omega | (exfalso; revert h7; simp)
    show va_X (AD e) n f s s.heap ∧ ¬ A (AD e)
    rw [← hx, ← hn]
    rcases h012 with rfl | rfl | rfl
    · rw [d0]; exact ⟨w2, xlt w2⟩
    · rw [d1]; exact ⟨s2, xlt s2⟩
    · rw [d2]
      have e2 : (fun i : Nat => iI (bI xs 2 (i : Int))) = xs := funext fun i => (iI_of (xs i)).symm
      rw [e2]
      exact ⟨hX, hA _ hbl⟩
  · show va_Z RX5 "FIRST_WEIGHTS" "[I" (.ref (AD 0)) A s s.heap
    rw [d0]; exact va_Zref (hts _ (look9_of (p := (1, 55)) (by decide +kernel))) (hts _ (look9_of (p := (1, 1)) (by decide +kernel))) w1 hA
  · show va_Z RX5 "FIRST_SPANS" "[I" (.ref (AD 1)) A s s.heap
    rw [d1]; exact va_Zref (hts _ (look9_of (p := (1, 61)) (by decide +kernel))) (hts _ (look9_of (p := (1, 1)) (by decide +kernel))) s1 hA
  · exact vx_Zqof (hts _ (look9_of (p := (4, 2)) (by decide +kernel))) (hts _ (look9_of (p := (1, 9)) (by decide +kernel))) (nw_at h (i := 75) (by decide +kernel)) hA
  · exact vx_Zqof (hts _ (look9_of (p := (4, 4)) (by decide +kernel))) (hts _ (look9_of (p := (1, 9)) (by decide +kernel))) (nw_at h (i := 76) (by decide +kernel)) hA
  · intro q hq
    have hq : q = ("java/lang/IllegalArgumentException", "java/lang/IndexOutOfBoundsException") ∨ q = ("java/util/NoSuchElementException", "java/lang/IndexOutOfBoundsException") ∨ q = ("java/util/NoSuchElementException", "java/lang/IllegalArgumentException") ∨ q = ("java/lang/IllegalStateException", "java/lang/IndexOutOfBoundsException") := by simpa [ncs] using hq
    rcases hq with rfl | rfl | rfl | rfl
    · exact va_Nc.of (nw_at h (i := 105) (by decide +kernel))
    · exact va_Nc.of (nw_at h (i := 106) (by decide +kernel))
    · exact va_Nc.of (nw_at h (i := 96) (by decide +kernel))
    · exact va_Nc.of (nw_at h (i := 104) (by decide +kernel))
  · intro i hi
    show Str (AD (3 + i)) (AD (23 + i)) (bytS i) A s s.heap
    rw [d3 i hi, d4 i hi]; exact (hS i hi).1
  · intro q hq
    show vk_R q.1 q.2.1 q.2.2.1 (AD q.2.2.2) s
    obtain ⟨l1, l2, l3⟩ := st_len q hq
    have hi : q.2.2.2 - 3 < 18 := by omega
    have e3 : AD q.2.2.2 = adK (q.2.2.2 - 3) := by
      have := d3 (q.2.2.2 - 3) hi
      rw [show 3 + (q.2.2.2 - 3) = q.2.2.2 by omega] at this
      exact this
    have ev := (hS (q.2.2.2 - 3) hi).2
    rw [e3]
    refine vk_R.of (A := #[Value.ref b]) (hts _ (st_ref _ (List.mem_map.mpr ⟨q, hq, rfl⟩))) ?_
    rcases l3 with ⟨y1, y2⟩ | ⟨y1, y2⟩
    · rw [y1, y2]; exact ev
    · rw [y1, y2]; exact eq_R (nw_at h (ep_all ⟨q.2.2.2 - 3, hi⟩)) ev
  · exact va_Zof (hts _ (look9_of (p := (2, 78)) (by decide +kernel))) (hts _ (look9_of (p := (1, 13)) (by decide +kernel))) (va_eqi (nw_at h (i := 70) (by decide +kernel))) hA
  · exact va_Zqof (hts _ (look9_of (p := (2, 94)) (by decide +kernel))) (hts _ (look9_of (p := (1, 15)) (by decide +kernel))) (nw_at h (i := 71) (by decide +kernel)) hA
end WO
