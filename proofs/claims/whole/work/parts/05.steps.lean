section STEPS
variable {own : String} {cc : ByteArray} {nL : Nat} {mn : String} {rq : Nat × Nat} {pc : Nat}
theorem s_iconst {n : Int} {v : Int32} (hd : decode cc pc = .ok (.iconst n, 1)) (hv : Int32.ofInt n = v) : SimX own cc nL mn rq pc 1 (xC (.int v)) := by
  refine simP ?_
  intro ls st h ls' st' h' he
  cases he
  refine ⟨rfl, rfl, ?_⟩
  intro G p l e R s m args below meth c A Q C hR ad H locs lsR c0 s0 g hc hs
  exact ⟨ok_c okV_i g.2.2.2.2.1, fun k => lv_iconst C.1 C.2.1 hd hv k⟩
theorem s_bipush {n : Int} {v : Int32} (hd : decode cc pc = .ok (.bipush n, 2)) (hv : (Int8.ofInt n).toInt32 = v) : SimX own cc nL mn rq pc 2 (xC (.int v)) := by
  refine simP ?_
  intro ls st h ls' st' h' he
  cases he
  refine ⟨rfl, rfl, ?_⟩
  intro G p l e R s m args below meth c A Q C hR ad H locs lsR c0 s0 g hc hs
  exact ⟨ok_c okV_i g.2.2.2.2.1, fun k => lv_bipush C.1 C.2.1 hd hv k⟩
theorem s_sipush {n : Int} {v : Int32} (hd : decode cc pc = .ok (.sipush n, 3)) (hv : (Int16.ofInt n).toInt32 = v) : SimX own cc nL mn rq pc 3 (xC (.int v)) := by
  refine simP ?_
  intro ls st h ls' st' h' he
  cases he
  refine ⟨rfl, rfl, ?_⟩
  intro G p l e R s m args below meth c A Q C hR ad H locs lsR c0 s0 g hc hs
  exact ⟨ok_c okV_i g.2.2.2.2.1, fun k => lv_sipush C.1 C.2.1 hd hv k⟩
theorem s_ldc {i : Nat} {v : Int32} (hd : decode cc pc = .ok (.ldc i, 2)) (hw : Cond.constant own i v ∈ lw_tbl) : SimX own cc nL mn rq pc 2 (xC (.int v)) := by
  refine simP ?_
  intro ls st h ls' st' h' he
  cases he
  refine ⟨rfl, rfl, ?_⟩
  intro G p l e R s m args below meth c A Q C hR ad H locs lsR c0 s0 g hc hs
  exact ⟨ok_c okV_i g.2.2.2.2.1, fun k => lv_ldc C.1 C.2.1 C.2.2.2.1 (C.2.2.2.2.1 _ hw rfl _) hd k⟩
theorem s_ldcw {i : Nat} {v : Int32} (hd : decode cc pc = .ok (.ldc_w i, 3)) (hw : Cond.constant own i v ∈ lw_tbl) : SimX own cc nL mn rq pc 3 (xC (.int v)) := by
  refine simP ?_
  intro ls st h ls' st' h' he
  cases he
  refine ⟨rfl, rfl, ?_⟩
  intro G p l e R s m args below meth c A Q C hR ad H locs lsR c0 s0 g hc hs
  exact ⟨ok_c okV_i g.2.2.2.2.1, fun k => lv_ldcw C.1 C.2.1 C.2.2.2.1 (C.2.2.2.2.1 _ hw rfl _) hd k⟩
theorem s_ldc2 {i : Nat} {v : Int64} (hd : decode cc pc = .ok (.ldc2_w i, 3)) (hw : Cond.constantLong own i v ∈ lw_tbl) : SimX own cc nL mn rq pc 3 (xC (.long v)) := by
  refine simP ?_
  intro ls st h ls' st' h' he
  cases he
  refine ⟨rfl, rfl, ?_⟩
  intro G p l e R s m args below meth c A Q C hR ad H locs lsR c0 s0 g hc hs
  exact ⟨ok_c okV_l g.2.2.2.2.1, fun k => lv_ldc2 C.1 C.2.1 C.2.2.2.1 (C.2.2.2.2.1 _ hw rfl _) hd k⟩
theorem s_lconst {n : Fin 2} {v : Int64} (hd : decode cc pc = .ok (.lconst n, 1)) (hv : Int64.ofNat (n : Nat) = v) : SimX own cc nL mn rq pc 1 (xC (.long v)) := by
  refine simP ?_
  intro ls st h ls' st' h' he
  cases he
  refine ⟨rfl, rfl, ?_⟩
  intro G p l e R s m args below meth c A Q C hR ad H locs lsR c0 s0 g hc hs
  exact ⟨ok_c okV_l g.2.2.2.2.1, fun k => lv_lconst C.1 C.2.1 hd hv k⟩
theorem s_dconst (hd : decode cc pc = .ok (.dconst 0, 1)) : SimX own cc nL mn rq pc 1 (xC (.double FP.dconst0)) := by
  refine simP ?_
  intro ls st h ls' st' h' he
  cases he
  refine ⟨rfl, rfl, ?_⟩
  intro G p l e R s m args below meth c A Q C hR ad H locs lsR c0 s0 g hc hs
  exact ⟨ok_c okV_d g.2.2.2.2.1, fun k => lv_dconst0 C.1 C.2.1 hd k⟩
theorem s_null (hd : decode cc pc = .ok (.aconst_null, 1)) : SimX own cc nL mn rq pc 1 (xC .null) := by
  refine simP ?_
  intro ls st h ls' st' h' he
  cases he
  refine ⟨rfl, rfl, ?_⟩
  intro G p l e R s m args below meth c A Q C hR ad H locs lsR c0 s0 g hc hs
  exact ⟨ok_c okV_n g.2.2.2.2.1, fun k => lv_null C.1 C.2.1 hd k⟩
theorem s_iload_n {i : Nat} {k : Fin 4} (hd : decode cc pc = .ok (.iload_n k, 1)) (hi : (k : Nat) = i) : SimX own cc nL mn rq pc 1 (xLd i) := by
  refine simP ?_
  intro ls st h ls' st' h' he
  unfold xLd at he
  split at he
  · rename_i x hx
    cases he
    refine ⟨rfl, rfl, ?_⟩
    intro G p l e R s m args below meth c A Q C hR ad H locs lsR c0 s0 g hc hs
    exact ⟨ok_c okV_i g.2.2.2.2.1, fun k => lv_iload_n C.1 C.2.1 hd hi (lo_at g.2.2.2.2.2.2.1 hx) k⟩
  · cases he
theorem s_iload {i : Nat} (hd : decode cc pc = .ok (.iload i, 2)) : SimX own cc nL mn rq pc 2 (xLd i) := by
  refine simP ?_
  intro ls st h ls' st' h' he
  unfold xLd at he
  split at he
  · rename_i x hx
    cases he
    refine ⟨rfl, rfl, ?_⟩
    intro G p l e R s m args below meth c A Q C hR ad H locs lsR c0 s0 g hc hs
    exact ⟨ok_c okV_i g.2.2.2.2.1, fun k => lv_iload C.1 C.2.1 hd (lo_at g.2.2.2.2.2.2.1 hx) k⟩
  · cases he
theorem s_lload_n {i : Nat} {k : Fin 4} (hd : decode cc pc = .ok (.lload_n k, 1)) (hi : (k : Nat) = i) : SimX own cc nL mn rq pc 1 (xLdL i) := by
  refine simP ?_
  intro ls st h ls' st' h' he
  unfold xLdL at he
  split at he
  · rename_i x hx
    cases he
    refine ⟨rfl, rfl, ?_⟩
    intro G p l e R s m args below meth c A Q C hR ad H locs lsR c0 s0 g hc hs
    exact ⟨ok_c okV_l g.2.2.2.2.1, fun k => lv_lload_n C.1 C.2.1 hd hi (lo_at g.2.2.2.2.2.2.1 hx) k⟩
  · cases he
theorem s_lload {i : Nat} (hd : decode cc pc = .ok (.lload i, 2)) : SimX own cc nL mn rq pc 2 (xLdL i) := by
  refine simP ?_
  intro ls st h ls' st' h' he
  unfold xLdL at he
  split at he
  · rename_i x hx
    cases he
    refine ⟨rfl, rfl, ?_⟩
    intro G p l e R s m args below meth c A Q C hR ad H locs lsR c0 s0 g hc hs
    exact ⟨ok_c okV_l g.2.2.2.2.1, fun k => lv_lload C.1 C.2.1 hd (lo_at g.2.2.2.2.2.2.1 hx) k⟩
  · cases he
theorem s_dload {i : Nat} (hd : decode cc pc = .ok (.dload i, 2)) : SimX own cc nL mn rq pc 2 (xLdD i) := by
  refine simP ?_
  intro ls st h ls' st' h' he
  unfold xLdD at he
  split at he
  · rename_i x hx
    cases he
    refine ⟨rfl, rfl, ?_⟩
    intro G p l e R s m args below meth c A Q C hR ad H locs lsR c0 s0 g hc hs
    exact ⟨ok_c okV_d g.2.2.2.2.1, fun k => lv_dload C.1 C.2.1 hd (lo_at g.2.2.2.2.2.2.1 hx) k⟩
  · cases he
theorem s_aload_n {i : Nat} {k : Fin 4} (hd : decode cc pc = .ok (.aload_n k, 1)) (hi : (k : Nat) = i) : SimX own cc nL mn rq pc 1 (xLdA i) := by
  refine simP ?_
  intro ls st h ls' st' h' he
  unfold xLdA at he
  split at he
  · rename_i x hx
    cases he
    refine ⟨rfl, rfl, ?_⟩
    intro G p l e R s m args below meth c A Q C hR ad H locs lsR c0 s0 g hc hs
    exact ⟨ok_c (g.2.2.2.2.2.1 _ (lg_mem hx)) g.2.2.2.2.1, fun k => lv_aload_n C.1 C.2.1 hd hi (lo_at g.2.2.2.2.2.2.1 hx) k⟩
  · rename_i hx
    cases he
    refine ⟨rfl, rfl, ?_⟩
    intro G p l e R s m args below meth c A Q C hR ad H locs lsR c0 s0 g hc hs
    exact ⟨ok_c okV_n g.2.2.2.2.1, fun k => lv_aload_nN C.1 C.2.1 hd hi (lo_at g.2.2.2.2.2.2.1 hx) k⟩
  · cases he
theorem s_aload {i : Nat} (hd : decode cc pc = .ok (.aload i, 2)) : SimX own cc nL mn rq pc 2 (xLdA i) := by
  refine simP ?_
  intro ls st h ls' st' h' he
  unfold xLdA at he
  split at he
  · rename_i x hx
    cases he
    refine ⟨rfl, rfl, ?_⟩
    intro G p l e R s m args below meth c A Q C hR ad H locs lsR c0 s0 g hc hs
    exact ⟨ok_c (g.2.2.2.2.2.1 _ (lg_mem hx)) g.2.2.2.2.1, fun k => lv_aload C.1 C.2.1 hd (lo_at g.2.2.2.2.2.2.1 hx) k⟩
  · rename_i hx
    cases he
    refine ⟨rfl, rfl, ?_⟩
    intro G p l e R s m args below meth c A Q C hR ad H locs lsR c0 s0 g hc hs
    exact ⟨ok_c okV_n g.2.2.2.2.1, fun k => lv_aloadN C.1 C.2.1 hd (lo_at g.2.2.2.2.2.2.1 hx) k⟩
  · cases he
/-- a step over two ints, by its row -/
theorem s_i2 {f : Int32 → Int32 → Int32} {len : Nat}
    (hW : ∀ {p : Program} {l : Launch} {e : Env} {R : Room} {s : State} {m : MethodId} {args : Array Value} {below : List Frame} {meth : Method} {c : Code} {H : Heap} {locs : List Loc} {cells slots : Nat} {Q : State → Prop} {lsR : Array Slot} {rest : Vs} {x y : Int32}, p.tables.exec = Jvm.exec → c.code = cc → W p l e R s m args below meth c H locs cells slots Q (F0 m (pc + len) lsR (.int (f x y) :: rest)) → W p l e R s m args below meth c H locs cells slots Q (F0 m pc lsR (.int y :: .int x :: rest))) :
    SimX own cc nL mn rq pc len (xI2 f) := by
  refine simP ?_
  intro ls st h ls' st' h' he
  unfold xI2 at he
  split at he
  · cases he
    refine ⟨rfl, rfl, ?_⟩
    intro G p l e R s m args below meth c A Q C hR ad H locs lsR c0 s0 g hc hs
    exact ⟨ok_c okV_i (ok_t (ok_t g.2.2.2.2.1)), fun k => hW C.1 C.2.1 k⟩
  · cases he
theorem s_iadd (hd : decode cc pc = .ok (.iadd, 1)) : SimX own cc nL mn rq pc 1 xAdd := s_i2 (fun a b k => lv_iadd a b hd k)
theorem s_isub (hd : decode cc pc = .ok (.isub, 1)) : SimX own cc nL mn rq pc 1 xSub := s_i2 (fun a b k => lv_isub a b hd k)
theorem s_imul (hd : decode cc pc = .ok (.imul, 1)) : SimX own cc nL mn rq pc 1 xMul := s_i2 (fun a b k => lv_imul a b hd k)
theorem s_iand (hd : decode cc pc = .ok (.iand, 1)) : SimX own cc nL mn rq pc 1 xAnd := s_i2 (fun a b k => lv_iand a b hd k)
theorem s_ior (hd : decode cc pc = .ok (.ior, 1)) : SimX own cc nL mn rq pc 1 xOr := s_i2 (fun a b k => lv_ior a b hd k)
theorem s_ixor (hd : decode cc pc = .ok (.ixor, 1)) : SimX own cc nL mn rq pc 1 xXor := s_i2 (fun a b k => lv_ixor a b hd k)
theorem s_ishl (hd : decode cc pc = .ok (.ishl, 1)) : SimX own cc nL mn rq pc 1 xShl := s_i2 (fun a b k => lv_ishl a b hd k)
theorem s_ishr (hd : decode cc pc = .ok (.ishr, 1)) : SimX own cc nL mn rq pc 1 xShr := s_i2 (fun a b k => lv_ishr a b hd k)
theorem s_iushr (hd : decode cc pc = .ok (.iushr, 1)) : SimX own cc nL mn rq pc 1 xUshr := s_i2 (fun a b k => lv_iushr a b hd rfl k)
theorem s_ineg (hd : decode cc pc = .ok (.ineg, 1)) : SimX own cc nL mn rq pc 1 xNeg := by
  refine simP ?_
  intro ls st h ls' st' h' he
  unfold xNeg xI1 at he
  split at he
  · cases he
    refine ⟨rfl, rfl, ?_⟩
    intro G p l e R s m args below meth c A Q C hR ad H locs lsR c0 s0 g hc hs
    exact ⟨ok_c okV_i (ok_t g.2.2.2.2.1), fun k => lv_ineg C.1 C.2.1 hd k⟩
  · cases he
theorem s_idiv (hd : decode cc pc = .ok (.idiv, 1)) : SimX own cc nL mn rq pc 1 xDiv := by
  refine simP ?_
  intro ls st h ls' st' h' he
  unfold xDiv at he
  split at he
  · split at he
    · cases he
    · rename_i hne
      cases he
      refine ⟨rfl, rfl, ?_⟩
      intro G p l e R s m args below meth c A Q C hR ad H locs lsR c0 s0 g hc hs
      exact ⟨ok_c okV_i (ok_t (ok_t g.2.2.2.2.1)), fun k => lv_idiv C.1 C.2.1 hd hne k⟩
  · cases he
theorem s_irem (hd : decode cc pc = .ok (.irem, 1)) : SimX own cc nL mn rq pc 1 xRem := by
  refine simP ?_
  intro ls st h ls' st' h' he
  unfold xRem at he
  split at he
  · split at he
    · cases he
    · rename_i hne
      cases he
      refine ⟨rfl, rfl, ?_⟩
      intro G p l e R s m args below meth c A Q C hR ad H locs lsR c0 s0 g hc hs
      exact ⟨ok_c okV_i (ok_t (ok_t g.2.2.2.2.1)), fun k => lv_irem C.1 C.2.1 hd hne k⟩
  · cases he
theorem s_i2l (hd : decode cc pc = .ok (.i2l, 1)) : SimX own cc nL mn rq pc 1 xI2L := by
  refine simP ?_
  intro ls st h ls' st' h' he
  unfold xI2L at he
  split at he
  · cases he
    refine ⟨rfl, rfl, ?_⟩
    intro G p l e R s m args below meth c A Q C hR ad H locs lsR c0 s0 g hc hs
    exact ⟨ok_c okV_l (ok_t g.2.2.2.2.1), fun k => lv_i2l C.1 C.2.1 hd rfl k⟩
  · cases he
theorem s_ladd (hd : decode cc pc = .ok (.ladd, 1)) : SimX own cc nL mn rq pc 1 xLadd := by
  refine simP ?_
  intro ls st h ls' st' h' he
  unfold xLadd at he
  split at he
  · cases he
    refine ⟨rfl, rfl, ?_⟩
    intro G p l e R s m args below meth c A Q C hR ad H locs lsR c0 s0 g hc hs
    exact ⟨ok_c okV_l (ok_t (ok_t g.2.2.2.2.1)), fun k => lv_ladd C.1 C.2.1 hd k⟩
  · cases he
theorem s_lcmp (hd : decode cc pc = .ok (.lcmp, 1)) : SimX own cc nL mn rq pc 1 xLcmp := by
  refine simP ?_
  intro ls st h ls' st' h' he
  unfold xLcmp at he
  split at he
  · cases he
    refine ⟨rfl, rfl, ?_⟩
    intro G p l e R s m args below meth c A Q C hR ad H locs lsR c0 s0 g hc hs
    exact ⟨ok_c okV_i (ok_t (ok_t g.2.2.2.2.1)), fun k => W.lcmp C.1 C.2.1 hd k⟩
  · cases he
theorem s_i2d (hd : decode cc pc = .ok (.i2d, 1)) : SimX own cc nL mn rq pc 1 xI2D := by
  refine simP ?_
  intro ls st h ls' st' h' he
  unfold xI2D at he
  split at he
  · cases he
    refine ⟨rfl, rfl, ?_⟩
    intro G p l e R s m args below meth c A Q C hR ad H locs lsR c0 s0 g hc hs
    exact ⟨ok_c okV_d (ok_t g.2.2.2.2.1), fun k => lv_i2d C.1 C.2.1 hd k⟩
  · cases he
theorem s_ddiv (hd : decode cc pc = .ok (.ddiv, 1)) : SimX own cc nL mn rq pc 1 xDdiv := by
  refine simP ?_
  intro ls st h ls' st' h' he
  unfold xDdiv at he
  split at he
  · split at he
    · rename_i hne
      cases he
      refine ⟨rfl, rfl, ?_⟩
      intro G p l e R s m args below meth c A Q C hR ad H locs lsR c0 s0 g hc hs
      exact ⟨ok_c okV_d (ok_t (ok_t g.2.2.2.2.1)), fun k => lv_ddiv C.1 C.2.1 hd hne k⟩
    · cases he
  · cases he
theorem s_dcmp {op : CmpOp} (hd : decode cc pc = .ok (.dcmp op, 1)) : SimX own cc nL mn rq pc 1 (xDcmp op) := by
  refine simP ?_
  intro ls st h ls' st' h' he
  unfold xDcmp at he
  split at he
  · cases he
    refine ⟨rfl, rfl, ?_⟩
    intro G p l e R s m args below meth c A Q C hR ad H locs lsR c0 s0 g hc hs
    exact ⟨ok_c okV_i (ok_t (ok_t g.2.2.2.2.1)), fun k => lv_dcmp C.1 C.2.1 hd k⟩
  · cases he
theorem cv_cat {ad : Nat → Nat} {v : Value} : (cv ad v).category = v.category := by cases v <;> rfl
theorem s_dup (hd : decode cc pc = .ok (.dup, 1)) : SimX own cc nL mn rq pc 1 xDup := by
  refine simP ?_
  intro ls st h ls' st' h' he
  unfold xDup at he
  split at he
  · split at he
    · rename_i hv
      cases he
      refine ⟨rfl, rfl, ?_⟩
      intro G p l e R s m args below meth c A Q C hR ad H locs lsR c0 s0 g hc hs
      exact ⟨ok_c (g.2.2.2.2.1 _ List.mem_cons_self) g.2.2.2.2.1, fun k => lv_dup C.1 C.2.1 hd (cv_cat.trans hv) k⟩
    · cases he
  · cases he
theorem s_dup2 (hd : decode cc pc = .ok (.dup2, 1)) : SimX own cc nL mn rq pc 1 xDup2 := by
  refine simP ?_
  intro ls st h ls' st' h' he
  unfold xDup2 at he
  split at he
  · split at he
    · rename_i hv
      cases he
      refine ⟨rfl, rfl, ?_⟩
      intro G p l e R s m args below meth c A Q C hR ad H locs lsR c0 s0 g hc hs
      have g5 := g.2.2.2.2.1
      exact ⟨ok_c (g5 _ List.mem_cons_self) (ok_c (g5 _ (List.mem_cons_of_mem _ List.mem_cons_self)) g5), fun k => lv_dup2_11 C.1 C.2.1 hd (cv_cat.trans hv.1) (cv_cat.trans hv.2) k⟩
    · cases he
  · cases he
end STEPS
