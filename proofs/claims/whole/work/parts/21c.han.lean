def HanE (i : MI) (pc : Nat) (bp : Nat → Nat) (E : String) (n b : Nat) : Prop := ∃ (pre : List ExceptionTableEntry) (x : ExceptionTableEntry) (suf : List ExceptionTableEntry), tableOf i.2.2.2.2.2.2 = pre ++ x :: suf ∧
  (∀ z ∈ pre, covers z pc = false ∨ (z.catchType ≠ 0 ∧ ∃ nm : String, Cond.classLink i.1 z.catchType nm ∈ lw_tbl ∧ (E, nm) ∈ ncs)) ∧ covers x pc = true ∧ x.catchType ≠ 0 ∧ Cond.classLink i.1 x.catchType E ∈ lw_tbl ∧ Cond.castable E E ∈ lw_tbl ∧ n < i.2.2.1 ∧
  ((decode i.2.1 x.handlerPc = .ok (.astore n, 2) ∧ bp b = x.handlerPc + 2) ∨ ∃ k : Fin 4, decode i.2.1 x.handlerPc = .ok (.astore_n k, 1) ∧ (k : Nat) = n ∧ bp b = x.handlerPc + 1)
theorem han_nil {i : MI} {pc : Nat} {bp : Nat → Nat} : HanOK i pc bp [] := fun E n b h => by cases h
theorem han_cons {i : MI} {pc : Nat} {bp : Nat → Nat} {E : String} {n b : Nat} {r : List (String × Nat × Nat)} (h1 : HanE i pc bp E n b) (h2 : HanOK i pc bp r) : HanOK i pc bp ((E, n, b) :: r) := by
  intro E' n' b' h
  unfold hnd at h
  split at h
  · rename_i he
    subst he
    cases h
    exact h1
  · exact h2 E' n' b' h
theorem han_p0 {P : ExceptionTableEntry → Prop} : ∀ z ∈ ([] : List ExceptionTableEntry), P z := fun z hz => absurd hz List.not_mem_nil
theorem han_pc {P : ExceptionTableEntry → Prop} {a : ExceptionTableEntry} {r : List ExceptionTableEntry} (h1 : P a) (h2 : ∀ z ∈ r, P z) : ∀ z ∈ (a :: r), P z := by
  intro z hz
  rcases List.mem_cons.mp hz with rfl | hz
  · exact h1
  · exact h2 z hz
theorem han_263 : HanOK i_263 11 (bpf P_263) [("java/lang/IllegalStateException", 7, 2)] :=
  han_cons (show HanE i_263 11 (bpf P_263) "java/lang/IllegalStateException" 7 2 from ⟨[], ⟨0, 16, 19, 13⟩, [], rfl, han_p0, by decide, by decide, wt_687, wt_697, by decide, Or.inl ⟨dL_append_19, rfl⟩⟩) han_nil
theorem han_264 : HanOK i_264 4 (bpf P_264) [("java/lang/IllegalArgumentException", 3, 2)] :=
  han_cons (show HanE i_264 4 (bpf P_264) "java/lang/IllegalArgumentException" 3 2 from ⟨[], ⟨0, 9, 12, 19⟩, [], rfl, han_p0, by decide, by decide, wt_766, wt_794, by decide, Or.inr ⟨3, dL_count_12, rfl, rfl⟩⟩) han_nil
theorem han_265 : HanOK i_265 5 (bpf P_265) [("java/lang/IndexOutOfBoundsException", 4, 2), ("java/lang/IllegalArgumentException", 4, 3)] :=
  han_cons (show HanE i_265 5 (bpf P_265) "java/lang/IndexOutOfBoundsException" 4 2 from ⟨[], ⟨0, 10, 13, 25⟩, [⟨0, 10, 17, 19⟩], rfl, han_p0, by decide, by decide, wt_810, wt_822, by decide, Or.inl ⟨dL_event_13, rfl⟩⟩) (
  han_cons (show HanE i_265 5 (bpf P_265) "java/lang/IllegalArgumentException" 4 3 from ⟨[⟨0, 10, 13, 25⟩], ⟨0, 10, 17, 19⟩, [], rfl, (han_pc (Or.inr ⟨by decide, "java/lang/IndexOutOfBoundsException", wt_810, by decide⟩) han_p0), by decide, by decide, wt_766, wt_794, by decide, Or.inl ⟨dL_event_17, rfl⟩⟩) han_nil)
theorem han_266 : HanOK i_266 7 (bpf P_266) [("java/lang/IndexOutOfBoundsException", 5, 2), ("java/lang/IllegalArgumentException", 5, 3)] :=
  han_cons (show HanE i_266 7 (bpf P_266) "java/lang/IndexOutOfBoundsException" 5 2 from ⟨[], ⟨0, 12, 15, 25⟩, [⟨0, 12, 19, 19⟩], rfl, han_p0, by decide, by decide, wt_810, wt_822, by decide, Or.inl ⟨dL_note_15, rfl⟩⟩) (
  han_cons (show HanE i_266 7 (bpf P_266) "java/lang/IllegalArgumentException" 5 3 from ⟨[⟨0, 12, 15, 25⟩], ⟨0, 12, 19, 19⟩, [], rfl, (han_pc (Or.inr ⟨by decide, "java/lang/IndexOutOfBoundsException", wt_810, by decide⟩) han_p0), by decide, by decide, wt_766, wt_794, by decide, Or.inl ⟨dL_note_19, rfl⟩⟩) han_nil)
theorem han_267 : HanOK i_267 4 (bpf P_267) [("java/lang/IndexOutOfBoundsException", 3, 2)] :=
  han_cons (show HanE i_267 4 (bpf P_267) "java/lang/IndexOutOfBoundsException" 3 2 from ⟨[], ⟨0, 9, 12, 25⟩, [], rfl, han_p0, by decide, by decide, wt_810, wt_822, by decide, Or.inr ⟨3, dL_weight_12, rfl, rfl⟩⟩) han_nil
theorem han_268 : HanOK i_268 7 (bpf P_268) [("java/lang/IndexOutOfBoundsException", 5, 2), ("java/lang/IllegalArgumentException", 5, 3)] :=
  han_cons (show HanE i_268 7 (bpf P_268) "java/lang/IndexOutOfBoundsException" 5 2 from ⟨[], ⟨0, 12, 15, 25⟩, [⟨0, 12, 19, 19⟩], rfl, han_p0, by decide, by decide, wt_810, wt_822, by decide, Or.inl ⟨dL_span_15, rfl⟩⟩) (
  han_cons (show HanE i_268 7 (bpf P_268) "java/lang/IllegalArgumentException" 5 3 from ⟨[⟨0, 12, 15, 25⟩], ⟨0, 12, 19, 19⟩, [], rfl, (han_pc (Or.inr ⟨by decide, "java/lang/IndexOutOfBoundsException", wt_810, by decide⟩) han_p0), by decide, by decide, wt_766, wt_794, by decide, Or.inl ⟨dL_span_19, rfl⟩⟩) han_nil)
theorem han_269 : HanOK i_269 9 (bpf P_269) [("java/lang/IndexOutOfBoundsException", 6, 2), ("java/lang/IllegalArgumentException", 6, 3)] :=
  han_cons (show HanE i_269 9 (bpf P_269) "java/lang/IndexOutOfBoundsException" 6 2 from ⟨[], ⟨0, 14, 17, 25⟩, [⟨0, 14, 21, 19⟩], rfl, han_p0, by decide, by decide, wt_810, wt_822, by decide, Or.inl ⟨dL_link_17, rfl⟩⟩) (
  han_cons (show HanE i_269 9 (bpf P_269) "java/lang/IllegalArgumentException" 6 3 from ⟨[⟨0, 14, 17, 25⟩], ⟨0, 14, 21, 19⟩, [], rfl, (han_pc (Or.inr ⟨by decide, "java/lang/IndexOutOfBoundsException", wt_810, by decide⟩) han_p0), by decide, by decide, wt_766, wt_794, by decide, Or.inl ⟨dL_link_21, rfl⟩⟩) han_nil)
theorem han_270 : HanOK i_270 5 (bpf P_270) [("java/lang/IndexOutOfBoundsException", 4, 2), ("java/util/NoSuchElementException", 4, 3)] :=
  han_cons (show HanE i_270 5 (bpf P_270) "java/lang/IndexOutOfBoundsException" 4 2 from ⟨[], ⟨0, 10, 13, 25⟩, [⟨0, 10, 17, 44⟩], rfl, han_p0, by decide, by decide, wt_810, wt_822, by decide, Or.inl ⟨dL_finger_13, rfl⟩⟩) (
  han_cons (show HanE i_270 5 (bpf P_270) "java/util/NoSuchElementException" 4 3 from ⟨[⟨0, 10, 13, 25⟩], ⟨0, 10, 17, 44⟩, [], rfl, (han_pc (Or.inr ⟨by decide, "java/lang/IndexOutOfBoundsException", wt_810, by decide⟩) han_p0), by decide, by decide, wt_881, wt_892, by decide, Or.inl ⟨dL_finger_17, rfl⟩⟩) han_nil)
theorem han_271 : HanOK i_271 5 (bpf P_271) [("java/lang/IndexOutOfBoundsException", 4, 2), ("java/lang/IllegalArgumentException", 4, 3), ("java/util/NoSuchElementException", 4, 4)] :=
  han_cons (show HanE i_271 5 (bpf P_271) "java/lang/IndexOutOfBoundsException" 4 2 from ⟨[], ⟨0, 10, 13, 25⟩, [⟨0, 10, 17, 19⟩, ⟨0, 10, 21, 44⟩], rfl, han_p0, by decide, by decide, wt_810, wt_822, by decide, Or.inl ⟨dL_part_13, rfl⟩⟩) (
  han_cons (show HanE i_271 5 (bpf P_271) "java/lang/IllegalArgumentException" 4 3 from ⟨[⟨0, 10, 13, 25⟩], ⟨0, 10, 17, 19⟩, [⟨0, 10, 21, 44⟩], rfl, (han_pc (Or.inr ⟨by decide, "java/lang/IndexOutOfBoundsException", wt_810, by decide⟩) han_p0), by decide, by decide, wt_766, wt_794, by decide, Or.inl ⟨dL_part_17, rfl⟩⟩) (
  han_cons (show HanE i_271 5 (bpf P_271) "java/util/NoSuchElementException" 4 4 from ⟨[⟨0, 10, 13, 25⟩, ⟨0, 10, 17, 19⟩], ⟨0, 10, 21, 44⟩, [], rfl, (han_pc (Or.inr ⟨by decide, "java/lang/IndexOutOfBoundsException", wt_810, by decide⟩) (han_pc (Or.inr ⟨by decide, "java/lang/IllegalArgumentException", wt_766, by decide⟩) han_p0)), by decide, by decide, wt_881, wt_892, by decide, Or.inl ⟨dL_part_21, rfl⟩⟩) han_nil))
theorem han_272 : HanOK i_272 7 (bpf P_272) [("java/lang/IndexOutOfBoundsException", 5, 2)] :=
  han_cons (show HanE i_272 7 (bpf P_272) "java/lang/IndexOutOfBoundsException" 5 2 from ⟨[], ⟨0, 12, 15, 25⟩, [], rfl, han_p0, by decide, by decide, wt_810, wt_822, by decide, Or.inl ⟨dL_costWith_15, rfl⟩⟩) han_nil
theorem han_273 : HanOK i_273 4 (bpf P_273) [("java/lang/IndexOutOfBoundsException", 3, 2), ("java/util/NoSuchElementException", 3, 3)] :=
  han_cons (show HanE i_273 4 (bpf P_273) "java/lang/IndexOutOfBoundsException" 3 2 from ⟨[], ⟨0, 9, 12, 25⟩, [⟨0, 9, 15, 44⟩], rfl, han_p0, by decide, by decide, wt_810, wt_822, by decide, Or.inr ⟨3, dL_uses_12, rfl, rfl⟩⟩) (
  han_cons (show HanE i_273 4 (bpf P_273) "java/util/NoSuchElementException" 3 3 from ⟨[⟨0, 9, 12, 25⟩], ⟨0, 9, 15, 44⟩, [], rfl, (han_pc (Or.inr ⟨by decide, "java/lang/IndexOutOfBoundsException", wt_810, by decide⟩) han_p0), by decide, by decide, wt_881, wt_892, by decide, Or.inr ⟨3, dL_uses_15, rfl, rfl⟩⟩) han_nil)
theorem han_274 : HanOK i_274 3 (bpf P_274) [("java/util/NoSuchElementException", 2, 2)] :=
  han_cons (show HanE i_274 3 (bpf P_274) "java/util/NoSuchElementException" 2 2 from ⟨[], ⟨0, 8, 11, 44⟩, [], rfl, han_p0, by decide, by decide, wt_881, wt_892, by decide, Or.inr ⟨2, dL_sure_11, rfl, rfl⟩⟩) han_nil
theorem han_275 : HanOK i_275 3 (bpf P_275) [("java/util/NoSuchElementException", 2, 2)] :=
  han_cons (show HanE i_275 3 (bpf P_275) "java/util/NoSuchElementException" 2 2 from ⟨[], ⟨0, 7, 10, 44⟩, [], rfl, han_p0, by decide, by decide, wt_881, wt_892, by decide, Or.inr ⟨2, dL_mean_10, rfl, rfl⟩⟩) han_nil
theorem han_276 : HanOK i_276 4 (bpf P_276) [("java/lang/IllegalArgumentException", 3, 2)] :=
  han_cons (show HanE i_276 4 (bpf P_276) "java/lang/IllegalArgumentException" 3 2 from ⟨[], ⟨0, 9, 12, 19⟩, [], rfl, han_p0, by decide, by decide, wt_766, wt_794, by decide, Or.inr ⟨3, dL_transposed_12, rfl, rfl⟩⟩) han_nil
theorem han_277 : HanOK i_277 4 (bpf P_277) [("java/lang/IllegalArgumentException", 3, 2), ("java/util/NoSuchElementException", 3, 3)] :=
  han_cons (show HanE i_277 4 (bpf P_277) "java/lang/IllegalArgumentException" 3 2 from ⟨[], ⟨0, 9, 12, 19⟩, [⟨0, 9, 15, 44⟩], rfl, han_p0, by decide, by decide, wt_766, wt_794, by decide, Or.inr ⟨3, dL_easiest_12, rfl, rfl⟩⟩) (
  han_cons (show HanE i_277 4 (bpf P_277) "java/util/NoSuchElementException" 3 3 from ⟨[⟨0, 9, 12, 19⟩], ⟨0, 9, 15, 44⟩, [], rfl, (han_pc (Or.inr ⟨by decide, "java/lang/IllegalArgumentException", wt_766, by decide⟩) han_p0), by decide, by decide, wt_881, wt_892, by decide, Or.inr ⟨3, dL_easiest_15, rfl, rfl⟩⟩) han_nil)
theorem han_278 : HanOK i_278 11 (bpf P_278) [("java/lang/IndexOutOfBoundsException", 7, 2), ("java/lang/IllegalArgumentException", 7, 3)] :=
  han_cons (show HanE i_278 11 (bpf P_278) "java/lang/IndexOutOfBoundsException" 7 2 from ⟨[], ⟨0, 16, 19, 25⟩, [⟨0, 16, 23, 19⟩], rfl, han_p0, by decide, by decide, wt_810, wt_822, by decide, Or.inl ⟨dL_play_19, rfl⟩⟩) (
  han_cons (show HanE i_278 11 (bpf P_278) "java/lang/IllegalArgumentException" 7 3 from ⟨[⟨0, 16, 19, 25⟩], ⟨0, 16, 23, 19⟩, [], rfl, (han_pc (Or.inr ⟨by decide, "java/lang/IndexOutOfBoundsException", wt_810, by decide⟩) han_p0), by decide, by decide, wt_766, wt_794, by decide, Or.inl ⟨dL_play_23, rfl⟩⟩) han_nil)
theorem han_279 : HanOK i_279 4 (bpf P_279) [("java/lang/IndexOutOfBoundsException", 3, 2)] :=
  han_cons (show HanE i_279 4 (bpf P_279) "java/lang/IndexOutOfBoundsException" 3 2 from ⟨[], ⟨0, 9, 12, 25⟩, [], rfl, han_p0, by decide, by decide, wt_810, wt_822, by decide, Or.inr ⟨3, dL_drop_12, rfl, rfl⟩⟩) han_nil
theorem han_280 : HanOK i_280 5 (bpf P_280) [("java/lang/IndexOutOfBoundsException", 4, 2), ("java/lang/IllegalArgumentException", 4, 3)] :=
  han_cons (show HanE i_280 5 (bpf P_280) "java/lang/IndexOutOfBoundsException" 4 2 from ⟨[], ⟨0, 10, 13, 25⟩, [⟨0, 10, 17, 19⟩], rfl, han_p0, by decide, by decide, wt_810, wt_822, by decide, Or.inl ⟨dL_setRest_13, rfl⟩⟩) (
  han_cons (show HanE i_280 5 (bpf P_280) "java/lang/IllegalArgumentException" 4 3 from ⟨[⟨0, 10, 13, 25⟩], ⟨0, 10, 17, 19⟩, [], rfl, (han_pc (Or.inr ⟨by decide, "java/lang/IndexOutOfBoundsException", wt_810, by decide⟩) han_p0), by decide, by decide, wt_766, wt_794, by decide, Or.inl ⟨dL_setRest_17, rfl⟩⟩) han_nil)
theorem han_281 : HanOK i_281 9 (bpf P_281) [("java/lang/IndexOutOfBoundsException", 6, 2)] :=
  han_cons (show HanE i_281 9 (bpf P_281) "java/lang/IndexOutOfBoundsException" 6 2 from ⟨[], ⟨0, 14, 17, 25⟩, [], rfl, han_p0, by decide, by decide, wt_810, wt_822, by decide, Or.inl ⟨dL_let_17, rfl⟩⟩) han_nil
theorem han_282 : HanOK i_282 5 (bpf P_282) [("java/lang/IndexOutOfBoundsException", 4, 2), ("java/lang/IllegalArgumentException", 4, 3)] :=
  han_cons (show HanE i_282 5 (bpf P_282) "java/lang/IndexOutOfBoundsException" 4 2 from ⟨[], ⟨0, 10, 13, 25⟩, [⟨0, 10, 17, 19⟩], rfl, han_p0, by decide, by decide, wt_810, wt_822, by decide, Or.inl ⟨dL_setWeight_13, rfl⟩⟩) (
  han_cons (show HanE i_282 5 (bpf P_282) "java/lang/IllegalArgumentException" 4 3 from ⟨[⟨0, 10, 13, 25⟩], ⟨0, 10, 17, 19⟩, [], rfl, (han_pc (Or.inr ⟨by decide, "java/lang/IndexOutOfBoundsException", wt_810, by decide⟩) han_p0), by decide, by decide, wt_766, wt_794, by decide, Or.inl ⟨dL_setWeight_17, rfl⟩⟩) han_nil)
theorem han_283 : HanOK i_283 11 (bpf P_283) [("java/lang/IndexOutOfBoundsException", 7, 2), ("java/lang/IllegalArgumentException", 7, 3)] :=
  han_cons (show HanE i_283 11 (bpf P_283) "java/lang/IndexOutOfBoundsException" 7 2 from ⟨[], ⟨0, 16, 19, 25⟩, [⟨0, 16, 23, 19⟩], rfl, han_p0, by decide, by decide, wt_810, wt_822, by decide, Or.inl ⟨dL_setSpan_19, rfl⟩⟩) (
  han_cons (show HanE i_283 11 (bpf P_283) "java/lang/IllegalArgumentException" 7 3 from ⟨[⟨0, 16, 19, 25⟩], ⟨0, 16, 23, 19⟩, [], rfl, (han_pc (Or.inr ⟨by decide, "java/lang/IndexOutOfBoundsException", wt_810, by decide⟩) han_p0), by decide, by decide, wt_766, wt_794, by decide, Or.inl ⟨dL_setSpan_23, rfl⟩⟩) han_nil)
theorem han_284 : HanOK i_284 4 (bpf P_284) [("java/lang/IllegalArgumentException", 3, 2)] :=
  han_cons (show HanE i_284 4 (bpf P_284) "java/lang/IllegalArgumentException" 3 2 from ⟨[], ⟨0, 9, 12, 19⟩, [], rfl, han_p0, by decide, by decide, wt_766, wt_794, by decide, Or.inr ⟨3, dL_transpose_12, rfl, rfl⟩⟩) han_nil
theorem han_285 : HanOK i_285 3 (bpf P_285) [("java/util/NoSuchElementException", 2, 2)] :=
  han_cons (show HanE i_285 3 (bpf P_285) "java/util/NoSuchElementException" 2 2 from ⟨[], ⟨0, 8, 11, 44⟩, [], rfl, han_p0, by decide, by decide, wt_881, wt_892, by decide, Or.inr ⟨2, dL_fix_11, rfl, rfl⟩⟩) han_nil
theorem han_286 : HanOK i_286 3 (bpf P_286) [("java/lang/IllegalStateException", 2, 2)] :=
  han_cons (show HanE i_286 3 (bpf P_286) "java/lang/IllegalStateException" 2 2 from ⟨[], ⟨0, 8, 11, 13⟩, [], rfl, han_p0, by decide, by decide, wt_687, wt_697, by decide, Or.inr ⟨2, dL_undo_11, rfl, rfl⟩⟩) han_nil
theorem han_287 : HanOK i_287 2 (bpf P_287) [("java/lang/IndexOutOfBoundsException", 2, 2)] :=
  han_cons (show HanE i_287 2 (bpf P_287) "java/lang/IndexOutOfBoundsException" 2 2 from ⟨[], ⟨0, 5, 8, 25⟩, [], rfl, han_p0, by decide, by decide, wt_810, wt_822, by decide, Or.inr ⟨2, dL_save_8, rfl, rfl⟩⟩) han_nil
theorem han_288 : HanOK i_288 4 (bpf P_288) [("java/lang/IndexOutOfBoundsException", 3, 2), ("java/lang/IllegalStateException", 3, 3)] :=
  han_cons (show HanE i_288 4 (bpf P_288) "java/lang/IndexOutOfBoundsException" 3 2 from ⟨[], ⟨0, 9, 12, 25⟩, [⟨0, 9, 15, 13⟩], rfl, han_p0, by decide, by decide, wt_810, wt_822, by decide, Or.inr ⟨3, dL_restore_12, rfl, rfl⟩⟩) (
  han_cons (show HanE i_288 4 (bpf P_288) "java/lang/IllegalStateException" 3 3 from ⟨[⟨0, 9, 12, 25⟩], ⟨0, 9, 15, 13⟩, [], rfl, (han_pc (Or.inr ⟨by decide, "java/lang/IndexOutOfBoundsException", wt_810, by decide⟩) han_p0), by decide, by decide, wt_687, wt_697, by decide, Or.inr ⟨3, dL_restore_15, rfl, rfl⟩⟩) han_nil)
theorem han_289 : HanOK i_289 3 (bpf P_289) [("java/util/NoSuchElementException", 2, 2)] :=
  han_cons (show HanE i_289 3 (bpf P_289) "java/util/NoSuchElementException" 2 2 from ⟨[], ⟨0, 8, 11, 44⟩, [], rfl, han_p0, by decide, by decide, wt_881, wt_892, by decide, Or.inr ⟨2, dL_writeFingers_11, rfl, rfl⟩⟩) han_nil
theorem han_290 : HanOK i_290 4 (bpf P_290) [("java/lang/IndexOutOfBoundsException", 3, 2)] :=
  han_cons (show HanE i_290 4 (bpf P_290) "java/lang/IndexOutOfBoundsException" 3 2 from ⟨[], ⟨0, 9, 12, 25⟩, [], rfl, han_p0, by decide, by decide, wt_810, wt_822, by decide, Or.inr ⟨3, dL_writtenByte_12, rfl, rfl⟩⟩) han_nil
