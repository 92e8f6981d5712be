/-! The law asks the class: answers and refusals. -/
section WR
variable {g g' : Gm} {I I' : Mm} {x o : Nat}
theorem lw_append {v : Int} {a0 a1 a2 a3 a4 : Int} (h0 : g.1 x = sX5 x) (ho : gt g' o = 1) (hn : gn g' o = 1) (h : cl 93 [.ref x, .int (iI a0), .int (iI a1), .int (iI a2), .int (iI a3), .int (iI a4)] (mk g I) = some (.inl (some (.int (iI v))), mk g' I')) : cl 263 [.ref x, .int (iI a0), .int (iI a1), .int (iI a2), .int (iI a3), .int (iI a4), .ref o] (mk g I) = some (.inl (some (.int (iI 0))), mk (gL g' (upd2 g'.2.1 o 0 (iI v).toInt)) I') := by
  rw [show iI v = iI (iI v).toInt from iI_of _] at h
  have hr := iI_rng (iI v)
  obtain ⟨w, hw⟩ : ∃ w, w = (iI v).toInt := ⟨_, rfl⟩
  rw [← hw] at h hr ⊢
  have b0 : (0 : Int) < (gn g' o : Int) := by omega
  simp (maxSteps := 2000000) (disch := first | assumption | omega) only [aft_v, aft_n, aft_t, Nat.add_assoc, Nat.reduceAdd, if_true, if_false, not_true_eq_false, not_false_eq_true, Classical.not_not, Int.reduceAdd, Int.reduceSub, Int.reduceMul, Int.reduceNeg, Int.reduceLT, Int.reduceLE, Int.reduceEq, Int.add_zero, Int.zero_add, Int.sub_zero, c_263, w_263_0, h]
  simp (maxSteps := 2000000) (disch := first | assumption | omega) only [aft_v, aft_n, aft_t, Nat.add_assoc, Nat.reduceAdd, if_true, if_false, not_true_eq_false, not_false_eq_true, Classical.not_not, Int.reduceAdd, Int.reduceSub, Int.reduceMul, Int.reduceNeg, Int.reduceLT, Int.reduceLE, Int.reduceEq, Int.add_zero, Int.zero_add, Int.sub_zero, w_263_1, w_263_3]
theorem lw_append_1 {a0 a1 a2 a3 a4 : Int} (h0 : g.1 x = sX5 x) (h : cl 93 [.ref x, .int (iI a0), .int (iI a1), .int (iI a2), .int (iI a3), .int (iI a4)] (mk g I) = some (.inr "java/lang/IllegalStateException", mk g' I')) : cl 263 [.ref x, .int (iI a0), .int (iI a1), .int (iI a2), .int (iI a3), .int (iI a4), .ref o] (mk g I) = some (.inl (some (.int (iI 1))), mk g' I') := by
  simp (maxSteps := 2000000) (disch := first | assumption | omega) only [aft_v, aft_n, aft_t, Nat.add_assoc, Nat.reduceAdd, if_true, if_false, not_true_eq_false, not_false_eq_true, Classical.not_not, Int.reduceAdd, Int.reduceSub, Int.reduceMul, Int.reduceNeg, Int.reduceLT, Int.reduceLE, Int.reduceEq, Int.add_zero, Int.zero_add, Int.sub_zero, c_263, w_263_0]
  rw [h]
  exact w_263_2
theorem lw_count {v : Int} {a0 : Int} (h0 : g.1 x = sX5 x) (ho : gt g' o = 1) (hn : gn g' o = 1) (h : cl 96 [.ref x, .int (iI a0)] (mk g I) = some (.inl (some (.int (iI v))), mk g' I')) : cl 264 [.ref x, .int (iI a0), .ref o] (mk g I) = some (.inl (some (.int (iI 0))), mk (gL g' (upd2 g'.2.1 o 0 (iI v).toInt)) I') := by
  rw [show iI v = iI (iI v).toInt from iI_of _] at h
  have hr := iI_rng (iI v)
  obtain ⟨w, hw⟩ : ∃ w, w = (iI v).toInt := ⟨_, rfl⟩
  rw [← hw] at h hr ⊢
  have b0 : (0 : Int) < (gn g' o : Int) := by omega
  simp (maxSteps := 2000000) (disch := first | assumption | omega) only [aft_v, aft_n, aft_t, Nat.add_assoc, Nat.reduceAdd, if_true, if_false, not_true_eq_false, not_false_eq_true, Classical.not_not, Int.reduceAdd, Int.reduceSub, Int.reduceMul, Int.reduceNeg, Int.reduceLT, Int.reduceLE, Int.reduceEq, Int.add_zero, Int.zero_add, Int.sub_zero, c_264, w_264_0, h]
  simp (maxSteps := 2000000) (disch := first | assumption | omega) only [aft_v, aft_n, aft_t, Nat.add_assoc, Nat.reduceAdd, if_true, if_false, not_true_eq_false, not_false_eq_true, Classical.not_not, Int.reduceAdd, Int.reduceSub, Int.reduceMul, Int.reduceNeg, Int.reduceLT, Int.reduceLE, Int.reduceEq, Int.add_zero, Int.zero_add, Int.sub_zero, w_264_1, w_264_3]
theorem lw_count_1 {a0 : Int} (h0 : g.1 x = sX5 x) (h : cl 96 [.ref x, .int (iI a0)] (mk g I) = some (.inr "java/lang/IllegalArgumentException", mk g' I')) : cl 264 [.ref x, .int (iI a0), .ref o] (mk g I) = some (.inl (some (.int (iI 1))), mk g' I') := by
  simp (maxSteps := 2000000) (disch := first | assumption | omega) only [aft_v, aft_n, aft_t, Nat.add_assoc, Nat.reduceAdd, if_true, if_false, not_true_eq_false, not_false_eq_true, Classical.not_not, Int.reduceAdd, Int.reduceSub, Int.reduceMul, Int.reduceNeg, Int.reduceLT, Int.reduceLE, Int.reduceEq, Int.add_zero, Int.zero_add, Int.sub_zero, c_264, w_264_0]
  rw [h]
  exact w_264_2
theorem lw_event {v : Int} {a0 a1 : Int} (h0 : g.1 x = sX5 x) (ho : gt g' o = 1) (hn : gn g' o = 1) (h : cl 97 [.ref x, .int (iI a0), .int (iI a1)] (mk g I) = some (.inl (some (.int (iI v))), mk g' I')) : cl 265 [.ref x, .int (iI a0), .int (iI a1), .ref o] (mk g I) = some (.inl (some (.int (iI 0))), mk (gL g' (upd2 g'.2.1 o 0 (iI v).toInt)) I') := by
  rw [show iI v = iI (iI v).toInt from iI_of _] at h
  have hr := iI_rng (iI v)
  obtain ⟨w, hw⟩ : ∃ w, w = (iI v).toInt := ⟨_, rfl⟩
  rw [← hw] at h hr ⊢
  have b0 : (0 : Int) < (gn g' o : Int) := by omega
  simp (maxSteps := 2000000) (disch := first | assumption | omega) only [aft_v, aft_n, aft_t, Nat.add_assoc, Nat.reduceAdd, if_true, if_false, not_true_eq_false, not_false_eq_true, Classical.not_not, Int.reduceAdd, Int.reduceSub, Int.reduceMul, Int.reduceNeg, Int.reduceLT, Int.reduceLE, Int.reduceEq, Int.add_zero, Int.zero_add, Int.sub_zero, c_265, w_265_0, h]
  simp (maxSteps := 2000000) (disch := first | assumption | omega) only [aft_v, aft_n, aft_t, Nat.add_assoc, Nat.reduceAdd, if_true, if_false, not_true_eq_false, not_false_eq_true, Classical.not_not, Int.reduceAdd, Int.reduceSub, Int.reduceMul, Int.reduceNeg, Int.reduceLT, Int.reduceLE, Int.reduceEq, Int.add_zero, Int.zero_add, Int.sub_zero, w_265_1, w_265_4]
theorem lw_event_1 {a0 a1 : Int} (h0 : g.1 x = sX5 x) (h : cl 97 [.ref x, .int (iI a0), .int (iI a1)] (mk g I) = some (.inr "java/lang/IndexOutOfBoundsException", mk g' I')) : cl 265 [.ref x, .int (iI a0), .int (iI a1), .ref o] (mk g I) = some (.inl (some (.int (iI 1))), mk g' I') := by
  simp (maxSteps := 2000000) (disch := first | assumption | omega) only [aft_v, aft_n, aft_t, Nat.add_assoc, Nat.reduceAdd, if_true, if_false, not_true_eq_false, not_false_eq_true, Classical.not_not, Int.reduceAdd, Int.reduceSub, Int.reduceMul, Int.reduceNeg, Int.reduceLT, Int.reduceLE, Int.reduceEq, Int.add_zero, Int.zero_add, Int.sub_zero, c_265, w_265_0]
  rw [h]
  exact w_265_2
theorem lw_event_2 {a0 a1 : Int} (h0 : g.1 x = sX5 x) (h : cl 97 [.ref x, .int (iI a0), .int (iI a1)] (mk g I) = some (.inr "java/lang/IllegalArgumentException", mk g' I')) : cl 265 [.ref x, .int (iI a0), .int (iI a1), .ref o] (mk g I) = some (.inl (some (.int (iI 2))), mk g' I') := by
  simp (maxSteps := 2000000) (disch := first | assumption | omega) only [aft_v, aft_n, aft_t, Nat.add_assoc, Nat.reduceAdd, if_true, if_false, not_true_eq_false, not_false_eq_true, Classical.not_not, Int.reduceAdd, Int.reduceSub, Int.reduceMul, Int.reduceNeg, Int.reduceLT, Int.reduceLE, Int.reduceEq, Int.add_zero, Int.zero_add, Int.sub_zero, c_265, w_265_0]
  rw [h]
  exact w_265_3
theorem lw_note {v : Int} {a0 a1 a2 : Int} (h0 : g.1 x = sX5 x) (ho : gt g' o = 1) (hn : gn g' o = 1) (h : cl 98 [.ref x, .int (iI a0), .int (iI a1), .int (iI a2)] (mk g I) = some (.inl (some (.int (iI v))), mk g' I')) : cl 266 [.ref x, .int (iI a0), .int (iI a1), .int (iI a2), .ref o] (mk g I) = some (.inl (some (.int (iI 0))), mk (gL g' (upd2 g'.2.1 o 0 (iI v).toInt)) I') := by
  rw [show iI v = iI (iI v).toInt from iI_of _] at h
  have hr := iI_rng (iI v)
  obtain ⟨w, hw⟩ : ∃ w, w = (iI v).toInt := ⟨_, rfl⟩
  rw [← hw] at h hr ⊢
  have b0 : (0 : Int) < (gn g' o : Int) := by omega
  simp (maxSteps := 2000000) (disch := first | assumption | omega) only [aft_v, aft_n, aft_t, Nat.add_assoc, Nat.reduceAdd, if_true, if_false, not_true_eq_false, not_false_eq_true, Classical.not_not, Int.reduceAdd, Int.reduceSub, Int.reduceMul, Int.reduceNeg, Int.reduceLT, Int.reduceLE, Int.reduceEq, Int.add_zero, Int.zero_add, Int.sub_zero, c_266, w_266_0, h]
  simp (maxSteps := 2000000) (disch := first | assumption | omega) only [aft_v, aft_n, aft_t, Nat.add_assoc, Nat.reduceAdd, if_true, if_false, not_true_eq_false, not_false_eq_true, Classical.not_not, Int.reduceAdd, Int.reduceSub, Int.reduceMul, Int.reduceNeg, Int.reduceLT, Int.reduceLE, Int.reduceEq, Int.add_zero, Int.zero_add, Int.sub_zero, w_266_1, w_266_4]
theorem lw_note_1 {a0 a1 a2 : Int} (h0 : g.1 x = sX5 x) (h : cl 98 [.ref x, .int (iI a0), .int (iI a1), .int (iI a2)] (mk g I) = some (.inr "java/lang/IndexOutOfBoundsException", mk g' I')) : cl 266 [.ref x, .int (iI a0), .int (iI a1), .int (iI a2), .ref o] (mk g I) = some (.inl (some (.int (iI 1))), mk g' I') := by
  simp (maxSteps := 2000000) (disch := first | assumption | omega) only [aft_v, aft_n, aft_t, Nat.add_assoc, Nat.reduceAdd, if_true, if_false, not_true_eq_false, not_false_eq_true, Classical.not_not, Int.reduceAdd, Int.reduceSub, Int.reduceMul, Int.reduceNeg, Int.reduceLT, Int.reduceLE, Int.reduceEq, Int.add_zero, Int.zero_add, Int.sub_zero, c_266, w_266_0]
  rw [h]
  exact w_266_2
theorem lw_note_2 {a0 a1 a2 : Int} (h0 : g.1 x = sX5 x) (h : cl 98 [.ref x, .int (iI a0), .int (iI a1), .int (iI a2)] (mk g I) = some (.inr "java/lang/IllegalArgumentException", mk g' I')) : cl 266 [.ref x, .int (iI a0), .int (iI a1), .int (iI a2), .ref o] (mk g I) = some (.inl (some (.int (iI 2))), mk g' I') := by
  simp (maxSteps := 2000000) (disch := first | assumption | omega) only [aft_v, aft_n, aft_t, Nat.add_assoc, Nat.reduceAdd, if_true, if_false, not_true_eq_false, not_false_eq_true, Classical.not_not, Int.reduceAdd, Int.reduceSub, Int.reduceMul, Int.reduceNeg, Int.reduceLT, Int.reduceLE, Int.reduceEq, Int.add_zero, Int.zero_add, Int.sub_zero, c_266, w_266_0]
  rw [h]
  exact w_266_3
theorem lw_weight {v : Int} {a0 : Int} (h0 : g.1 x = sX5 x) (ho : gt g' o = 1) (hn : gn g' o = 1) (h : cl 99 [.ref x, .int (iI a0)] (mk g I) = some (.inl (some (.int (iI v))), mk g' I')) : cl 267 [.ref x, .int (iI a0), .ref o] (mk g I) = some (.inl (some (.int (iI 0))), mk (gL g' (upd2 g'.2.1 o 0 (iI v).toInt)) I') := by
  rw [show iI v = iI (iI v).toInt from iI_of _] at h
  have hr := iI_rng (iI v)
  obtain ⟨w, hw⟩ : ∃ w, w = (iI v).toInt := ⟨_, rfl⟩
  rw [← hw] at h hr ⊢
  have b0 : (0 : Int) < (gn g' o : Int) := by omega
  simp (maxSteps := 2000000) (disch := first | assumption | omega) only [aft_v, aft_n, aft_t, Nat.add_assoc, Nat.reduceAdd, if_true, if_false, not_true_eq_false, not_false_eq_true, Classical.not_not, Int.reduceAdd, Int.reduceSub, Int.reduceMul, Int.reduceNeg, Int.reduceLT, Int.reduceLE, Int.reduceEq, Int.add_zero, Int.zero_add, Int.sub_zero, c_267, w_267_0, h]
  simp (maxSteps := 2000000) (disch := first | assumption | omega) only [aft_v, aft_n, aft_t, Nat.add_assoc, Nat.reduceAdd, if_true, if_false, not_true_eq_false, not_false_eq_true, Classical.not_not, Int.reduceAdd, Int.reduceSub, Int.reduceMul, Int.reduceNeg, Int.reduceLT, Int.reduceLE, Int.reduceEq, Int.add_zero, Int.zero_add, Int.sub_zero, w_267_1, w_267_3]
theorem lw_weight_1 {a0 : Int} (h0 : g.1 x = sX5 x) (h : cl 99 [.ref x, .int (iI a0)] (mk g I) = some (.inr "java/lang/IndexOutOfBoundsException", mk g' I')) : cl 267 [.ref x, .int (iI a0), .ref o] (mk g I) = some (.inl (some (.int (iI 1))), mk g' I') := by
  simp (maxSteps := 2000000) (disch := first | assumption | omega) only [aft_v, aft_n, aft_t, Nat.add_assoc, Nat.reduceAdd, if_true, if_false, not_true_eq_false, not_false_eq_true, Classical.not_not, Int.reduceAdd, Int.reduceSub, Int.reduceMul, Int.reduceNeg, Int.reduceLT, Int.reduceLE, Int.reduceEq, Int.add_zero, Int.zero_add, Int.sub_zero, c_267, w_267_0]
  rw [h]
  exact w_267_2
theorem lw_span {v : Int} {a0 a1 a2 : Int} (h0 : g.1 x = sX5 x) (ho : gt g' o = 1) (hn : gn g' o = 1) (h : cl 100 [.ref x, .int (iI a0), .int (iI a1), .int (iI a2)] (mk g I) = some (.inl (some (.int (iI v))), mk g' I')) : cl 268 [.ref x, .int (iI a0), .int (iI a1), .int (iI a2), .ref o] (mk g I) = some (.inl (some (.int (iI 0))), mk (gL g' (upd2 g'.2.1 o 0 (iI v).toInt)) I') := by
  rw [show iI v = iI (iI v).toInt from iI_of _] at h
  have hr := iI_rng (iI v)
  obtain ⟨w, hw⟩ : ∃ w, w = (iI v).toInt := ⟨_, rfl⟩
  rw [← hw] at h hr ⊢
  have b0 : (0 : Int) < (gn g' o : Int) := by omega
  simp (maxSteps := 2000000) (disch := first | assumption | omega) only [aft_v, aft_n, aft_t, Nat.add_assoc, Nat.reduceAdd, if_true, if_false, not_true_eq_false, not_false_eq_true, Classical.not_not, Int.reduceAdd, Int.reduceSub, Int.reduceMul, Int.reduceNeg, Int.reduceLT, Int.reduceLE, Int.reduceEq, Int.add_zero, Int.zero_add, Int.sub_zero, c_268, w_268_0, h]
  simp (maxSteps := 2000000) (disch := first | assumption | omega) only [aft_v, aft_n, aft_t, Nat.add_assoc, Nat.reduceAdd, if_true, if_false, not_true_eq_false, not_false_eq_true, Classical.not_not, Int.reduceAdd, Int.reduceSub, Int.reduceMul, Int.reduceNeg, Int.reduceLT, Int.reduceLE, Int.reduceEq, Int.add_zero, Int.zero_add, Int.sub_zero, w_268_1, w_268_4]
theorem lw_span_1 {a0 a1 a2 : Int} (h0 : g.1 x = sX5 x) (h : cl 100 [.ref x, .int (iI a0), .int (iI a1), .int (iI a2)] (mk g I) = some (.inr "java/lang/IndexOutOfBoundsException", mk g' I')) : cl 268 [.ref x, .int (iI a0), .int (iI a1), .int (iI a2), .ref o] (mk g I) = some (.inl (some (.int (iI 1))), mk g' I') := by
  simp (maxSteps := 2000000) (disch := first | assumption | omega) only [aft_v, aft_n, aft_t, Nat.add_assoc, Nat.reduceAdd, if_true, if_false, not_true_eq_false, not_false_eq_true, Classical.not_not, Int.reduceAdd, Int.reduceSub, Int.reduceMul, Int.reduceNeg, Int.reduceLT, Int.reduceLE, Int.reduceEq, Int.add_zero, Int.zero_add, Int.sub_zero, c_268, w_268_0]
  rw [h]
  exact w_268_2
theorem lw_span_2 {a0 a1 a2 : Int} (h0 : g.1 x = sX5 x) (h : cl 100 [.ref x, .int (iI a0), .int (iI a1), .int (iI a2)] (mk g I) = some (.inr "java/lang/IllegalArgumentException", mk g' I')) : cl 268 [.ref x, .int (iI a0), .int (iI a1), .int (iI a2), .ref o] (mk g I) = some (.inl (some (.int (iI 2))), mk g' I') := by
  simp (maxSteps := 2000000) (disch := first | assumption | omega) only [aft_v, aft_n, aft_t, Nat.add_assoc, Nat.reduceAdd, if_true, if_false, not_true_eq_false, not_false_eq_true, Classical.not_not, Int.reduceAdd, Int.reduceSub, Int.reduceMul, Int.reduceNeg, Int.reduceLT, Int.reduceLE, Int.reduceEq, Int.add_zero, Int.zero_add, Int.sub_zero, c_268, w_268_0]
  rw [h]
  exact w_268_3
theorem lw_link {v : Int} {a0 a1 a2 a3 : Int} (h0 : g.1 x = sX5 x) (ho : gt g' o = 1) (hn : gn g' o = 1) (h : cl 101 [.ref x, .int (iI a0), .int (iI a1), .int (iI a2), .int (iI a3)] (mk g I) = some (.inl (some (.int (iI v))), mk g' I')) : cl 269 [.ref x, .int (iI a0), .int (iI a1), .int (iI a2), .int (iI a3), .ref o] (mk g I) = some (.inl (some (.int (iI 0))), mk (gL g' (upd2 g'.2.1 o 0 (iI v).toInt)) I') := by
  rw [show iI v = iI (iI v).toInt from iI_of _] at h
  have hr := iI_rng (iI v)
  obtain ⟨w, hw⟩ : ∃ w, w = (iI v).toInt := ⟨_, rfl⟩
  rw [← hw] at h hr ⊢
  have b0 : (0 : Int) < (gn g' o : Int) := by omega
  simp (maxSteps := 2000000) (disch := first | assumption | omega) only [aft_v, aft_n, aft_t, Nat.add_assoc, Nat.reduceAdd, if_true, if_false, not_true_eq_false, not_false_eq_true, Classical.not_not, Int.reduceAdd, Int.reduceSub, Int.reduceMul, Int.reduceNeg, Int.reduceLT, Int.reduceLE, Int.reduceEq, Int.add_zero, Int.zero_add, Int.sub_zero, c_269, w_269_0, h]
  simp (maxSteps := 2000000) (disch := first | assumption | omega) only [aft_v, aft_n, aft_t, Nat.add_assoc, Nat.reduceAdd, if_true, if_false, not_true_eq_false, not_false_eq_true, Classical.not_not, Int.reduceAdd, Int.reduceSub, Int.reduceMul, Int.reduceNeg, Int.reduceLT, Int.reduceLE, Int.reduceEq, Int.add_zero, Int.zero_add, Int.sub_zero, w_269_1, w_269_4]
theorem lw_link_1 {a0 a1 a2 a3 : Int} (h0 : g.1 x = sX5 x) (h : cl 101 [.ref x, .int (iI a0), .int (iI a1), .int (iI a2), .int (iI a3)] (mk g I) = some (.inr "java/lang/IndexOutOfBoundsException", mk g' I')) : cl 269 [.ref x, .int (iI a0), .int (iI a1), .int (iI a2), .int (iI a3), .ref o] (mk g I) = some (.inl (some (.int (iI 1))), mk g' I') := by
  simp (maxSteps := 2000000) (disch := first | assumption | omega) only [aft_v, aft_n, aft_t, Nat.add_assoc, Nat.reduceAdd, if_true, if_false, not_true_eq_false, not_false_eq_true, Classical.not_not, Int.reduceAdd, Int.reduceSub, Int.reduceMul, Int.reduceNeg, Int.reduceLT, Int.reduceLE, Int.reduceEq, Int.add_zero, Int.zero_add, Int.sub_zero, c_269, w_269_0]
  rw [h]
  exact w_269_2
theorem lw_link_2 {a0 a1 a2 a3 : Int} (h0 : g.1 x = sX5 x) (h : cl 101 [.ref x, .int (iI a0), .int (iI a1), .int (iI a2), .int (iI a3)] (mk g I) = some (.inr "java/lang/IllegalArgumentException", mk g' I')) : cl 269 [.ref x, .int (iI a0), .int (iI a1), .int (iI a2), .int (iI a3), .ref o] (mk g I) = some (.inl (some (.int (iI 2))), mk g' I') := by
  simp (maxSteps := 2000000) (disch := first | assumption | omega) only [aft_v, aft_n, aft_t, Nat.add_assoc, Nat.reduceAdd, if_true, if_false, not_true_eq_false, not_false_eq_true, Classical.not_not, Int.reduceAdd, Int.reduceSub, Int.reduceMul, Int.reduceNeg, Int.reduceLT, Int.reduceLE, Int.reduceEq, Int.add_zero, Int.zero_add, Int.sub_zero, c_269, w_269_0]
  rw [h]
  exact w_269_3
theorem lw_finger {v : Int} {a0 a1 : Int} (h0 : g.1 x = sX5 x) (ho : gt g' o = 1) (hn : gn g' o = 1) (h : cl 103 [.ref x, .int (iI a0), .int (iI a1)] (mk g I) = some (.inl (some (.int (iI v))), mk g' I')) : cl 270 [.ref x, .int (iI a0), .int (iI a1), .ref o] (mk g I) = some (.inl (some (.int (iI 0))), mk (gL g' (upd2 g'.2.1 o 0 (iI v).toInt)) I') := by
  rw [show iI v = iI (iI v).toInt from iI_of _] at h
  have hr := iI_rng (iI v)
  obtain ⟨w, hw⟩ : ∃ w, w = (iI v).toInt := ⟨_, rfl⟩
  rw [← hw] at h hr ⊢
  have b0 : (0 : Int) < (gn g' o : Int) := by omega
  simp (maxSteps := 2000000) (disch := first | assumption | omega) only [aft_v, aft_n, aft_t, Nat.add_assoc, Nat.reduceAdd, if_true, if_false, not_true_eq_false, not_false_eq_true, Classical.not_not, Int.reduceAdd, Int.reduceSub, Int.reduceMul, Int.reduceNeg, Int.reduceLT, Int.reduceLE, Int.reduceEq, Int.add_zero, Int.zero_add, Int.sub_zero, c_270, w_270_0, h]
  simp (maxSteps := 2000000) (disch := first | assumption | omega) only [aft_v, aft_n, aft_t, Nat.add_assoc, Nat.reduceAdd, if_true, if_false, not_true_eq_false, not_false_eq_true, Classical.not_not, Int.reduceAdd, Int.reduceSub, Int.reduceMul, Int.reduceNeg, Int.reduceLT, Int.reduceLE, Int.reduceEq, Int.add_zero, Int.zero_add, Int.sub_zero, w_270_1, w_270_4]
theorem lw_finger_1 {a0 a1 : Int} (h0 : g.1 x = sX5 x) (h : cl 103 [.ref x, .int (iI a0), .int (iI a1)] (mk g I) = some (.inr "java/lang/IndexOutOfBoundsException", mk g' I')) : cl 270 [.ref x, .int (iI a0), .int (iI a1), .ref o] (mk g I) = some (.inl (some (.int (iI 1))), mk g' I') := by
  simp (maxSteps := 2000000) (disch := first | assumption | omega) only [aft_v, aft_n, aft_t, Nat.add_assoc, Nat.reduceAdd, if_true, if_false, not_true_eq_false, not_false_eq_true, Classical.not_not, Int.reduceAdd, Int.reduceSub, Int.reduceMul, Int.reduceNeg, Int.reduceLT, Int.reduceLE, Int.reduceEq, Int.add_zero, Int.zero_add, Int.sub_zero, c_270, w_270_0]
  rw [h]
  exact w_270_2
theorem lw_finger_2 {a0 a1 : Int} (h0 : g.1 x = sX5 x) (h : cl 103 [.ref x, .int (iI a0), .int (iI a1)] (mk g I) = some (.inr "java/util/NoSuchElementException", mk g' I')) : cl 270 [.ref x, .int (iI a0), .int (iI a1), .ref o] (mk g I) = some (.inl (some (.int (iI 2))), mk g' I') := by
  simp (maxSteps := 2000000) (disch := first | assumption | omega) only [aft_v, aft_n, aft_t, Nat.add_assoc, Nat.reduceAdd, if_true, if_false, not_true_eq_false, not_false_eq_true, Classical.not_not, Int.reduceAdd, Int.reduceSub, Int.reduceMul, Int.reduceNeg, Int.reduceLT, Int.reduceLE, Int.reduceEq, Int.add_zero, Int.zero_add, Int.sub_zero, c_270, w_270_0]
  rw [h]
  exact w_270_3
theorem lw_part {v : Int} {a0 a1 : Int} (h0 : g.1 x = sX5 x) (ho : gt g' o = 1) (hn : gn g' o = 1) (h : cl 104 [.ref x, .int (iI a0), .int (iI a1)] (mk g I) = some (.inl (some (.int (iI v))), mk g' I')) : cl 271 [.ref x, .int (iI a0), .int (iI a1), .ref o] (mk g I) = some (.inl (some (.int (iI 0))), mk (gL g' (upd2 g'.2.1 o 0 (iI v).toInt)) I') := by
  rw [show iI v = iI (iI v).toInt from iI_of _] at h
  have hr := iI_rng (iI v)
  obtain ⟨w, hw⟩ : ∃ w, w = (iI v).toInt := ⟨_, rfl⟩
  rw [← hw] at h hr ⊢
  have b0 : (0 : Int) < (gn g' o : Int) := by omega
  simp (maxSteps := 2000000) (disch := first | assumption | omega) only [aft_v, aft_n, aft_t, Nat.add_assoc, Nat.reduceAdd, if_true, if_false, not_true_eq_false, not_false_eq_true, Classical.not_not, Int.reduceAdd, Int.reduceSub, Int.reduceMul, Int.reduceNeg, Int.reduceLT, Int.reduceLE, Int.reduceEq, Int.add_zero, Int.zero_add, Int.sub_zero, c_271, w_271_0, h]
  simp (maxSteps := 2000000) (disch := first | assumption | omega) only [aft_v, aft_n, aft_t, Nat.add_assoc, Nat.reduceAdd, if_true, if_false, not_true_eq_false, not_false_eq_true, Classical.not_not, Int.reduceAdd, Int.reduceSub, Int.reduceMul, Int.reduceNeg, Int.reduceLT, Int.reduceLE, Int.reduceEq, Int.add_zero, Int.zero_add, Int.sub_zero, w_271_1, w_271_5]
theorem lw_part_1 {a0 a1 : Int} (h0 : g.1 x = sX5 x) (h : cl 104 [.ref x, .int (iI a0), .int (iI a1)] (mk g I) = some (.inr "java/lang/IndexOutOfBoundsException", mk g' I')) : cl 271 [.ref x, .int (iI a0), .int (iI a1), .ref o] (mk g I) = some (.inl (some (.int (iI 1))), mk g' I') := by
  simp (maxSteps := 2000000) (disch := first | assumption | omega) only [aft_v, aft_n, aft_t, Nat.add_assoc, Nat.reduceAdd, if_true, if_false, not_true_eq_false, not_false_eq_true, Classical.not_not, Int.reduceAdd, Int.reduceSub, Int.reduceMul, Int.reduceNeg, Int.reduceLT, Int.reduceLE, Int.reduceEq, Int.add_zero, Int.zero_add, Int.sub_zero, c_271, w_271_0]
  rw [h]
  exact w_271_2
theorem lw_part_2 {a0 a1 : Int} (h0 : g.1 x = sX5 x) (h : cl 104 [.ref x, .int (iI a0), .int (iI a1)] (mk g I) = some (.inr "java/lang/IllegalArgumentException", mk g' I')) : cl 271 [.ref x, .int (iI a0), .int (iI a1), .ref o] (mk g I) = some (.inl (some (.int (iI 2))), mk g' I') := by
  simp (maxSteps := 2000000) (disch := first | assumption | omega) only [aft_v, aft_n, aft_t, Nat.add_assoc, Nat.reduceAdd, if_true, if_false, not_true_eq_false, not_false_eq_true, Classical.not_not, Int.reduceAdd, Int.reduceSub, Int.reduceMul, Int.reduceNeg, Int.reduceLT, Int.reduceLE, Int.reduceEq, Int.add_zero, Int.zero_add, Int.sub_zero, c_271, w_271_0]
  rw [h]
  exact w_271_3
theorem lw_part_3 {a0 a1 : Int} (h0 : g.1 x = sX5 x) (h : cl 104 [.ref x, .int (iI a0), .int (iI a1)] (mk g I) = some (.inr "java/util/NoSuchElementException", mk g' I')) : cl 271 [.ref x, .int (iI a0), .int (iI a1), .ref o] (mk g I) = some (.inl (some (.int (iI 3))), mk g' I') := by
  simp (maxSteps := 2000000) (disch := first | assumption | omega) only [aft_v, aft_n, aft_t, Nat.add_assoc, Nat.reduceAdd, if_true, if_false, not_true_eq_false, not_false_eq_true, Classical.not_not, Int.reduceAdd, Int.reduceSub, Int.reduceMul, Int.reduceNeg, Int.reduceLT, Int.reduceLE, Int.reduceEq, Int.add_zero, Int.zero_add, Int.sub_zero, c_271, w_271_0]
  rw [h]
  exact w_271_4
theorem lw_costWith {v : Int} {a0 a1 a2 : Int} (h0 : g.1 x = sX5 x) (ho : gt g' o = 1) (hn : gn g' o = 1) (h : cl 106 [.ref x, .int (iI a0), .int (iI a1), .int (iI a2)] (mk g I) = some (.inl (some (.int (iI v))), mk g' I')) : cl 272 [.ref x, .int (iI a0), .int (iI a1), .int (iI a2), .ref o] (mk g I) = some (.inl (some (.int (iI 0))), mk (gL g' (upd2 g'.2.1 o 0 (iI v).toInt)) I') := by
  rw [show iI v = iI (iI v).toInt from iI_of _] at h
  have hr := iI_rng (iI v)
  obtain ⟨w, hw⟩ : ∃ w, w = (iI v).toInt := ⟨_, rfl⟩
  rw [← hw] at h hr ⊢
  have b0 : (0 : Int) < (gn g' o : Int) := by omega
  simp (maxSteps := 2000000) (disch := first | assumption | omega) only [aft_v, aft_n, aft_t, Nat.add_assoc, Nat.reduceAdd, if_true, if_false, not_true_eq_false, not_false_eq_true, Classical.not_not, Int.reduceAdd, Int.reduceSub, Int.reduceMul, Int.reduceNeg, Int.reduceLT, Int.reduceLE, Int.reduceEq, Int.add_zero, Int.zero_add, Int.sub_zero, c_272, w_272_0, h]
  simp (maxSteps := 2000000) (disch := first | assumption | omega) only [aft_v, aft_n, aft_t, Nat.add_assoc, Nat.reduceAdd, if_true, if_false, not_true_eq_false, not_false_eq_true, Classical.not_not, Int.reduceAdd, Int.reduceSub, Int.reduceMul, Int.reduceNeg, Int.reduceLT, Int.reduceLE, Int.reduceEq, Int.add_zero, Int.zero_add, Int.sub_zero, w_272_1, w_272_3]
theorem lw_costWith_1 {a0 a1 a2 : Int} (h0 : g.1 x = sX5 x) (h : cl 106 [.ref x, .int (iI a0), .int (iI a1), .int (iI a2)] (mk g I) = some (.inr "java/lang/IndexOutOfBoundsException", mk g' I')) : cl 272 [.ref x, .int (iI a0), .int (iI a1), .int (iI a2), .ref o] (mk g I) = some (.inl (some (.int (iI 1))), mk g' I') := by
  simp (maxSteps := 2000000) (disch := first | assumption | omega) only [aft_v, aft_n, aft_t, Nat.add_assoc, Nat.reduceAdd, if_true, if_false, not_true_eq_false, not_false_eq_true, Classical.not_not, Int.reduceAdd, Int.reduceSub, Int.reduceMul, Int.reduceNeg, Int.reduceLT, Int.reduceLE, Int.reduceEq, Int.add_zero, Int.zero_add, Int.sub_zero, c_272, w_272_0]
  rw [h]
  exact w_272_2
theorem lw_uses {v : Int} {a0 : Int} (h0 : g.1 x = sX5 x) (ho : gt g' o = 1) (hn : gn g' o = 1) (h : cl 108 [.ref x, .int (iI a0)] (mk g I) = some (.inl (some (.int (iI v))), mk g' I')) : cl 273 [.ref x, .int (iI a0), .ref o] (mk g I) = some (.inl (some (.int (iI 0))), mk (gL g' (upd2 g'.2.1 o 0 (iI v).toInt)) I') := by
  rw [show iI v = iI (iI v).toInt from iI_of _] at h
  have hr := iI_rng (iI v)
  obtain ⟨w, hw⟩ : ∃ w, w = (iI v).toInt := ⟨_, rfl⟩
  rw [← hw] at h hr ⊢
  have b0 : (0 : Int) < (gn g' o : Int) := by omega
  simp (maxSteps := 2000000) (disch := first | assumption | omega) only [aft_v, aft_n, aft_t, Nat.add_assoc, Nat.reduceAdd, if_true, if_false, not_true_eq_false, not_false_eq_true, Classical.not_not, Int.reduceAdd, Int.reduceSub, Int.reduceMul, Int.reduceNeg, Int.reduceLT, Int.reduceLE, Int.reduceEq, Int.add_zero, Int.zero_add, Int.sub_zero, c_273, w_273_0, h]
  simp (maxSteps := 2000000) (disch := first | assumption | omega) only [aft_v, aft_n, aft_t, Nat.add_assoc, Nat.reduceAdd, if_true, if_false, not_true_eq_false, not_false_eq_true, Classical.not_not, Int.reduceAdd, Int.reduceSub, Int.reduceMul, Int.reduceNeg, Int.reduceLT, Int.reduceLE, Int.reduceEq, Int.add_zero, Int.zero_add, Int.sub_zero, w_273_1, w_273_4]
theorem lw_uses_1 {a0 : Int} (h0 : g.1 x = sX5 x) (h : cl 108 [.ref x, .int (iI a0)] (mk g I) = some (.inr "java/lang/IndexOutOfBoundsException", mk g' I')) : cl 273 [.ref x, .int (iI a0), .ref o] (mk g I) = some (.inl (some (.int (iI 1))), mk g' I') := by
  simp (maxSteps := 2000000) (disch := first | assumption | omega) only [aft_v, aft_n, aft_t, Nat.add_assoc, Nat.reduceAdd, if_true, if_false, not_true_eq_false, not_false_eq_true, Classical.not_not, Int.reduceAdd, Int.reduceSub, Int.reduceMul, Int.reduceNeg, Int.reduceLT, Int.reduceLE, Int.reduceEq, Int.add_zero, Int.zero_add, Int.sub_zero, c_273, w_273_0]
  rw [h]
  exact w_273_2
theorem lw_uses_2 {a0 : Int} (h0 : g.1 x = sX5 x) (h : cl 108 [.ref x, .int (iI a0)] (mk g I) = some (.inr "java/util/NoSuchElementException", mk g' I')) : cl 273 [.ref x, .int (iI a0), .ref o] (mk g I) = some (.inl (some (.int (iI 2))), mk g' I') := by
  simp (maxSteps := 2000000) (disch := first | assumption | omega) only [aft_v, aft_n, aft_t, Nat.add_assoc, Nat.reduceAdd, if_true, if_false, not_true_eq_false, not_false_eq_true, Classical.not_not, Int.reduceAdd, Int.reduceSub, Int.reduceMul, Int.reduceNeg, Int.reduceLT, Int.reduceLE, Int.reduceEq, Int.add_zero, Int.zero_add, Int.sub_zero, c_273, w_273_0]
  rw [h]
  exact w_273_3
theorem lw_sure {v : Int} (h0 : g.1 x = sX5 x) (ho : gt g' o = 1) (hn : gn g' o = 1) (h : cl 109 [.ref x] (mk g I) = some (.inl (some (.int (iI v))), mk g' I')) : cl 274 [.ref x, .ref o] (mk g I) = some (.inl (some (.int (iI 0))), mk (gL g' (upd2 g'.2.1 o 0 (iI v).toInt)) I') := by
  rw [show iI v = iI (iI v).toInt from iI_of _] at h
  have hr := iI_rng (iI v)
  obtain ⟨w, hw⟩ : ∃ w, w = (iI v).toInt := ⟨_, rfl⟩
  rw [← hw] at h hr ⊢
  have b0 : (0 : Int) < (gn g' o : Int) := by omega
  simp (maxSteps := 2000000) (disch := first | assumption | omega) only [aft_v, aft_n, aft_t, Nat.add_assoc, Nat.reduceAdd, if_true, if_false, not_true_eq_false, not_false_eq_true, Classical.not_not, Int.reduceAdd, Int.reduceSub, Int.reduceMul, Int.reduceNeg, Int.reduceLT, Int.reduceLE, Int.reduceEq, Int.add_zero, Int.zero_add, Int.sub_zero, c_274, w_274_0, h]
  simp (maxSteps := 2000000) (disch := first | assumption | omega) only [aft_v, aft_n, aft_t, Nat.add_assoc, Nat.reduceAdd, if_true, if_false, not_true_eq_false, not_false_eq_true, Classical.not_not, Int.reduceAdd, Int.reduceSub, Int.reduceMul, Int.reduceNeg, Int.reduceLT, Int.reduceLE, Int.reduceEq, Int.add_zero, Int.zero_add, Int.sub_zero, w_274_1, w_274_3]
theorem lw_sure_1 (h0 : g.1 x = sX5 x) (h : cl 109 [.ref x] (mk g I) = some (.inr "java/util/NoSuchElementException", mk g' I')) : cl 274 [.ref x, .ref o] (mk g I) = some (.inl (some (.int (iI 1))), mk g' I') := by
  simp (maxSteps := 2000000) (disch := first | assumption | omega) only [aft_v, aft_n, aft_t, Nat.add_assoc, Nat.reduceAdd, if_true, if_false, not_true_eq_false, not_false_eq_true, Classical.not_not, Int.reduceAdd, Int.reduceSub, Int.reduceMul, Int.reduceNeg, Int.reduceLT, Int.reduceLE, Int.reduceEq, Int.add_zero, Int.zero_add, Int.sub_zero, c_274, w_274_0]
  rw [h]
  exact w_274_2
theorem lw_mean_1 (h0 : g.1 x = sX5 x) (h : cl 110 [.ref x] (mk g I) = some (.inr "java/util/NoSuchElementException", mk g' I')) : cl 275 [.ref x, .ref o] (mk g I) = some (.inl (some (.int (iI 1))), mk g' I') := by
  simp (maxSteps := 2000000) (disch := first | assumption | omega) only [aft_v, aft_n, aft_t, Nat.add_assoc, Nat.reduceAdd, if_true, if_false, not_true_eq_false, not_false_eq_true, Classical.not_not, Int.reduceAdd, Int.reduceSub, Int.reduceMul, Int.reduceNeg, Int.reduceLT, Int.reduceLE, Int.reduceEq, Int.add_zero, Int.zero_add, Int.sub_zero, c_275, w_275_0]
  rw [h]
  exact w_275_2
theorem lw_transposed {v : Int} {a0 : Int} (h0 : g.1 x = sX5 x) (ho : gt g' o = 1) (hn : gn g' o = 1) (h : cl 114 [.ref x, .int (iI a0)] (mk g I) = some (.inl (some (.int (iI v))), mk g' I')) : cl 276 [.ref x, .int (iI a0), .ref o] (mk g I) = some (.inl (some (.int (iI 0))), mk (gL g' (upd2 g'.2.1 o 0 (iI v).toInt)) I') := by
  rw [show iI v = iI (iI v).toInt from iI_of _] at h
  have hr := iI_rng (iI v)
  obtain ⟨w, hw⟩ : ∃ w, w = (iI v).toInt := ⟨_, rfl⟩
  rw [← hw] at h hr ⊢
  have b0 : (0 : Int) < (gn g' o : Int) := by omega
  simp (maxSteps := 2000000) (disch := first | assumption | omega) only [aft_v, aft_n, aft_t, Nat.add_assoc, Nat.reduceAdd, if_true, if_false, not_true_eq_false, not_false_eq_true, Classical.not_not, Int.reduceAdd, Int.reduceSub, Int.reduceMul, Int.reduceNeg, Int.reduceLT, Int.reduceLE, Int.reduceEq, Int.add_zero, Int.zero_add, Int.sub_zero, c_276, w_276_0, h]
  simp (maxSteps := 2000000) (disch := first | assumption | omega) only [aft_v, aft_n, aft_t, Nat.add_assoc, Nat.reduceAdd, if_true, if_false, not_true_eq_false, not_false_eq_true, Classical.not_not, Int.reduceAdd, Int.reduceSub, Int.reduceMul, Int.reduceNeg, Int.reduceLT, Int.reduceLE, Int.reduceEq, Int.add_zero, Int.zero_add, Int.sub_zero, w_276_1, w_276_3]
theorem lw_transposed_1 {a0 : Int} (h0 : g.1 x = sX5 x) (h : cl 114 [.ref x, .int (iI a0)] (mk g I) = some (.inr "java/lang/IllegalArgumentException", mk g' I')) : cl 276 [.ref x, .int (iI a0), .ref o] (mk g I) = some (.inl (some (.int (iI 1))), mk g' I') := by
  simp (maxSteps := 2000000) (disch := first | assumption | omega) only [aft_v, aft_n, aft_t, Nat.add_assoc, Nat.reduceAdd, if_true, if_false, not_true_eq_false, not_false_eq_true, Classical.not_not, Int.reduceAdd, Int.reduceSub, Int.reduceMul, Int.reduceNeg, Int.reduceLT, Int.reduceLE, Int.reduceEq, Int.add_zero, Int.zero_add, Int.sub_zero, c_276, w_276_0]
  rw [h]
  exact w_276_2
theorem lw_easiest {v : Int} {a0 : Int} (h0 : g.1 x = sX5 x) (ho : gt g' o = 1) (hn : gn g' o = 1) (h : cl 115 [.ref x, .int (iI a0)] (mk g I) = some (.inl (some (.int (iI v))), mk g' I')) : cl 277 [.ref x, .int (iI a0), .ref o] (mk g I) = some (.inl (some (.int (iI 0))), mk (gL g' (upd2 g'.2.1 o 0 (iI v).toInt)) I') := by
  rw [show iI v = iI (iI v).toInt from iI_of _] at h
  have hr := iI_rng (iI v)
  obtain ⟨w, hw⟩ : ∃ w, w = (iI v).toInt := ⟨_, rfl⟩
  rw [← hw] at h hr ⊢
  have b0 : (0 : Int) < (gn g' o : Int) := by omega
  simp (maxSteps := 2000000) (disch := first | assumption | omega) only [aft_v, aft_n, aft_t, Nat.add_assoc, Nat.reduceAdd, if_true, if_false, not_true_eq_false, not_false_eq_true, Classical.not_not, Int.reduceAdd, Int.reduceSub, Int.reduceMul, Int.reduceNeg, Int.reduceLT, Int.reduceLE, Int.reduceEq, Int.add_zero, Int.zero_add, Int.sub_zero, c_277, w_277_0, h]
  simp (maxSteps := 2000000) (disch := first | assumption | omega) only [aft_v, aft_n, aft_t, Nat.add_assoc, Nat.reduceAdd, if_true, if_false, not_true_eq_false, not_false_eq_true, Classical.not_not, Int.reduceAdd, Int.reduceSub, Int.reduceMul, Int.reduceNeg, Int.reduceLT, Int.reduceLE, Int.reduceEq, Int.add_zero, Int.zero_add, Int.sub_zero, w_277_1, w_277_4]
theorem lw_easiest_1 {a0 : Int} (h0 : g.1 x = sX5 x) (h : cl 115 [.ref x, .int (iI a0)] (mk g I) = some (.inr "java/lang/IllegalArgumentException", mk g' I')) : cl 277 [.ref x, .int (iI a0), .ref o] (mk g I) = some (.inl (some (.int (iI 1))), mk g' I') := by
  simp (maxSteps := 2000000) (disch := first | assumption | omega) only [aft_v, aft_n, aft_t, Nat.add_assoc, Nat.reduceAdd, if_true, if_false, not_true_eq_false, not_false_eq_true, Classical.not_not, Int.reduceAdd, Int.reduceSub, Int.reduceMul, Int.reduceNeg, Int.reduceLT, Int.reduceLE, Int.reduceEq, Int.add_zero, Int.zero_add, Int.sub_zero, c_277, w_277_0]
  rw [h]
  exact w_277_2
theorem lw_easiest_2 {a0 : Int} (h0 : g.1 x = sX5 x) (h : cl 115 [.ref x, .int (iI a0)] (mk g I) = some (.inr "java/util/NoSuchElementException", mk g' I')) : cl 277 [.ref x, .int (iI a0), .ref o] (mk g I) = some (.inl (some (.int (iI 2))), mk g' I') := by
  simp (maxSteps := 2000000) (disch := first | assumption | omega) only [aft_v, aft_n, aft_t, Nat.add_assoc, Nat.reduceAdd, if_true, if_false, not_true_eq_false, not_false_eq_true, Classical.not_not, Int.reduceAdd, Int.reduceSub, Int.reduceMul, Int.reduceNeg, Int.reduceLT, Int.reduceLE, Int.reduceEq, Int.add_zero, Int.zero_add, Int.sub_zero, c_277, w_277_0]
  rw [h]
  exact w_277_3
theorem lw_play {v : Int} {a0 a1 a2 a3 a4 : Int} (h0 : g.1 x = sX5 x) (ho : gt g' o = 1) (hn : gn g' o = 1) (h : cl 117 [.ref x, .int (iI a0), .int (iI a1), .int (iI a2), .int (iI a3), .int (iI a4)] (mk g I) = some (.inl (some (.int (iI v))), mk g' I')) : cl 278 [.ref x, .int (iI a0), .int (iI a1), .int (iI a2), .int (iI a3), .int (iI a4), .ref o] (mk g I) = some (.inl (some (.int (iI 0))), mk (gL g' (upd2 g'.2.1 o 0 (iI v).toInt)) I') := by
  rw [show iI v = iI (iI v).toInt from iI_of _] at h
  have hr := iI_rng (iI v)
  obtain ⟨w, hw⟩ : ∃ w, w = (iI v).toInt := ⟨_, rfl⟩
  rw [← hw] at h hr ⊢
  have b0 : (0 : Int) < (gn g' o : Int) := by omega
  simp (maxSteps := 2000000) (disch := first | assumption | omega) only [aft_v, aft_n, aft_t, Nat.add_assoc, Nat.reduceAdd, if_true, if_false, not_true_eq_false, not_false_eq_true, Classical.not_not, Int.reduceAdd, Int.reduceSub, Int.reduceMul, Int.reduceNeg, Int.reduceLT, Int.reduceLE, Int.reduceEq, Int.add_zero, Int.zero_add, Int.sub_zero, c_278, w_278_0, h]
  simp (maxSteps := 2000000) (disch := first | assumption | omega) only [aft_v, aft_n, aft_t, Nat.add_assoc, Nat.reduceAdd, if_true, if_false, not_true_eq_false, not_false_eq_true, Classical.not_not, Int.reduceAdd, Int.reduceSub, Int.reduceMul, Int.reduceNeg, Int.reduceLT, Int.reduceLE, Int.reduceEq, Int.add_zero, Int.zero_add, Int.sub_zero, w_278_1, w_278_4]
theorem lw_play_1 {a0 a1 a2 a3 a4 : Int} (h0 : g.1 x = sX5 x) (h : cl 117 [.ref x, .int (iI a0), .int (iI a1), .int (iI a2), .int (iI a3), .int (iI a4)] (mk g I) = some (.inr "java/lang/IndexOutOfBoundsException", mk g' I')) : cl 278 [.ref x, .int (iI a0), .int (iI a1), .int (iI a2), .int (iI a3), .int (iI a4), .ref o] (mk g I) = some (.inl (some (.int (iI 1))), mk g' I') := by
  simp (maxSteps := 2000000) (disch := first | assumption | omega) only [aft_v, aft_n, aft_t, Nat.add_assoc, Nat.reduceAdd, if_true, if_false, not_true_eq_false, not_false_eq_true, Classical.not_not, Int.reduceAdd, Int.reduceSub, Int.reduceMul, Int.reduceNeg, Int.reduceLT, Int.reduceLE, Int.reduceEq, Int.add_zero, Int.zero_add, Int.sub_zero, c_278, w_278_0]
  rw [h]
  exact w_278_2
theorem lw_play_2 {a0 a1 a2 a3 a4 : Int} (h0 : g.1 x = sX5 x) (h : cl 117 [.ref x, .int (iI a0), .int (iI a1), .int (iI a2), .int (iI a3), .int (iI a4)] (mk g I) = some (.inr "java/lang/IllegalArgumentException", mk g' I')) : cl 278 [.ref x, .int (iI a0), .int (iI a1), .int (iI a2), .int (iI a3), .int (iI a4), .ref o] (mk g I) = some (.inl (some (.int (iI 2))), mk g' I') := by
  simp (maxSteps := 2000000) (disch := first | assumption | omega) only [aft_v, aft_n, aft_t, Nat.add_assoc, Nat.reduceAdd, if_true, if_false, not_true_eq_false, not_false_eq_true, Classical.not_not, Int.reduceAdd, Int.reduceSub, Int.reduceMul, Int.reduceNeg, Int.reduceLT, Int.reduceLE, Int.reduceEq, Int.add_zero, Int.zero_add, Int.sub_zero, c_278, w_278_0]
  rw [h]
  exact w_278_3
theorem lw_drop {v : Int} {a0 : Int} (h0 : g.1 x = sX5 x) (ho : gt g' o = 1) (hn : gn g' o = 1) (h : cl 118 [.ref x, .int (iI a0)] (mk g I) = some (.inl (some (.int (iI v))), mk g' I')) : cl 279 [.ref x, .int (iI a0), .ref o] (mk g I) = some (.inl (some (.int (iI 0))), mk (gL g' (upd2 g'.2.1 o 0 (iI v).toInt)) I') := by
  rw [show iI v = iI (iI v).toInt from iI_of _] at h
  have hr := iI_rng (iI v)
  obtain ⟨w, hw⟩ : ∃ w, w = (iI v).toInt := ⟨_, rfl⟩
  rw [← hw] at h hr ⊢
  have b0 : (0 : Int) < (gn g' o : Int) := by omega
  simp (maxSteps := 2000000) (disch := first | assumption | omega) only [aft_v, aft_n, aft_t, Nat.add_assoc, Nat.reduceAdd, if_true, if_false, not_true_eq_false, not_false_eq_true, Classical.not_not, Int.reduceAdd, Int.reduceSub, Int.reduceMul, Int.reduceNeg, Int.reduceLT, Int.reduceLE, Int.reduceEq, Int.add_zero, Int.zero_add, Int.sub_zero, c_279, w_279_0, h]
  simp (maxSteps := 2000000) (disch := first | assumption | omega) only [aft_v, aft_n, aft_t, Nat.add_assoc, Nat.reduceAdd, if_true, if_false, not_true_eq_false, not_false_eq_true, Classical.not_not, Int.reduceAdd, Int.reduceSub, Int.reduceMul, Int.reduceNeg, Int.reduceLT, Int.reduceLE, Int.reduceEq, Int.add_zero, Int.zero_add, Int.sub_zero, w_279_1, w_279_3]
theorem lw_drop_1 {a0 : Int} (h0 : g.1 x = sX5 x) (h : cl 118 [.ref x, .int (iI a0)] (mk g I) = some (.inr "java/lang/IndexOutOfBoundsException", mk g' I')) : cl 279 [.ref x, .int (iI a0), .ref o] (mk g I) = some (.inl (some (.int (iI 1))), mk g' I') := by
  simp (maxSteps := 2000000) (disch := first | assumption | omega) only [aft_v, aft_n, aft_t, Nat.add_assoc, Nat.reduceAdd, if_true, if_false, not_true_eq_false, not_false_eq_true, Classical.not_not, Int.reduceAdd, Int.reduceSub, Int.reduceMul, Int.reduceNeg, Int.reduceLT, Int.reduceLE, Int.reduceEq, Int.add_zero, Int.zero_add, Int.sub_zero, c_279, w_279_0]
  rw [h]
  exact w_279_2
theorem lw_setRest {v : Int} {a0 a1 : Int} (h0 : g.1 x = sX5 x) (ho : gt g' o = 1) (hn : gn g' o = 1) (h : cl 119 [.ref x, .int (iI a0), .int (iI a1)] (mk g I) = some (.inl (some (.int (iI v))), mk g' I')) : cl 280 [.ref x, .int (iI a0), .int (iI a1), .ref o] (mk g I) = some (.inl (some (.int (iI 0))), mk (gL g' (upd2 g'.2.1 o 0 (iI v).toInt)) I') := by
  rw [show iI v = iI (iI v).toInt from iI_of _] at h
  have hr := iI_rng (iI v)
  obtain ⟨w, hw⟩ : ∃ w, w = (iI v).toInt := ⟨_, rfl⟩
  rw [← hw] at h hr ⊢
  have b0 : (0 : Int) < (gn g' o : Int) := by omega
  simp (maxSteps := 2000000) (disch := first | assumption | omega) only [aft_v, aft_n, aft_t, Nat.add_assoc, Nat.reduceAdd, if_true, if_false, not_true_eq_false, not_false_eq_true, Classical.not_not, Int.reduceAdd, Int.reduceSub, Int.reduceMul, Int.reduceNeg, Int.reduceLT, Int.reduceLE, Int.reduceEq, Int.add_zero, Int.zero_add, Int.sub_zero, c_280, w_280_0, h]
  simp (maxSteps := 2000000) (disch := first | assumption | omega) only [aft_v, aft_n, aft_t, Nat.add_assoc, Nat.reduceAdd, if_true, if_false, not_true_eq_false, not_false_eq_true, Classical.not_not, Int.reduceAdd, Int.reduceSub, Int.reduceMul, Int.reduceNeg, Int.reduceLT, Int.reduceLE, Int.reduceEq, Int.add_zero, Int.zero_add, Int.sub_zero, w_280_1, w_280_4]
theorem lw_setRest_1 {a0 a1 : Int} (h0 : g.1 x = sX5 x) (h : cl 119 [.ref x, .int (iI a0), .int (iI a1)] (mk g I) = some (.inr "java/lang/IndexOutOfBoundsException", mk g' I')) : cl 280 [.ref x, .int (iI a0), .int (iI a1), .ref o] (mk g I) = some (.inl (some (.int (iI 1))), mk g' I') := by
  simp (maxSteps := 2000000) (disch := first | assumption | omega) only [aft_v, aft_n, aft_t, Nat.add_assoc, Nat.reduceAdd, if_true, if_false, not_true_eq_false, not_false_eq_true, Classical.not_not, Int.reduceAdd, Int.reduceSub, Int.reduceMul, Int.reduceNeg, Int.reduceLT, Int.reduceLE, Int.reduceEq, Int.add_zero, Int.zero_add, Int.sub_zero, c_280, w_280_0]
  rw [h]
  exact w_280_2
theorem lw_setRest_2 {a0 a1 : Int} (h0 : g.1 x = sX5 x) (h : cl 119 [.ref x, .int (iI a0), .int (iI a1)] (mk g I) = some (.inr "java/lang/IllegalArgumentException", mk g' I')) : cl 280 [.ref x, .int (iI a0), .int (iI a1), .ref o] (mk g I) = some (.inl (some (.int (iI 2))), mk g' I') := by
  simp (maxSteps := 2000000) (disch := first | assumption | omega) only [aft_v, aft_n, aft_t, Nat.add_assoc, Nat.reduceAdd, if_true, if_false, not_true_eq_false, not_false_eq_true, Classical.not_not, Int.reduceAdd, Int.reduceSub, Int.reduceMul, Int.reduceNeg, Int.reduceLT, Int.reduceLE, Int.reduceEq, Int.add_zero, Int.zero_add, Int.sub_zero, c_280, w_280_0]
  rw [h]
  exact w_280_3
theorem lw_let {v : Int} {a0 a1 a2 a3 : Int} (h0 : g.1 x = sX5 x) (ho : gt g' o = 1) (hn : gn g' o = 1) (h : cl 120 [.ref x, .int (iI a0), .int (iI a1), .int (iI a2), .int (iI a3)] (mk g I) = some (.inl (some (.int (iI v))), mk g' I')) : cl 281 [.ref x, .int (iI a0), .int (iI a1), .int (iI a2), .int (iI a3), .ref o] (mk g I) = some (.inl (some (.int (iI 0))), mk (gL g' (upd2 g'.2.1 o 0 (iI v).toInt)) I') := by
  rw [show iI v = iI (iI v).toInt from iI_of _] at h
  have hr := iI_rng (iI v)
  obtain ⟨w, hw⟩ : ∃ w, w = (iI v).toInt := ⟨_, rfl⟩
  rw [← hw] at h hr ⊢
  have b0 : (0 : Int) < (gn g' o : Int) := by omega
  simp (maxSteps := 2000000) (disch := first | assumption | omega) only [aft_v, aft_n, aft_t, Nat.add_assoc, Nat.reduceAdd, if_true, if_false, not_true_eq_false, not_false_eq_true, Classical.not_not, Int.reduceAdd, Int.reduceSub, Int.reduceMul, Int.reduceNeg, Int.reduceLT, Int.reduceLE, Int.reduceEq, Int.add_zero, Int.zero_add, Int.sub_zero, c_281, w_281_0, h]
  simp (maxSteps := 2000000) (disch := first | assumption | omega) only [aft_v, aft_n, aft_t, Nat.add_assoc, Nat.reduceAdd, if_true, if_false, not_true_eq_false, not_false_eq_true, Classical.not_not, Int.reduceAdd, Int.reduceSub, Int.reduceMul, Int.reduceNeg, Int.reduceLT, Int.reduceLE, Int.reduceEq, Int.add_zero, Int.zero_add, Int.sub_zero, w_281_1, w_281_3]
theorem lw_let_1 {a0 a1 a2 a3 : Int} (h0 : g.1 x = sX5 x) (h : cl 120 [.ref x, .int (iI a0), .int (iI a1), .int (iI a2), .int (iI a3)] (mk g I) = some (.inr "java/lang/IndexOutOfBoundsException", mk g' I')) : cl 281 [.ref x, .int (iI a0), .int (iI a1), .int (iI a2), .int (iI a3), .ref o] (mk g I) = some (.inl (some (.int (iI 1))), mk g' I') := by
  simp (maxSteps := 2000000) (disch := first | assumption | omega) only [aft_v, aft_n, aft_t, Nat.add_assoc, Nat.reduceAdd, if_true, if_false, not_true_eq_false, not_false_eq_true, Classical.not_not, Int.reduceAdd, Int.reduceSub, Int.reduceMul, Int.reduceNeg, Int.reduceLT, Int.reduceLE, Int.reduceEq, Int.add_zero, Int.zero_add, Int.sub_zero, c_281, w_281_0]
  rw [h]
  exact w_281_2
theorem lw_setWeight {v : Int} {a0 a1 : Int} (h0 : g.1 x = sX5 x) (ho : gt g' o = 1) (hn : gn g' o = 1) (h : cl 121 [.ref x, .int (iI a0), .int (iI a1)] (mk g I) = some (.inl (some (.int (iI v))), mk g' I')) : cl 282 [.ref x, .int (iI a0), .int (iI a1), .ref o] (mk g I) = some (.inl (some (.int (iI 0))), mk (gL g' (upd2 g'.2.1 o 0 (iI v).toInt)) I') := by
  rw [show iI v = iI (iI v).toInt from iI_of _] at h
  have hr := iI_rng (iI v)
  obtain ⟨w, hw⟩ : ∃ w, w = (iI v).toInt := ⟨_, rfl⟩
  rw [← hw] at h hr ⊢
  have b0 : (0 : Int) < (gn g' o : Int) := by omega
  simp (maxSteps := 2000000) (disch := first | assumption | omega) only [aft_v, aft_n, aft_t, Nat.add_assoc, Nat.reduceAdd, if_true, if_false, not_true_eq_false, not_false_eq_true, Classical.not_not, Int.reduceAdd, Int.reduceSub, Int.reduceMul, Int.reduceNeg, Int.reduceLT, Int.reduceLE, Int.reduceEq, Int.add_zero, Int.zero_add, Int.sub_zero, c_282, w_282_0, h]
  simp (maxSteps := 2000000) (disch := first | assumption | omega) only [aft_v, aft_n, aft_t, Nat.add_assoc, Nat.reduceAdd, if_true, if_false, not_true_eq_false, not_false_eq_true, Classical.not_not, Int.reduceAdd, Int.reduceSub, Int.reduceMul, Int.reduceNeg, Int.reduceLT, Int.reduceLE, Int.reduceEq, Int.add_zero, Int.zero_add, Int.sub_zero, w_282_1, w_282_4]
theorem lw_setWeight_1 {a0 a1 : Int} (h0 : g.1 x = sX5 x) (h : cl 121 [.ref x, .int (iI a0), .int (iI a1)] (mk g I) = some (.inr "java/lang/IndexOutOfBoundsException", mk g' I')) : cl 282 [.ref x, .int (iI a0), .int (iI a1), .ref o] (mk g I) = some (.inl (some (.int (iI 1))), mk g' I') := by
  simp (maxSteps := 2000000) (disch := first | assumption | omega) only [aft_v, aft_n, aft_t, Nat.add_assoc, Nat.reduceAdd, if_true, if_false, not_true_eq_false, not_false_eq_true, Classical.not_not, Int.reduceAdd, Int.reduceSub, Int.reduceMul, Int.reduceNeg, Int.reduceLT, Int.reduceLE, Int.reduceEq, Int.add_zero, Int.zero_add, Int.sub_zero, c_282, w_282_0]
  rw [h]
  exact w_282_2
theorem lw_setWeight_2 {a0 a1 : Int} (h0 : g.1 x = sX5 x) (h : cl 121 [.ref x, .int (iI a0), .int (iI a1)] (mk g I) = some (.inr "java/lang/IllegalArgumentException", mk g' I')) : cl 282 [.ref x, .int (iI a0), .int (iI a1), .ref o] (mk g I) = some (.inl (some (.int (iI 2))), mk g' I') := by
  simp (maxSteps := 2000000) (disch := first | assumption | omega) only [aft_v, aft_n, aft_t, Nat.add_assoc, Nat.reduceAdd, if_true, if_false, not_true_eq_false, not_false_eq_true, Classical.not_not, Int.reduceAdd, Int.reduceSub, Int.reduceMul, Int.reduceNeg, Int.reduceLT, Int.reduceLE, Int.reduceEq, Int.add_zero, Int.zero_add, Int.sub_zero, c_282, w_282_0]
  rw [h]
  exact w_282_3
theorem lw_setSpan {v : Int} {a0 a1 a2 a3 a4 : Int} (h0 : g.1 x = sX5 x) (ho : gt g' o = 1) (hn : gn g' o = 1) (h : cl 122 [.ref x, .int (iI a0), .int (iI a1), .int (iI a2), .int (iI a3), .int (iI a4)] (mk g I) = some (.inl (some (.int (iI v))), mk g' I')) : cl 283 [.ref x, .int (iI a0), .int (iI a1), .int (iI a2), .int (iI a3), .int (iI a4), .ref o] (mk g I) = some (.inl (some (.int (iI 0))), mk (gL g' (upd2 g'.2.1 o 0 (iI v).toInt)) I') := by
  rw [show iI v = iI (iI v).toInt from iI_of _] at h
  have hr := iI_rng (iI v)
  obtain ⟨w, hw⟩ : ∃ w, w = (iI v).toInt := ⟨_, rfl⟩
  rw [← hw] at h hr ⊢
  have b0 : (0 : Int) < (gn g' o : Int) := by omega
  simp (maxSteps := 2000000) (disch := first | assumption | omega) only [aft_v, aft_n, aft_t, Nat.add_assoc, Nat.reduceAdd, if_true, if_false, not_true_eq_false, not_false_eq_true, Classical.not_not, Int.reduceAdd, Int.reduceSub, Int.reduceMul, Int.reduceNeg, Int.reduceLT, Int.reduceLE, Int.reduceEq, Int.add_zero, Int.zero_add, Int.sub_zero, c_283, w_283_0, h]
  simp (maxSteps := 2000000) (disch := first | assumption | omega) only [aft_v, aft_n, aft_t, Nat.add_assoc, Nat.reduceAdd, if_true, if_false, not_true_eq_false, not_false_eq_true, Classical.not_not, Int.reduceAdd, Int.reduceSub, Int.reduceMul, Int.reduceNeg, Int.reduceLT, Int.reduceLE, Int.reduceEq, Int.add_zero, Int.zero_add, Int.sub_zero, w_283_1, w_283_4]
theorem lw_setSpan_1 {a0 a1 a2 a3 a4 : Int} (h0 : g.1 x = sX5 x) (h : cl 122 [.ref x, .int (iI a0), .int (iI a1), .int (iI a2), .int (iI a3), .int (iI a4)] (mk g I) = some (.inr "java/lang/IndexOutOfBoundsException", mk g' I')) : cl 283 [.ref x, .int (iI a0), .int (iI a1), .int (iI a2), .int (iI a3), .int (iI a4), .ref o] (mk g I) = some (.inl (some (.int (iI 1))), mk g' I') := by
  simp (maxSteps := 2000000) (disch := first | assumption | omega) only [aft_v, aft_n, aft_t, Nat.add_assoc, Nat.reduceAdd, if_true, if_false, not_true_eq_false, not_false_eq_true, Classical.not_not, Int.reduceAdd, Int.reduceSub, Int.reduceMul, Int.reduceNeg, Int.reduceLT, Int.reduceLE, Int.reduceEq, Int.add_zero, Int.zero_add, Int.sub_zero, c_283, w_283_0]
  rw [h]
  exact w_283_2
theorem lw_setSpan_2 {a0 a1 a2 a3 a4 : Int} (h0 : g.1 x = sX5 x) (h : cl 122 [.ref x, .int (iI a0), .int (iI a1), .int (iI a2), .int (iI a3), .int (iI a4)] (mk g I) = some (.inr "java/lang/IllegalArgumentException", mk g' I')) : cl 283 [.ref x, .int (iI a0), .int (iI a1), .int (iI a2), .int (iI a3), .int (iI a4), .ref o] (mk g I) = some (.inl (some (.int (iI 2))), mk g' I') := by
  simp (maxSteps := 2000000) (disch := first | assumption | omega) only [aft_v, aft_n, aft_t, Nat.add_assoc, Nat.reduceAdd, if_true, if_false, not_true_eq_false, not_false_eq_true, Classical.not_not, Int.reduceAdd, Int.reduceSub, Int.reduceMul, Int.reduceNeg, Int.reduceLT, Int.reduceLE, Int.reduceEq, Int.add_zero, Int.zero_add, Int.sub_zero, c_283, w_283_0]
  rw [h]
  exact w_283_3
theorem lw_transpose {v : Int} {a0 : Int} (h0 : g.1 x = sX5 x) (ho : gt g' o = 1) (hn : gn g' o = 1) (h : cl 124 [.ref x, .int (iI a0)] (mk g I) = some (.inl (some (.int (iI v))), mk g' I')) : cl 284 [.ref x, .int (iI a0), .ref o] (mk g I) = some (.inl (some (.int (iI 0))), mk (gL g' (upd2 g'.2.1 o 0 (iI v).toInt)) I') := by
  rw [show iI v = iI (iI v).toInt from iI_of _] at h
  have hr := iI_rng (iI v)
  obtain ⟨w, hw⟩ : ∃ w, w = (iI v).toInt := ⟨_, rfl⟩
  rw [← hw] at h hr ⊢
  have b0 : (0 : Int) < (gn g' o : Int) := by omega
  simp (maxSteps := 2000000) (disch := first | assumption | omega) only [aft_v, aft_n, aft_t, Nat.add_assoc, Nat.reduceAdd, if_true, if_false, not_true_eq_false, not_false_eq_true, Classical.not_not, Int.reduceAdd, Int.reduceSub, Int.reduceMul, Int.reduceNeg, Int.reduceLT, Int.reduceLE, Int.reduceEq, Int.add_zero, Int.zero_add, Int.sub_zero, c_284, w_284_0, h]
  simp (maxSteps := 2000000) (disch := first | assumption | omega) only [aft_v, aft_n, aft_t, Nat.add_assoc, Nat.reduceAdd, if_true, if_false, not_true_eq_false, not_false_eq_true, Classical.not_not, Int.reduceAdd, Int.reduceSub, Int.reduceMul, Int.reduceNeg, Int.reduceLT, Int.reduceLE, Int.reduceEq, Int.add_zero, Int.zero_add, Int.sub_zero, w_284_1, w_284_3]
theorem lw_transpose_1 {a0 : Int} (h0 : g.1 x = sX5 x) (h : cl 124 [.ref x, .int (iI a0)] (mk g I) = some (.inr "java/lang/IllegalArgumentException", mk g' I')) : cl 284 [.ref x, .int (iI a0), .ref o] (mk g I) = some (.inl (some (.int (iI 1))), mk g' I') := by
  simp (maxSteps := 2000000) (disch := first | assumption | omega) only [aft_v, aft_n, aft_t, Nat.add_assoc, Nat.reduceAdd, if_true, if_false, not_true_eq_false, not_false_eq_true, Classical.not_not, Int.reduceAdd, Int.reduceSub, Int.reduceMul, Int.reduceNeg, Int.reduceLT, Int.reduceLE, Int.reduceEq, Int.add_zero, Int.zero_add, Int.sub_zero, c_284, w_284_0]
  rw [h]
  exact w_284_2
theorem lw_fix {v : Int} (h0 : g.1 x = sX5 x) (ho : gt g' o = 1) (hn : gn g' o = 1) (h : cl 125 [.ref x] (mk g I) = some (.inl (some (.int (iI v))), mk g' I')) : cl 285 [.ref x, .ref o] (mk g I) = some (.inl (some (.int (iI 0))), mk (gL g' (upd2 g'.2.1 o 0 (iI v).toInt)) I') := by
  rw [show iI v = iI (iI v).toInt from iI_of _] at h
  have hr := iI_rng (iI v)
  obtain ⟨w, hw⟩ : ∃ w, w = (iI v).toInt := ⟨_, rfl⟩
  rw [← hw] at h hr ⊢
  have b0 : (0 : Int) < (gn g' o : Int) := by omega
  simp (maxSteps := 2000000) (disch := first | assumption | omega) only [aft_v, aft_n, aft_t, Nat.add_assoc, Nat.reduceAdd, if_true, if_false, not_true_eq_false, not_false_eq_true, Classical.not_not, Int.reduceAdd, Int.reduceSub, Int.reduceMul, Int.reduceNeg, Int.reduceLT, Int.reduceLE, Int.reduceEq, Int.add_zero, Int.zero_add, Int.sub_zero, c_285, w_285_0, h]
  simp (maxSteps := 2000000) (disch := first | assumption | omega) only [aft_v, aft_n, aft_t, Nat.add_assoc, Nat.reduceAdd, if_true, if_false, not_true_eq_false, not_false_eq_true, Classical.not_not, Int.reduceAdd, Int.reduceSub, Int.reduceMul, Int.reduceNeg, Int.reduceLT, Int.reduceLE, Int.reduceEq, Int.add_zero, Int.zero_add, Int.sub_zero, w_285_1, w_285_3]
theorem lw_fix_1 (h0 : g.1 x = sX5 x) (h : cl 125 [.ref x] (mk g I) = some (.inr "java/util/NoSuchElementException", mk g' I')) : cl 285 [.ref x, .ref o] (mk g I) = some (.inl (some (.int (iI 1))), mk g' I') := by
  simp (maxSteps := 2000000) (disch := first | assumption | omega) only [aft_v, aft_n, aft_t, Nat.add_assoc, Nat.reduceAdd, if_true, if_false, not_true_eq_false, not_false_eq_true, Classical.not_not, Int.reduceAdd, Int.reduceSub, Int.reduceMul, Int.reduceNeg, Int.reduceLT, Int.reduceLE, Int.reduceEq, Int.add_zero, Int.zero_add, Int.sub_zero, c_285, w_285_0]
  rw [h]
  exact w_285_2
theorem lw_undo {v : Int} (h0 : g.1 x = sX5 x) (ho : gt g' o = 1) (hn : gn g' o = 1) (h : cl 126 [.ref x] (mk g I) = some (.inl (some (.int (iI v))), mk g' I')) : cl 286 [.ref x, .ref o] (mk g I) = some (.inl (some (.int (iI 0))), mk (gL g' (upd2 g'.2.1 o 0 (iI v).toInt)) I') := by
  rw [show iI v = iI (iI v).toInt from iI_of _] at h
  have hr := iI_rng (iI v)
  obtain ⟨w, hw⟩ : ∃ w, w = (iI v).toInt := ⟨_, rfl⟩
  rw [← hw] at h hr ⊢
  have b0 : (0 : Int) < (gn g' o : Int) := by omega
  simp (maxSteps := 2000000) (disch := first | assumption | omega) only [aft_v, aft_n, aft_t, Nat.add_assoc, Nat.reduceAdd, if_true, if_false, not_true_eq_false, not_false_eq_true, Classical.not_not, Int.reduceAdd, Int.reduceSub, Int.reduceMul, Int.reduceNeg, Int.reduceLT, Int.reduceLE, Int.reduceEq, Int.add_zero, Int.zero_add, Int.sub_zero, c_286, w_286_0, h]
  simp (maxSteps := 2000000) (disch := first | assumption | omega) only [aft_v, aft_n, aft_t, Nat.add_assoc, Nat.reduceAdd, if_true, if_false, not_true_eq_false, not_false_eq_true, Classical.not_not, Int.reduceAdd, Int.reduceSub, Int.reduceMul, Int.reduceNeg, Int.reduceLT, Int.reduceLE, Int.reduceEq, Int.add_zero, Int.zero_add, Int.sub_zero, w_286_1, w_286_3]
theorem lw_undo_1 (h0 : g.1 x = sX5 x) (h : cl 126 [.ref x] (mk g I) = some (.inr "java/lang/IllegalStateException", mk g' I')) : cl 286 [.ref x, .ref o] (mk g I) = some (.inl (some (.int (iI 1))), mk g' I') := by
  simp (maxSteps := 2000000) (disch := first | assumption | omega) only [aft_v, aft_n, aft_t, Nat.add_assoc, Nat.reduceAdd, if_true, if_false, not_true_eq_false, not_false_eq_true, Classical.not_not, Int.reduceAdd, Int.reduceSub, Int.reduceMul, Int.reduceNeg, Int.reduceLT, Int.reduceLE, Int.reduceEq, Int.add_zero, Int.zero_add, Int.sub_zero, c_286, w_286_0]
  rw [h]
  exact w_286_2
theorem lw_save {a0 : Int} (h0 : g.1 x = sX5 x) (h : cl 127 [.ref x, .int (iI a0)] (mk g I) = some (.inl none, mk g' I')) : cl 287 [.ref x, .int (iI a0)] (mk g I) = some (.inl (some (.int (iI 0))), mk g' I') := by
  simp (maxSteps := 2000000) (disch := first | assumption | omega) only [aft_v, aft_n, aft_t, Nat.add_assoc, Nat.reduceAdd, if_true, if_false, not_true_eq_false, not_false_eq_true, Classical.not_not, Int.reduceAdd, Int.reduceSub, Int.reduceMul, Int.reduceNeg, Int.reduceLT, Int.reduceLE, Int.reduceEq, Int.add_zero, Int.zero_add, Int.sub_zero, c_287, w_287_0, w_287_1, w_287_3, h]
theorem lw_save_1 {a0 : Int} (h0 : g.1 x = sX5 x) (h : cl 127 [.ref x, .int (iI a0)] (mk g I) = some (.inr "java/lang/IndexOutOfBoundsException", mk g' I')) : cl 287 [.ref x, .int (iI a0)] (mk g I) = some (.inl (some (.int (iI 1))), mk g' I') := by
  simp (maxSteps := 2000000) (disch := first | assumption | omega) only [aft_v, aft_n, aft_t, Nat.add_assoc, Nat.reduceAdd, if_true, if_false, not_true_eq_false, not_false_eq_true, Classical.not_not, Int.reduceAdd, Int.reduceSub, Int.reduceMul, Int.reduceNeg, Int.reduceLT, Int.reduceLE, Int.reduceEq, Int.add_zero, Int.zero_add, Int.sub_zero, c_287, w_287_0]
  rw [h]
  exact w_287_2
theorem lw_restore {v : Int} {a0 : Int} (h0 : g.1 x = sX5 x) (ho : gt g' o = 1) (hn : gn g' o = 1) (h : cl 128 [.ref x, .int (iI a0)] (mk g I) = some (.inl (some (.int (iI v))), mk g' I')) : cl 288 [.ref x, .int (iI a0), .ref o] (mk g I) = some (.inl (some (.int (iI 0))), mk (gL g' (upd2 g'.2.1 o 0 (iI v).toInt)) I') := by
  rw [show iI v = iI (iI v).toInt from iI_of _] at h
  have hr := iI_rng (iI v)
  obtain ⟨w, hw⟩ : ∃ w, w = (iI v).toInt := ⟨_, rfl⟩
  rw [← hw] at h hr ⊢
  have b0 : (0 : Int) < (gn g' o : Int) := by omega
  simp (maxSteps := 2000000) (disch := first | assumption | omega) only [aft_v, aft_n, aft_t, Nat.add_assoc, Nat.reduceAdd, if_true, if_false, not_true_eq_false, not_false_eq_true, Classical.not_not, Int.reduceAdd, Int.reduceSub, Int.reduceMul, Int.reduceNeg, Int.reduceLT, Int.reduceLE, Int.reduceEq, Int.add_zero, Int.zero_add, Int.sub_zero, c_288, w_288_0, h]
  simp (maxSteps := 2000000) (disch := first | assumption | omega) only [aft_v, aft_n, aft_t, Nat.add_assoc, Nat.reduceAdd, if_true, if_false, not_true_eq_false, not_false_eq_true, Classical.not_not, Int.reduceAdd, Int.reduceSub, Int.reduceMul, Int.reduceNeg, Int.reduceLT, Int.reduceLE, Int.reduceEq, Int.add_zero, Int.zero_add, Int.sub_zero, w_288_1, w_288_4]
theorem lw_restore_1 {a0 : Int} (h0 : g.1 x = sX5 x) (h : cl 128 [.ref x, .int (iI a0)] (mk g I) = some (.inr "java/lang/IndexOutOfBoundsException", mk g' I')) : cl 288 [.ref x, .int (iI a0), .ref o] (mk g I) = some (.inl (some (.int (iI 1))), mk g' I') := by
  simp (maxSteps := 2000000) (disch := first | assumption | omega) only [aft_v, aft_n, aft_t, Nat.add_assoc, Nat.reduceAdd, if_true, if_false, not_true_eq_false, not_false_eq_true, Classical.not_not, Int.reduceAdd, Int.reduceSub, Int.reduceMul, Int.reduceNeg, Int.reduceLT, Int.reduceLE, Int.reduceEq, Int.add_zero, Int.zero_add, Int.sub_zero, c_288, w_288_0]
  rw [h]
  exact w_288_2
theorem lw_restore_2 {a0 : Int} (h0 : g.1 x = sX5 x) (h : cl 128 [.ref x, .int (iI a0)] (mk g I) = some (.inr "java/lang/IllegalStateException", mk g' I')) : cl 288 [.ref x, .int (iI a0), .ref o] (mk g I) = some (.inl (some (.int (iI 2))), mk g' I') := by
  simp (maxSteps := 2000000) (disch := first | assumption | omega) only [aft_v, aft_n, aft_t, Nat.add_assoc, Nat.reduceAdd, if_true, if_false, not_true_eq_false, not_false_eq_true, Classical.not_not, Int.reduceAdd, Int.reduceSub, Int.reduceMul, Int.reduceNeg, Int.reduceLT, Int.reduceLE, Int.reduceEq, Int.add_zero, Int.zero_add, Int.sub_zero, c_288, w_288_0]
  rw [h]
  exact w_288_3
theorem lw_writeFingers {v : Int} (h0 : g.1 x = sX5 x) (ho : gt g' o = 1) (hn : gn g' o = 1) (h : cl 129 [.ref x] (mk g I) = some (.inl (some (.int (iI v))), mk g' I')) : cl 289 [.ref x, .ref o] (mk g I) = some (.inl (some (.int (iI 0))), mk (gL g' (upd2 g'.2.1 o 0 (iI v).toInt)) I') := by
  rw [show iI v = iI (iI v).toInt from iI_of _] at h
  have hr := iI_rng (iI v)
  obtain ⟨w, hw⟩ : ∃ w, w = (iI v).toInt := ⟨_, rfl⟩
  rw [← hw] at h hr ⊢
  have b0 : (0 : Int) < (gn g' o : Int) := by omega
  simp (maxSteps := 2000000) (disch := first | assumption | omega) only [aft_v, aft_n, aft_t, Nat.add_assoc, Nat.reduceAdd, if_true, if_false, not_true_eq_false, not_false_eq_true, Classical.not_not, Int.reduceAdd, Int.reduceSub, Int.reduceMul, Int.reduceNeg, Int.reduceLT, Int.reduceLE, Int.reduceEq, Int.add_zero, Int.zero_add, Int.sub_zero, c_289, w_289_0, h]
  simp (maxSteps := 2000000) (disch := first | assumption | omega) only [aft_v, aft_n, aft_t, Nat.add_assoc, Nat.reduceAdd, if_true, if_false, not_true_eq_false, not_false_eq_true, Classical.not_not, Int.reduceAdd, Int.reduceSub, Int.reduceMul, Int.reduceNeg, Int.reduceLT, Int.reduceLE, Int.reduceEq, Int.add_zero, Int.zero_add, Int.sub_zero, w_289_1, w_289_3]
theorem lw_writeFingers_1 (h0 : g.1 x = sX5 x) (h : cl 129 [.ref x] (mk g I) = some (.inr "java/util/NoSuchElementException", mk g' I')) : cl 289 [.ref x, .ref o] (mk g I) = some (.inl (some (.int (iI 1))), mk g' I') := by
  simp (maxSteps := 2000000) (disch := first | assumption | omega) only [aft_v, aft_n, aft_t, Nat.add_assoc, Nat.reduceAdd, if_true, if_false, not_true_eq_false, not_false_eq_true, Classical.not_not, Int.reduceAdd, Int.reduceSub, Int.reduceMul, Int.reduceNeg, Int.reduceLT, Int.reduceLE, Int.reduceEq, Int.add_zero, Int.zero_add, Int.sub_zero, c_289, w_289_0]
  rw [h]
  exact w_289_2
theorem lw_writtenByte {v : Int} {a0 : Int} (h0 : g.1 x = sX5 x) (ho : gt g' o = 1) (hn : gn g' o = 1) (h : cl 130 [.ref x, .int (iI a0)] (mk g I) = some (.inl (some (.int (iI v))), mk g' I')) : cl 290 [.ref x, .int (iI a0), .ref o] (mk g I) = some (.inl (some (.int (iI 0))), mk (gL g' (upd2 g'.2.1 o 0 (iI v).toInt)) I') := by
  rw [show iI v = iI (iI v).toInt from iI_of _] at h
  have hr := iI_rng (iI v)
  obtain ⟨w, hw⟩ : ∃ w, w = (iI v).toInt := ⟨_, rfl⟩
  rw [← hw] at h hr ⊢
  have b0 : (0 : Int) < (gn g' o : Int) := by omega
  simp (maxSteps := 2000000) (disch := first | assumption | omega) only [aft_v, aft_n, aft_t, Nat.add_assoc, Nat.reduceAdd, if_true, if_false, not_true_eq_false, not_false_eq_true, Classical.not_not, Int.reduceAdd, Int.reduceSub, Int.reduceMul, Int.reduceNeg, Int.reduceLT, Int.reduceLE, Int.reduceEq, Int.add_zero, Int.zero_add, Int.sub_zero, c_290, w_290_0, h]
  simp (maxSteps := 2000000) (disch := first | assumption | omega) only [aft_v, aft_n, aft_t, Nat.add_assoc, Nat.reduceAdd, if_true, if_false, not_true_eq_false, not_false_eq_true, Classical.not_not, Int.reduceAdd, Int.reduceSub, Int.reduceMul, Int.reduceNeg, Int.reduceLT, Int.reduceLE, Int.reduceEq, Int.add_zero, Int.zero_add, Int.sub_zero, w_290_1, w_290_3]
theorem lw_writtenByte_1 {a0 : Int} (h0 : g.1 x = sX5 x) (h : cl 130 [.ref x, .int (iI a0)] (mk g I) = some (.inr "java/lang/IndexOutOfBoundsException", mk g' I')) : cl 290 [.ref x, .int (iI a0), .ref o] (mk g I) = some (.inl (some (.int (iI 1))), mk g' I') := by
  simp (maxSteps := 2000000) (disch := first | assumption | omega) only [aft_v, aft_n, aft_t, Nat.add_assoc, Nat.reduceAdd, if_true, if_false, not_true_eq_false, not_false_eq_true, Classical.not_not, Int.reduceAdd, Int.reduceSub, Int.reduceMul, Int.reduceNeg, Int.reduceLT, Int.reduceLE, Int.reduceEq, Int.add_zero, Int.zero_add, Int.sub_zero, c_290, w_290_0]
  rw [h]
  exact w_290_2
theorem lw_mean {v : UInt64} (h0 : g.1 x = sX5 x) (ho : gt g' o = 2) (hn : gn g' o = 1) (h : cl 110 [.ref x] (mk g I) = some (.inl (some (.double v)), mk g' I')) : cl 275 [.ref x, .ref o] (mk g I) = some (.inl (some (.int (iI 0))), mk (gD g' (updD g'.2.2.1 o 0 v)) I') := by
  simp (maxSteps := 2000000) (disch := first | assumption | omega) only [aft_v, aft_n, aft_t, Nat.add_assoc, Nat.reduceAdd, if_true, if_false, not_true_eq_false, not_false_eq_true, Classical.not_not, Int.reduceAdd, Int.reduceSub, Int.reduceMul, Int.reduceNeg, Int.reduceLT, Int.reduceLE, Int.reduceEq, Int.add_zero, Int.zero_add, Int.sub_zero, c_275, w_275_0, h]
  refine rn_gx ((bk_275 1).trans rfl) <| m_Dst ho (by omega) <| g_Go ?_
  simp (maxSteps := 2000000) (disch := first | assumption | omega) only [aft_v, aft_n, aft_t, Nat.add_assoc, Nat.reduceAdd, if_true, if_false, not_true_eq_false, not_false_eq_true, Classical.not_not, Int.reduceAdd, Int.reduceSub, Int.reduceMul, Int.reduceNeg, Int.reduceLT, Int.reduceLE, Int.reduceEq, Int.add_zero, Int.zero_add, Int.sub_zero, w_275_3]
end WR
