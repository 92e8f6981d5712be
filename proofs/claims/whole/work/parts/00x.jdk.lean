/-! The JDK's methods. -/
section JD
variable {g : Gm} {I : Mm}
theorem xor12 {x : Int} (h : -87 ≤ x ∧ x ≤ 87) : 0 ≤ xorI x 12 ↔ 0 ≤ x := by
  have key : ∀ n : Fin 175, (decide (0 ≤ xorI ((n.val : Int) - 87) 12)) = decide (0 ≤ ((n.val : Int) - 87)) := by decide +kernel
  have := key ⟨(x + 87).toNat, by omega⟩
  rw [show (((x + 87).toNat : Nat) : Int) - 87 = x by omega] at this
  exact decide_eq_decide.mp this
theorem s_floorMod {x : Int} (h : -87 ≤ x ∧ x ≤ 87) : cl 292 [.int (iI x), .int (iI 12)] (mk g I) = some (.inl (some (.int (iI (x % 12)))), mk g I) := by
  have b0 : rn 292 0 [some (.int (iI x)), some (.int (iI 12)), none] [] (mk g I) = if 0 ≤ xorI x 12 then rn 292 3 [some (.int (iI x)), some (.int (iI 12)), some (.int (iI (Int.tmod x 12)))] [] (mk g I) else rn 292 1 [some (.int (iI x)), some (.int (iI 12)), some (.int (iI (Int.tmod x 12)))] [] (mk g I) :=
    rn_gx ((bk_292 0).trans rfl) <| g_Ld rfl <| g_Ld rfl <| m_Rem (by omega) (by omega) (by decide) (by decide) <| g_St rfl <| g_Ld rfl <| g_Ld rfl <| m_Xor <| m_Ge0 (iI_rng _).1 (iI_rng _).2
  refine c_292.trans ?_
  refine b0.trans ?_
  by_cases hx : 0 ≤ x
  · rw [if_pos ((xor12 h).mpr hx)]
    simp (maxSteps := 2000000) (disch := first | assumption | omega) only [aft_v, aft_n, aft_t, Nat.add_assoc, Nat.reduceAdd, if_true, if_false, not_true_eq_false, not_false_eq_true, Classical.not_not, Int.reduceAdd, Int.reduceSub, Int.reduceMul, Int.reduceNeg, Int.reduceLT, Int.reduceLE, Int.reduceEq, Int.add_zero, Int.zero_add, Int.sub_zero, w_292_3]
    rw [tm_nn hx]
  · rw [if_neg (fun z => hx ((xor12 h).mp z))]
    have e : Int.tmod x 12 = -((-x) % 12) := by
      rw [← tm_nn (by omega : 0 ≤ -x), Int.neg_tmod]; omega
    rw [e]
    simp (maxSteps := 2000000) (disch := first | assumption | omega) only [aft_v, aft_n, aft_t, Nat.add_assoc, Nat.reduceAdd, if_true, if_false, not_true_eq_false, not_false_eq_true, Classical.not_not, Int.reduceAdd, Int.reduceSub, Int.reduceMul, Int.reduceNeg, Int.reduceLT, Int.reduceLE, Int.reduceEq, Int.add_zero, Int.zero_add, Int.sub_zero, w_292_1, w_292_2, w_292_3]
    split
    · refine ans_i ?_; omega
    · refine ans_i ?_; omega
def bcI (x : Int) : Int := (andI (((andI (((andI (x - (andI (ushrI x 1) 1431655765)) 858993459) + (andI (ushrI (x - (andI (ushrI x 1) 1431655765)) 2) 858993459)) + (ushrI ((andI (x - (andI (ushrI x 1) 1431655765)) 858993459) + (andI (ushrI (x - (andI (ushrI x 1) 1431655765)) 2) 858993459)) 4)) 252645135) + (ushrI (andI (((andI (x - (andI (ushrI x 1) 1431655765)) 858993459) + (andI (ushrI (x - (andI (ushrI x 1) 1431655765)) 2) 858993459)) + (ushrI ((andI (x - (andI (ushrI x 1) 1431655765)) 858993459) + (andI (ushrI (x - (andI (ushrI x 1) 1431655765)) 2) 858993459)) 4)) 252645135) 8)) + (ushrI ((andI (((andI (x - (andI (ushrI x 1) 1431655765)) 858993459) + (andI (ushrI (x - (andI (ushrI x 1) 1431655765)) 2) 858993459)) + (ushrI ((andI (x - (andI (ushrI x 1) 1431655765)) 858993459) + (andI (ushrI (x - (andI (ushrI x 1) 1431655765)) 2) 858993459)) 4)) 252645135) + (ushrI (andI (((andI (x - (andI (ushrI x 1) 1431655765)) 858993459) + (andI (ushrI (x - (andI (ushrI x 1) 1431655765)) 2) 858993459)) + (ushrI ((andI (x - (andI (ushrI x 1) 1431655765)) 858993459) + (andI (ushrI (x - (andI (ushrI x 1) 1431655765)) 2) 858993459)) 4)) 252645135) 8)) 16)) 63)
theorem s_bitCount {x : Int} : cl 293 [.int (iI x)] (mk g I) = some (.inl (some (.int (iI (bcI x)))), mk g I) := by
  refine c_293.trans ?_
  exact w_293_0
theorem bc_1 {x : Int} (h : 0 ≤ x ∧ x ≤ 31) : (bcI x = 1 ↔ (andI x (x - 1) = 0 ∧ ¬ x = 0)) ∧ (1 < bcI x ↔ ¬ andI x (x - 1) = 0) ∧ 0 ≤ bcI x ∧ bcI x ≤ 5 := by
  have key : ∀ n : Fin 32, (bcI (n.val : Int) = 1 ↔ (andI (n.val : Int) ((n.val : Int) - 1) = 0 ∧ ¬ (n.val : Int) = 0)) ∧ (1 < bcI (n.val : Int) ↔ ¬ andI (n.val : Int) ((n.val : Int) - 1) = 0) ∧ 0 ≤ bcI (n.val : Int) ∧ bcI (n.val : Int) ≤ 5 := by decide +kernel
  have := key ⟨x.toNat, by omega⟩
  rw [show ((x.toNat : Nat) : Int) = x by omega] at this
  exact this
/- bits of small sets -/
theorem bit_v {f : Int} (h : 1 ≤ f ∧ f ≤ 5) : bitF f = if f = 1 then 1 else if f = 2 then 2 else if f = 3 then 4 else if f = 4 then 8 else 16 := by
  have : f = 1 ∨ f = 2 ∨ f = 3 ∨ f = 4 ∨ f = 5 := by omega
  rcases this with rfl | rfl | rfl | rfl | rfl <;> decide +kernel
theorem bit_b {f : Int} (h : 1 ≤ f ∧ f ≤ 5) : 1 ≤ bitF f ∧ bitF f ≤ 16 := by
  rw [bit_v h]; (repeat' split) <;> decide
theorem or_b {a b : Int} (ha : 0 ≤ a ∧ a ≤ 31) (hb : 0 ≤ b ∧ b ≤ 31) : 0 ≤ orI a b ∧ orI a b ≤ 31 := by
  have key : ∀ n m : Fin 32, 0 ≤ orI (n.val : Int) (m.val : Int) ∧ orI (n.val : Int) (m.val : Int) ≤ 31 := by decide +kernel
  have := key ⟨a.toNat, by omega⟩ ⟨b.toNat, by omega⟩
  rw [show ((a.toNat : Nat) : Int) = a by omega, show ((b.toNat : Nat) : Int) = b by omega] at this
  exact this
/- texts -/
theorem shr0 {a : Int} (h : 0 ≤ a ∧ a < 128) : shrI a 0 = a := by
  have key : ∀ n : Fin 128, shrI (n.val : Int) 0 = n.val := by decide +kernel
  have := key ⟨a.toNat, by omega⟩
  rw [show ((a.toNat : Nat) : Int) = a by omega] at this
  exact this
theorem and255 {a : Int} (h : 0 ≤ a ∧ a < 128) : andI a 255 = a := by
  have key : ∀ n : Fin 128, andI (n.val : Int) 255 = n.val := by decide +kernel
  have := key ⟨a.toNat, by omega⟩
  rw [show ((a.toNat : Nat) : Int) = a by omega] at this
  exact this
theorem chr_ok {a : Int} (h : 0 ≤ a ∧ a < 128) : ((iI a).toUInt32 % 65536).toInt32 = iI a := by
  have key : ∀ n : Fin 128, ((iI (n.val : Int)).toUInt32 % 65536).toInt32 = iI (n.val : Int) := by decide +kernel
  have := key ⟨a.toNat, by omega⟩
  rw [show ((a.toNat : Nat) : Int) = a by omega] at this
  exact this
theorem s_coder {p : Nat} (h8 : gt g p = 8) : cl 296 [.ref p] (mk g I) = some (.inl (some (.int (iI 0))), mk g I) := by
  refine c_296.trans ?_
  refine (w_296_0).trans ?_
  refine (if_neg (by omega)).trans ?_
  refine rn_gx ((bk_296 1).trans rfl) <| g_LdA rfl <| g_Scod (rnd_int h8 (by omega)) <| g_Go ?_
  exact rn_gx ((bk_296 3).trans rfl) <| g_RetY rfl
theorem s_isLatin1 {p : Nat} (h8 : gt g p = 8) : cl 297 [.ref p] (mk g I) = some (.inl (some (.int (iI 1))), mk g I) := by
  refine c_297.trans ?_
  refine (w_297_0).trans ?_
  refine (if_neg (by omega)).trans ?_
  refine rn_gx ((bk_297 1).trans rfl) <| g_LdA rfl <| g_Scod (rnd_int h8 (by omega)) <| ?_
  refine (m_Ne0 (x := 0) (by decide) (by decide)).trans ?_
  refine (if_neg (by omega)).trans ?_
  simp (maxSteps := 2000000) (disch := first | assumption | omega) only [aft_v, aft_n, aft_t, Nat.add_assoc, Nat.reduceAdd, if_true, if_false, not_true_eq_false, not_false_eq_true, Classical.not_not, Int.reduceAdd, Int.reduceSub, Int.reduceMul, Int.reduceNeg, Int.reduceLT, Int.reduceLE, Int.reduceEq, Int.add_zero, Int.zero_add, Int.sub_zero, w_297_2, w_297_4]
theorem s_strlen {p : Nat} (h8 : gt g p = 8) (h9 : gt g (p + 20) = 9) (hn : gn g (p + 20) < 128) : cl 294 [.ref p] (mk g I) = some (.inl (some (.int (iI (gn g (p + 20) : Int)))), mk g I) := by
  refine c_294.trans ?_
  refine rn_gx ((bk_294 0).trans rfl) <| g_LdA rfl <| g_Sval (rnd_int h8 (by omega)) <| g_Blen (rnd_int h9 (by omega)) <| g_LdA rfl <| ?_
  rw [iI_nat]
  refine (m_Cx rfl h8 (Nat.le_of_ble_eq_true rfl) (Nat.le_of_ble_eq_true rfl)).trans ?_
  show aft rn 294 1 [some (.ref p)] [.int (iI (gn g (p + 20) : Int))] none (cl 296 [.ref p] (mk g I)) = _
  rw [s_coder h8]
  simp (maxSteps := 2000000) (disch := first | assumption | omega) only [aft_v, aft_n, aft_t, Nat.add_assoc, Nat.reduceAdd, if_true, if_false, not_true_eq_false, not_false_eq_true, Classical.not_not, Int.reduceAdd, Int.reduceSub, Int.reduceMul, Int.reduceNeg, Int.reduceLT, Int.reduceLE, Int.reduceEq, Int.add_zero, Int.zero_add, Int.sub_zero, w_294_1]
  rw [shr0 (by omega)]
theorem s_latChar {p : Nat} {i : Int} (h9 : gt g p = 9) (h0 : 0 ≤ i) (h1 : i < gn g p) (hn : gn g p < 128) (hv : 0 ≤ I p i ∧ I p i < 128) : cl 298 [.ref p, .int (iI i)] (mk g I) = some (.inl (some (.int (iI (I p i)))), mk g I) := by
  refine c_298.trans ?_
  refine rn_gx ((bk_298 0).trans rfl) <| g_Ld rfl <| g_LdA rfl <| g_Blen (rnd_int h9 (by omega)) <| ?_
  rw [iI_nat]
  refine g_Chk (by rw [iI_0, iI_le (by omega) (by omega) (by omega) (by omega)]; exact h0) (by rw [iI_lt (by omega) (by omega) (by omega) (by omega)]; exact h1) (Nat.le_of_ble_eq_true rfl) <| g_LdA rfl <| g_Ld rfl <| g_Bld (rnd_int h9 (by omega)) (m_vin h0 h1 (by omega)) <| m_C (z := 255) rfl <| ?_
  rw [m_cl h0 (by omega)]
  refine m_And <| g_I2c <| ?_
  rw [and255 hv, chr_ok hv]
  exact g_RetC (chr_ok hv) rfl
theorem s_charAt {p : Nat} {i : Int} (h8 : gt g p = 8) (h9 : gt g (p + 20) = 9) (h0 : 0 ≤ i) (h1 : i < gn g (p + 20)) (hn : gn g (p + 20) < 128) (hv : 0 ≤ I (p + 20) i ∧ I (p + 20) i < 128) : cl 295 [.ref p, .int (iI i)] (mk g I) = some (.inl (some (.int (iI (I (p + 20) i)))), mk g I) := by
  refine c_295.trans ?_
  refine (w_295_0 (by first | assumption | omega)).trans ?_
  rw [s_isLatin1 h8, aft_v]
  refine (w_295_1 (by first | assumption | omega) (by first | assumption | omega)).trans ?_
  refine (if_neg (by omega)).trans ?_
  refine rn_gx ((bk_295 2).trans rfl) <| g_LdA rfl <| g_Sval (rnd_int h8 (by omega)) <| g_Ld rfl <| ?_
  refine (m_Cs rfl (Nat.le_of_ble_eq_true rfl) (Nat.le_of_ble_eq_true rfl)).trans ?_
  show aft rn 295 3 [some (.ref p), some (.int (iI i))] [] none (cl 298 [.ref (p + 20), .int (iI i)] (mk g I)) = _
  rw [s_latChar h9 h0 h1 hn hv, aft_v]
  exact rn_gx ((bk_295 3).trans rfl) <| g_RetC (chr_ok hv) rfl
end JD
