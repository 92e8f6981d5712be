/-! Rounds of the law with truths, doubles, or no answer. -/
def bzI (z : Int) : Int := if z = 0 then 0 else 1
theorem bz_01 {z : Int} : bzI z = 0 ∨ bzI z = 1 := by
  unfold bzI
  by_cases h : z = 0
  · exact Or.inl (if_pos h)
  · exact Or.inr (if_neg h)
theorem dc_self {v : UInt64} (h : ¬ FP.Core.decode FP.Core.b64 v.toNat = .nan) : dcI v v .l = 0 := by
  have e : FP.dcmp v v = some .eq := by
    show FP.Core.order (FP.Core.decode FP.Core.b64 v.toNat) (FP.Core.decode FP.Core.b64 v.toNat) = some .eq
    have cs : ∀ a : Int, compare a a = .eq := fun a => by
      show compareOfLessAndEq a a = .eq
      unfold compareOfLessAndEq
      rw [if_neg (Int.lt_irrefl a), if_pos rfl]
    cases hD : FP.Core.decode FP.Core.b64 v.toNat with
    | nan => exact absurd hD h
    | inf s => exact congrArg some (cs _)
    | fin s c q => exact congrArg some (cs _)
  unfold dcI
  rw [e]; rfl
theorem mn_nn {P : PT} (hbd : bdP P) : ¬ FP.Core.decode FP.Core.b64 (mnD P).toNat = .nan := by
  obtain ⟨n1, n2, n3⟩ := nts_b hbd
  unfold mnD
  by_cases h : pE P = 0
  · rw [if_pos h]; decide +kernel
  · rw [if_neg h]
    have hd := dd_nn (a := iI (lsS P 0)) (b := sumI (pSz P) (pE P)) (by omega)
    rw [UInt64.le_iff_toNat_le, UInt64.toNat_and, show (0x7fffffffffffffff : UInt64).toNat = 2 ^ 63 - 1 from rfl, Nat.and_two_pow_sub_one_eq_mod] at hd
    exact dec_ok hd
section LE
variable {g g1 g2 : Gm} {I I1 I2 : Mm} {s x m o od : Nat} {i v w : Int} {o6 o7 o8 : Option Value}
theorem lt_let (hs : gt g s = 0 ∨ gt g s = 7) (hi : 0 ≤ i ∧ i + 6 ≤ gn g s ∧ (gn g s : Int) < 2147483648) (rs : ∀ j, (-2147483648 ≤ I s j ∧ I s j < 2147483648)) (hx : g.1 x = sX5 x) (hm : g.1 m = sX6 m) (ho : gt g o = 1 ∧ gn g o = 1) (e1 : g1.1 = g.1) (e2 : g2.1 = g.1) (es : I1 s = I s) (h1 : cl 281 [.ref x, .int (iI (I s (i + 1))), .int (iI (I s (i + 2))), .int (iI (I s (i + 3))), .int (iI (bzI (I s (i + 4)))), .ref o] (mk g I) = some (.inl (some (.int (iI v))), mk g1 I1)) (h2 : cl 254 [.ref m, .int (iI (I s (i + 1))), .int (iI (I s (i + 2))), .int (iI (I s (i + 3))), .int (iI (bzI (I s (i + 4))))] (mk g1 I1) = some (.inl (some (.int (iI w))), mk g2 I2)) (hv : 0 ≤ v ∧ v ≤ 3) (ht : I2 m 7 = v) (hq : v = 0 → g2.2.1 o 0 = (iI w).toInt) :
    ∃ p6 p7 p8, rn 291 211 [some (.ref s), some (.ref x), some (.ref m), some (.ref o), some (.ref od), some (.int (iI i)), o6, o7, o8] [] (mk g I) = rn 291 314 [some (.ref s), some (.ref x), some (.ref m), some (.ref o), some (.ref od), some (.int (iI i)), p6, p7, p8] [] (mk g2 I2) := by
  have hs1 : gt g1 s = 0 ∨ gt g1 s = 7 := by rw [gt_e e1]; exact hs
  have hn1 : gn g1 s = gn g s := gn_e e1 s
  have m1 : g1.1 m = sX6 m := by rw [e1]; exact hm
  have m2 : g2.1 m = sX6 m := by rw [e2]; exact hm
  have o2 : gt g2 o = 1 := by rw [gt_e e2]; exact ho.1
  have n2 : gn g2 o = 1 := by rw [gn_e e2]; exact ho.2
  have n2' : 0 < (gn g2 o : Int) := by omega
  have hr := iI_rng (iI w)
  rw [iI_of (iI w)] at h2
  obtain ⟨w', hw'⟩ : ∃ w', w' = (iI w).toInt := ⟨_, rfl⟩
  rw [← hw'] at h2 hr hq
  have qt := s_thrown' (g := g2) (I := I2) m2
  rw [ht] at qt
  rw [← es] at h2
  have ra := rs (i + 4)
  have rb : (-2147483648 ≤ I1 s (i + 4) ∧ I1 s (i + 4) < 2147483648) := by rw [es]; exact rs _
  have t1 : rn 291 211 [some (.ref s), some (.ref x), some (.ref m), some (.ref o), some (.ref od), some (.int (iI i)), o6, o7, o8] [] (mk g I) = rn 291 214 [some (.ref s), some (.ref x), some (.ref m), some (.ref o), some (.ref od), some (.int (iI i)), o6, o7, o8] [.int (iI (bzI (I s (i + 4)))), .int (iI (I s (i + 3))), .int (iI (I s (i + 2))), .int (iI (I s (i + 1))), .ref x] (mk g I) := by
    refine (w_291_211 (by first | omega | assumption) (by first | omega | assumption) (by first | omega | assumption) (by first | omega | assumption) (by first | omega | assumption) (by first | omega | assumption) (by first | omega | assumption) (by first | omega | assumption) (by first | omega | assumption) (by first | omega | assumption) (by first | omega | assumption) (by first | omega | assumption) (by first | omega | assumption) (by first | omega | assumption) (by first | omega | assumption)).trans ?_
    unfold bzI
    by_cases z : I s (i + 4) = 0
    · rw [if_pos z, if_pos z]; exact w_291_213
    · rw [if_neg z, if_neg z]; exact w_291_212
  refine ⟨some (.int (iI v)), some (.int (iI w')), o8, t1.trans ?_⟩
  refine (w_291_214).trans ?_
  rw [h1, aft_v]
  have t2 : rn 291 215 [some (.ref s), some (.ref x), some (.ref m), some (.ref o), some (.ref od), some (.int (iI i)), o6, o7, o8] [.int (iI v)] (mk g1 I1) = rn 291 218 [some (.ref s), some (.ref x), some (.ref m), some (.ref o), some (.ref od), some (.int (iI i)), some (.int (iI v)), o7, o8] [.int (iI (bzI (I1 s (i + 4)))), .int (iI (I1 s (i + 3))), .int (iI (I1 s (i + 2))), .int (iI (I1 s (i + 1))), .ref m] (mk g1 I1) := by
    refine (w_291_215 (by first | omega | assumption) (by first | omega | assumption) (by first | omega | assumption) (by first | omega | assumption) (by first | omega | assumption) (by first | omega | assumption) (by first | omega | assumption) (by first | omega | assumption) (by first | omega | assumption) (by first | omega | assumption) (by first | omega | assumption) (by first | omega | assumption) (by first | omega | assumption) (by first | omega | assumption) (by first | omega | assumption)).trans ?_
    unfold bzI
    by_cases z : I1 s (i + 4) = 0
    · rw [if_pos z, if_pos z]; exact w_291_217
    · rw [if_neg z, if_neg z]; exact w_291_216
  refine t2.trans ?_
  refine (w_291_218 (by first | omega | assumption)).trans ?_
  rw [h2, aft_v]
  refine (w_291_219 (by first | omega | assumption)).trans ?_
  rw [qt, aft_v]
  refine (w_291_220 (by first | omega | assumption) (by first | omega | assumption) (by first | omega | assumption) (by first | omega | assumption)).trans ?_
  refine (if_pos rfl).trans ?_
  refine (w_291_222 (by first | omega | assumption) (by first | omega | assumption)).trans ?_
  by_cases h0 : v = 0
  · refine (if_neg (not_not_intro h0)).trans ?_
    have hq' := hq h0
    have c0 : cmpI (g2.2.1 o 0) w' = 0 := by rw [hq']; unfold cmpI; rw [if_neg (by omega), if_pos rfl]
    have c1 : -2147483648 ≤ cmpI (g2.2.1 o 0) w' := by omega
    have c2 : cmpI (g2.2.1 o 0) w' < 2147483648 := by omega
    refine (w_291_223 (by first | omega | assumption) (by first | omega | assumption) (by first | omega | assumption) (by first | omega | assumption) (by first | omega | assumption) (by first | omega | assumption) (by first | omega | assumption) (by first | omega | assumption) (by first | omega | assumption) (by first | omega | assumption)).trans ?_
    refine (if_pos c0).trans ?_
    exact w_291_225
  · refine (if_pos h0).trans ?_
    exact w_291_225
theorem lt_many (hs : gt g s = 0 ∨ gt g s = 7) (hi : 0 ≤ i ∧ i + 6 ≤ gn g s ∧ (gn g s : Int) < 2147483648) (rs : ∀ j, (-2147483648 ≤ I s j ∧ I s j < 2147483648)) (hx : g.1 x = sX5 x) (hm : g.1 m = sX6 m) (e1 : g1.1 = g.1) (es : I1 s = I s) (hr : -9223372036854775808 ≤ v ∧ v < 9223372036854775808) (h1 : cl 105 [.ref x, .int (iI (bzI (I s (i + 1))))] (mk g I) = some (.inl (some (.long (lI v))), mk g1 I1)) (h2 : cl 229 [.ref m, .int (iI (bzI (I s (i + 1))))] (mk g1 I1) = some (.inl (some (.long (lI v))), mk g2 I2)) :
    rn 291 98 [some (.ref s), some (.ref x), some (.ref m), some (.ref o), some (.ref od), some (.int (iI i)), o6, o7, o8] [] (mk g I) = rn 291 314 [some (.ref s), some (.ref x), some (.ref m), some (.ref o), some (.ref od), some (.int (iI i)), o6, o7, o8] [] (mk g2 I2) := by
  have hs1 : gt g1 s = 0 ∨ gt g1 s = 7 := by rw [gt_e e1]; exact hs
  have hn1 : gn g1 s = gn g s := gn_e e1 s
  have m1 : g1.1 m = sX6 m := by rw [e1]; exact hm
  rw [← es] at h2
  have ra := rs (i + 1)
  have rb : (-2147483648 ≤ I1 s (i + 1) ∧ I1 s (i + 1) < 2147483648) := by rw [es]; exact rs _
  have t1 : rn 291 98 [some (.ref s), some (.ref x), some (.ref m), some (.ref o), some (.ref od), some (.int (iI i)), o6, o7, o8] [] (mk g I) = rn 291 101 [some (.ref s), some (.ref x), some (.ref m), some (.ref o), some (.ref od), some (.int (iI i)), o6, o7, o8] [.int (iI (bzI (I s (i + 1)))), .ref x] (mk g I) := by
    refine (w_291_98 (by first | omega | assumption) (by first | omega | assumption) (by first | omega | assumption) (by first | omega | assumption) (by first | omega | assumption) (by first | omega | assumption)).trans ?_
    unfold bzI
    by_cases z : I s (i + 1) = 0
    · rw [if_pos z, if_pos z]; exact w_291_100
    · rw [if_neg z, if_neg z]; exact w_291_99
  refine t1.trans ?_
  refine (w_291_101 (by first | omega | assumption)).trans ?_
  rw [h1, aft_v]
  have t2 : rn 291 102 [some (.ref s), some (.ref x), some (.ref m), some (.ref o), some (.ref od), some (.int (iI i)), o6, o7, o8] [.long (lI v)] (mk g1 I1) = rn 291 105 [some (.ref s), some (.ref x), some (.ref m), some (.ref o), some (.ref od), some (.int (iI i)), o6, o7, o8] [.int (iI (bzI (I1 s (i + 1)))), .ref m, .long (lI v)] (mk g1 I1) := by
    refine (w_291_102 (by first | omega | assumption) (by first | omega | assumption) (by first | omega | assumption) (by first | omega | assumption) (by first | omega | assumption) (by first | omega | assumption)).trans ?_
    unfold bzI
    by_cases z : I1 s (i + 1) = 0
    · rw [if_pos z, if_pos z]; exact w_291_104
    · rw [if_neg z, if_neg z]; exact w_291_103
  refine t2.trans ?_
  refine (w_291_105 (by first | omega | assumption)).trans ?_
  rw [h2, aft_v]
  have c0 : cmpI v v = 0 := by unfold cmpI; rw [if_neg (by omega), if_pos rfl]
  refine (w_291_106 (by first | omega | assumption) (by first | omega | assumption) (by first | omega | assumption) (by first | omega | assumption) (by first | omega | assumption) (by first | omega | assumption)).trans ?_
  exact if_pos c0
theorem lt_setHand (hs : gt g s = 0 ∨ gt g s = 7) (hi : 0 ≤ i ∧ i + 6 ≤ gn g s ∧ (gn g s : Int) < 2147483648) (rs : ∀ j, (-2147483648 ≤ I s j ∧ I s j < 2147483648)) (hx : g.1 x = sX5 x) (hm : g.1 m = sX6 m) (e1 : g1.1 = g.1) (es : I1 s = I s) (h1 : cl 123 [.ref x, .int (iI (bzI (I s (i + 1))))] (mk g I) = some (.inl (some (.int (iI v))), mk g1 I1)) (h2 : cl 257 [.ref m, .int (iI (bzI (I s (i + 1))))] (mk g1 I1) = some (.inl (some (.int (iI v))), mk g2 I2)) :
    rn 291 244 [some (.ref s), some (.ref x), some (.ref m), some (.ref o), some (.ref od), some (.int (iI i)), o6, o7, o8] [] (mk g I) = rn 291 314 [some (.ref s), some (.ref x), some (.ref m), some (.ref o), some (.ref od), some (.int (iI i)), o6, o7, o8] [] (mk g2 I2) := by
  have hs1 : gt g1 s = 0 ∨ gt g1 s = 7 := by rw [gt_e e1]; exact hs
  have hn1 : gn g1 s = gn g s := gn_e e1 s
  have m1 : g1.1 m = sX6 m := by rw [e1]; exact hm
  rw [← es] at h2
  have ra := rs (i + 1)
  have rb : (-2147483648 ≤ I1 s (i + 1) ∧ I1 s (i + 1) < 2147483648) := by rw [es]; exact rs _
  have hr := iI_rng (iI v)
  rw [iI_of (iI v)] at h1 h2
  obtain ⟨w', hw'⟩ : ∃ w', w' = (iI v).toInt := ⟨_, rfl⟩
  rw [← hw'] at h1 h2 hr
  have t1 : rn 291 244 [some (.ref s), some (.ref x), some (.ref m), some (.ref o), some (.ref od), some (.int (iI i)), o6, o7, o8] [] (mk g I) = rn 291 247 [some (.ref s), some (.ref x), some (.ref m), some (.ref o), some (.ref od), some (.int (iI i)), o6, o7, o8] [.int (iI (bzI (I s (i + 1)))), .ref x] (mk g I) := by
    refine (w_291_244 (by first | omega | assumption) (by first | omega | assumption) (by first | omega | assumption) (by first | omega | assumption) (by first | omega | assumption) (by first | omega | assumption)).trans ?_
    unfold bzI
    by_cases z : I s (i + 1) = 0
    · rw [if_pos z, if_pos z]; exact w_291_246
    · rw [if_neg z, if_neg z]; exact w_291_245
  refine t1.trans ?_
  refine (w_291_247 (by first | omega | assumption)).trans ?_
  rw [h1, aft_v]
  have t2 : rn 291 248 [some (.ref s), some (.ref x), some (.ref m), some (.ref o), some (.ref od), some (.int (iI i)), o6, o7, o8] [.int (iI w')] (mk g1 I1) = rn 291 251 [some (.ref s), some (.ref x), some (.ref m), some (.ref o), some (.ref od), some (.int (iI i)), o6, o7, o8] [.int (iI (bzI (I1 s (i + 1)))), .ref m, .int (iI w')] (mk g1 I1) := by
    refine (w_291_248 (by first | omega | assumption) (by first | omega | assumption) (by first | omega | assumption) (by first | omega | assumption) (by first | omega | assumption) (by first | omega | assumption)).trans ?_
    unfold bzI
    by_cases z : I1 s (i + 1) = 0
    · rw [if_pos z, if_pos z]; exact w_291_250
    · rw [if_neg z, if_neg z]; exact w_291_249
  refine t2.trans ?_
  refine (w_291_251 (by first | omega | assumption)).trans ?_
  rw [h2, aft_v]
  refine (w_291_252 (by first | omega | assumption) (by first | omega | assumption) (by first | omega | assumption) (by first | omega | assumption)).trans ?_
  exact if_pos rfl
theorem lt_mean {z : UInt64} (hm : g.1 m = sX6 m) (ho : gt g od = 2 ∧ gn g od = 1) (e1 : g1.1 = g.1) (e2 : g2.1 = g.1) (h1 : cl 275 [.ref x, .ref od] (mk g I) = some (.inl (some (.int (iI v))), mk g1 I1)) (h2 : cl 236 [.ref m] (mk g1 I1) = some (.inl (some (.double z)), mk g2 I2)) (hv : 0 ≤ v ∧ v ≤ 3) (ht : I2 m 7 = v) (hq : v = 0 → g2.2.2.1 od 0 = z ∧ dcI z z .l = 0) :
    ∃ p6 p7 p8, rn 291 139 [some (.ref s), some (.ref x), some (.ref m), some (.ref o), some (.ref od), some (.int (iI i)), o6, o7, o8] [] (mk g I) = rn 291 314 [some (.ref s), some (.ref x), some (.ref m), some (.ref o), some (.ref od), some (.int (iI i)), p6, p7, p8] [] (mk g2 I2) := by
  have m1 : g1.1 m = sX6 m := by rw [e1]; exact hm
  have m2 : g2.1 m = sX6 m := by rw [e2]; exact hm
  have o2 : gt g2 od = 2 := by rw [gt_e e2]; exact ho.1
  have n2 : gn g2 od = 1 := by rw [gn_e e2]; exact ho.2
  have n2' : 0 < gn g2 od := by omega
  have qt := s_thrown' (g := g2) (I := I2) m2
  rw [ht] at qt
  refine ⟨some (.int (iI v)), some (.double z), none, ?_⟩
  refine (w_291_139).trans ?_
  rw [h1, aft_v]
  refine (w_291_140 (by first | omega | assumption)).trans ?_
  rw [h2, aft_v]
  refine (w_291_141 (by first | omega | assumption)).trans ?_
  rw [qt, aft_v]
  refine (w_291_142 (by first | omega | assumption) (by first | omega | assumption) (by first | omega | assumption) (by first | omega | assumption)).trans ?_
  refine (if_pos rfl).trans ?_
  refine (w_291_144 (by first | omega | assumption) (by first | omega | assumption)).trans ?_
  by_cases h0 : v = 0
  · refine (if_neg (not_not_intro h0)).trans ?_
    obtain ⟨q1, q2⟩ := hq h0
    have q3 : dcI (g2.2.2.1 od 0) z .l = 0 := by rw [q1]; exact q2
    have z1 : -2147483648 ≤ dcI (g2.2.2.1 od 0) z .l := by omega
    have z2 : dcI (g2.2.2.1 od 0) z .l < 2147483648 := by omega
    refine (w_291_145 (by first | omega | assumption) (by first | omega | assumption) (by first | omega | assumption) (by first | omega | assumption)).trans ?_
    refine (if_pos q3).trans ?_
    exact w_291_149
  · refine (if_pos h0).trans ?_
    exact w_291_149
theorem lt_save (hs : gt g s = 0 ∨ gt g s = 7) (hi : 0 ≤ i ∧ i + 6 ≤ gn g s ∧ (gn g s : Int) < 2147483648) (hm : g.1 m = sX6 m) (e1 : g1.1 = g.1) (e2 : g2.1 = g.1) (es : I1 s = I s) (h1 : cl 287 [.ref x, .int (iI (I s (i + 1)))] (mk g I) = some (.inl (some (.int (iI v))), mk g1 I1)) (h2 : cl 161 [.ref m, .int (iI (I s (i + 1)))] (mk g1 I1) = some (.inl none, mk g2 I2)) (hv : 0 ≤ v ∧ v ≤ 3) (ht : I2 m 7 = v) :
    ∃ p6 p7 p8, rn 291 281 [some (.ref s), some (.ref x), some (.ref m), some (.ref o), some (.ref od), some (.int (iI i)), o6, o7, o8] [] (mk g I) = rn 291 314 [some (.ref s), some (.ref x), some (.ref m), some (.ref o), some (.ref od), some (.int (iI i)), p6, p7, p8] [] (mk g2 I2) := by
  have hs1 : gt g1 s = 0 ∨ gt g1 s = 7 := by rw [gt_e e1]; exact hs
  have hn1 : gn g1 s = gn g s := gn_e e1 s
  have m1 : g1.1 m = sX6 m := by rw [e1]; exact hm
  have m2 : g2.1 m = sX6 m := by rw [e2]; exact hm
  have qt := s_thrown' (g := g2) (I := I2) m2
  rw [ht] at qt
  rw [← es] at h2
  refine ⟨some (.int (iI v)), o7, o8, ?_⟩
  refine (w_291_281 (by first | omega | assumption) (by first | omega | assumption) (by first | omega | assumption) (by first | omega | assumption)).trans ?_
  rw [h1, aft_v]
  refine (w_291_282 (by first | omega | assumption) (by first | omega | assumption) (by first | omega | assumption) (by first | omega | assumption) (by first | omega | assumption)).trans ?_
  rw [h2, aft_n]
  refine (w_291_283 (by first | omega | assumption)).trans ?_
  rw [qt, aft_v]
  refine (w_291_284 (by first | omega | assumption) (by first | omega | assumption) (by first | omega | assumption) (by first | omega | assumption)).trans ?_
  refine (if_pos rfl).trans ?_
  exact w_291_286
end LE
