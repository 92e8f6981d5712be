/-- words at places that are told -/
def look9 (p : Nat × Nat) : Option Cond := match p.1 with
  | 1 => tables_1_1[p.2]?
  | 2 => tables_1_2[p.2]?
  | 3 => tables_1_3[p.2]?
  | 4 => tables_1_4[p.2]?
  | 5 => tables_1_5[p.2]?
  | 6 => tables_1_6[p.2]?
  | 7 => tables_1_7[p.2]?
  | 8 => tables_1_8[p.2]?
  | _ => none
theorem look9_of {p : Nat × Nat} {w : Cond} (h : look9 p = some w) : w ∈ lw_tbl := by
  unfold look9 at h
  split at h
  · exact in_1 (List.mem_of_getElem? h)
  · exact in_2 (List.mem_of_getElem? h)
  · exact in_3 (List.mem_of_getElem? h)
  · exact in_4 (List.mem_of_getElem? h)
  · exact in_5 (List.mem_of_getElem? h)
  · exact in_6 (List.mem_of_getElem? h)
  · exact in_7 (List.mem_of_getElem? h)
  · exact in_8 (List.mem_of_getElem? h)
  · exact absurd h (by simp)
def look9s : List Cond → List (Nat × Nat) → Bool
  | [], _ => true
  | w :: r, p :: q => (match look9 p with | some v => decide (v = w) | none => false) && look9s r q
  | _ :: _, [] => false
theorem look9s_of : ∀ (L : List Cond) (ps : List (Nat × Nat)), look9s L ps = true → ∀ w ∈ L, w ∈ lw_tbl
  | [], _, _ => fun _ h => absurd h List.not_mem_nil
  | v :: r, [], h => by simp [look9s] at h
  | v :: r, p :: q, h => by
    intro w hw
    unfold look9s at h
    rw [Bool.and_eq_true] at h
    rcases List.mem_cons.mp hw with e | hw
    · subst e
      have h1 := h.1
      split at h1
      · rename_i v' e1
        exact look9_of (e1.trans (congrArg some (of_decide_eq_true h1)))
      · exact absurd h1 (by decide)
    · exact look9s_of r q h.2 w hw
theorem thr_by {L : List Cond} {ps : List (Nat × Nat)} (h1 : look9s L ps = true) (h2 : L.all (fun w => kwOK w && vx_ot w) = true) : ∀ w ∈ L, w ∈ lw_tbl ∧ kwOK w = true ∧ vx_ot w = true := by
  intro w hw
  have b := List.all_eq_true.mp h2 w hw
  simp only [Bool.and_eq_true] at b
  exact ⟨look9s_of L ps h1 w hw, b.1, b.2⟩
theorem thr_0_f : Bundle.fit "java/lang/IllegalStateException" = true ∧ (∀ n ∈ ["java/lang/RuntimeException", "java/lang/Exception"], Bundle.fit n = true) := ⟨by decide +kernel, by decide +kernel⟩
def thr_0_p : List (Nat × Nat) := [(3, 215), (1, 12), (1, 9), (3, 237), (4, 6), (4, 11), (4, 14), (4, 16), (3, 238), (3, 239), (1, 28), (1, 29), (4, 0), (4, 5), (4, 12), (4, 28), (3, 227), (4, 29), (3, 229), (4, 30), (3, 231), (4, 1), (4, 3), (3, 233), (4, 18), (4, 19), (4, 20), (4, 21), (3, 218), (4, 21), (4, 22), (4, 23), (4, 24), (3, 220), (4, 24), (4, 25), (4, 26), (3, 238), (3, 222), (4, 17), (3, 216), (3, 217), (3, 224), (3, 225), (3, 226), (3, 228), (3, 230), (3, 232), (3, 236), (3, 235), (3, 234)]
theorem thr_0_w : ∀ w ∈ Cond.classLink RX5 75 "java/lang/IllegalStateException" :: Cond.initialized "java/lang/IllegalStateException" :: vx_at0 RX5 77 "java/lang/IllegalStateException" ["java/lang/RuntimeException", "java/lang/Exception"], w ∈ lw_tbl ∧ kwOK w = true ∧ vx_ot w = true := thr_by (ps := thr_0_p) (by decide +kernel) (by decide +kernel)
theorem thr_0 : Bundle.fit "java/lang/IllegalStateException" = true ∧ (∀ n ∈ ["java/lang/RuntimeException", "java/lang/Exception"], Bundle.fit n = true) ∧ (∀ w ∈ Cond.classLink RX5 75 "java/lang/IllegalStateException" :: Cond.initialized "java/lang/IllegalStateException" :: vx_at0 RX5 77 "java/lang/IllegalStateException" ["java/lang/RuntimeException", "java/lang/Exception"], w ∈ lw_tbl ∧ kwOK w = true ∧ vx_ot w = true) := ⟨thr_0_f.1, thr_0_f.2, thr_0_w⟩
theorem thr_1_f : Bundle.fit "java/lang/IllegalArgumentException" = true ∧ (∀ n ∈ ["java/lang/RuntimeException", "java/lang/Exception"], Bundle.fit n = true) := ⟨by decide +kernel, by decide +kernel⟩
def thr_1_p : List (Nat × Nat) := [(4, 72), (1, 18), (1, 9), (3, 237), (4, 6), (4, 11), (4, 14), (4, 16), (3, 238), (3, 239), (1, 28), (1, 29), (4, 0), (4, 5), (4, 12), (4, 28), (3, 227), (4, 29), (3, 229), (4, 30), (3, 231), (4, 1), (4, 3), (3, 233), (4, 82), (4, 83), (4, 84), (4, 21), (3, 218), (4, 21), (4, 22), (4, 23), (4, 24), (3, 220), (4, 24), (4, 25), (4, 26), (3, 238), (3, 222), (4, 81), (4, 73), (4, 74), (4, 75), (4, 8), (4, 76), (4, 77), (4, 78), (4, 79), (3, 236), (3, 235), (4, 80)]
theorem thr_1_w : ∀ w ∈ Cond.classLink RX5 121 "java/lang/IllegalArgumentException" :: Cond.initialized "java/lang/IllegalArgumentException" :: vx_at0 RX5 123 "java/lang/IllegalArgumentException" ["java/lang/RuntimeException", "java/lang/Exception"], w ∈ lw_tbl ∧ kwOK w = true ∧ vx_ot w = true := thr_by (ps := thr_1_p) (by decide +kernel) (by decide +kernel)
theorem thr_1 : Bundle.fit "java/lang/IllegalArgumentException" = true ∧ (∀ n ∈ ["java/lang/RuntimeException", "java/lang/Exception"], Bundle.fit n = true) ∧ (∀ w ∈ Cond.classLink RX5 121 "java/lang/IllegalArgumentException" :: Cond.initialized "java/lang/IllegalArgumentException" :: vx_at0 RX5 123 "java/lang/IllegalArgumentException" ["java/lang/RuntimeException", "java/lang/Exception"], w ∈ lw_tbl ∧ kwOK w = true ∧ vx_ot w = true) := ⟨thr_1_f.1, thr_1_f.2, thr_1_w⟩
theorem thr_2_f : Bundle.fit "java/lang/IndexOutOfBoundsException" = true ∧ (∀ n ∈ ["java/lang/RuntimeException", "java/lang/Exception"], Bundle.fit n = true) := ⟨by decide +kernel, by decide +kernel⟩
def thr_2_p : List (Nat × Nat) := [(4, 100), (1, 19), (1, 9), (3, 237), (4, 6), (4, 11), (4, 14), (4, 16), (3, 238), (3, 239), (1, 28), (1, 29), (4, 0), (4, 5), (4, 12), (4, 28), (3, 227), (4, 29), (3, 229), (4, 30), (3, 231), (4, 1), (4, 3), (3, 233), (4, 110), (4, 111), (4, 112), (4, 21), (3, 218), (4, 21), (4, 22), (4, 23), (4, 24), (3, 220), (4, 24), (4, 25), (4, 26), (3, 238), (3, 222), (4, 109), (4, 101), (4, 102), (4, 103), (4, 9), (4, 104), (4, 105), (4, 106), (4, 107), (3, 236), (3, 235), (4, 108)]
theorem thr_2_w : ∀ w ∈ Cond.classLink RX5 252 "java/lang/IndexOutOfBoundsException" :: Cond.initialized "java/lang/IndexOutOfBoundsException" :: vx_at0 RX5 254 "java/lang/IndexOutOfBoundsException" ["java/lang/RuntimeException", "java/lang/Exception"], w ∈ lw_tbl ∧ kwOK w = true ∧ vx_ot w = true := thr_by (ps := thr_2_p) (by decide +kernel) (by decide +kernel)
theorem thr_2 : Bundle.fit "java/lang/IndexOutOfBoundsException" = true ∧ (∀ n ∈ ["java/lang/RuntimeException", "java/lang/Exception"], Bundle.fit n = true) ∧ (∀ w ∈ Cond.classLink RX5 252 "java/lang/IndexOutOfBoundsException" :: Cond.initialized "java/lang/IndexOutOfBoundsException" :: vx_at0 RX5 254 "java/lang/IndexOutOfBoundsException" ["java/lang/RuntimeException", "java/lang/Exception"], w ∈ lw_tbl ∧ kwOK w = true ∧ vx_ot w = true) := ⟨thr_2_f.1, thr_2_f.2, thr_2_w⟩
theorem thr_3_f : Bundle.fit "java/util/NoSuchElementException" = true ∧ (∀ n ∈ ["java/lang/RuntimeException", "java/lang/Exception"], Bundle.fit n = true) := ⟨by decide +kernel, by decide +kernel⟩
def thr_3_p : List (Nat × Nat) := [(4, 170), (1, 20), (1, 9), (3, 237), (4, 6), (4, 11), (4, 14), (4, 16), (3, 238), (3, 239), (1, 28), (1, 29), (4, 0), (4, 5), (4, 12), (4, 28), (3, 227), (4, 29), (3, 229), (4, 30), (3, 231), (4, 1), (4, 3), (3, 233), (4, 180), (4, 181), (4, 182), (4, 21), (3, 218), (4, 21), (4, 22), (4, 23), (4, 24), (3, 220), (4, 24), (4, 25), (4, 26), (3, 238), (3, 222), (4, 179), (4, 171), (4, 172), (4, 173), (4, 10), (4, 174), (4, 175), (4, 176), (4, 177), (3, 236), (3, 235), (4, 178)]
theorem thr_3_w : ∀ w ∈ Cond.classLink RX5 300 "java/util/NoSuchElementException" :: Cond.initialized "java/util/NoSuchElementException" :: vx_at0 RX5 302 "java/util/NoSuchElementException" ["java/lang/RuntimeException", "java/lang/Exception"], w ∈ lw_tbl ∧ kwOK w = true ∧ vx_ot w = true := thr_by (ps := thr_3_p) (by decide +kernel) (by decide +kernel)
theorem thr_3 : Bundle.fit "java/util/NoSuchElementException" = true ∧ (∀ n ∈ ["java/lang/RuntimeException", "java/lang/Exception"], Bundle.fit n = true) ∧ (∀ w ∈ Cond.classLink RX5 300 "java/util/NoSuchElementException" :: Cond.initialized "java/util/NoSuchElementException" :: vx_at0 RX5 302 "java/util/NoSuchElementException" ["java/lang/RuntimeException", "java/lang/Exception"], w ∈ lw_tbl ∧ kwOK w = true ∧ vx_ot w = true) := ⟨thr_3_f.1, thr_3_f.2, thr_3_w⟩
theorem uk_X0 : ∀ k, k < 10 → u_lay RX0 TX0 k ∈ lw_tbl ∧ kwOK (u_lay RX0 TX0 k) = true
  | 0, _ => ⟨in_1 (List.mem_of_getElem? (i := 97) (by decide +kernel)), rfl⟩
  | 1, _ => ⟨in_1 (List.mem_of_getElem? (i := 99) (by decide +kernel)), rfl⟩
  | 2, _ => ⟨in_1 (List.mem_of_getElem? (i := 101) (by decide +kernel)), rfl⟩
  | 3, _ => ⟨in_1 (List.mem_of_getElem? (i := 103) (by decide +kernel)), rfl⟩
  | 4, _ => ⟨in_1 (List.mem_of_getElem? (i := 105) (by decide +kernel)), rfl⟩
  | 5, _ => ⟨in_1 (List.mem_of_getElem? (i := 107) (by decide +kernel)), rfl⟩
  | 6, _ => ⟨in_1 (List.mem_of_getElem? (i := 109) (by decide +kernel)), rfl⟩
  | 7, _ => ⟨in_1 (List.mem_of_getElem? (i := 111) (by decide +kernel)), rfl⟩
  | 8, _ => ⟨in_1 (List.mem_of_getElem? (i := 113) (by decide +kernel)), rfl⟩
  | 9, _ => ⟨in_1 (List.mem_of_getElem? (i := 115) (by decide +kernel)), rfl⟩
  | k + 10, h => absurd h (by omega)
theorem uw_X0 : ∀ w ∈ u_ws RX0 TX0 10, w ∈ lw_tbl ∧ kwOK w = true := fun w hw => by
  obtain ⟨k, hk, rfl⟩ := List.mem_map.mp hw
  exact uk_X0 k (List.mem_range.mp hk)
theorem nfX0_ok : ∀ j, j < 10 → defaultValue (tyX0 j) = vp_V nfX0 j := by decide +kernel
theorem uk_X1 : ∀ k, k < 13 → u_lay RX1 TX1 k ∈ lw_tbl ∧ kwOK (u_lay RX1 TX1 k) = true
  | 0, _ => ⟨in_1 (List.mem_of_getElem? (i := 141) (by decide +kernel)), rfl⟩
  | 1, _ => ⟨in_1 (List.mem_of_getElem? (i := 143) (by decide +kernel)), rfl⟩
  | 2, _ => ⟨in_1 (List.mem_of_getElem? (i := 145) (by decide +kernel)), rfl⟩
  | 3, _ => ⟨in_1 (List.mem_of_getElem? (i := 147) (by decide +kernel)), rfl⟩
  | 4, _ => ⟨in_1 (List.mem_of_getElem? (i := 149) (by decide +kernel)), rfl⟩
  | 5, _ => ⟨in_1 (List.mem_of_getElem? (i := 151) (by decide +kernel)), rfl⟩
  | 6, _ => ⟨in_1 (List.mem_of_getElem? (i := 153) (by decide +kernel)), rfl⟩
  | 7, _ => ⟨in_1 (List.mem_of_getElem? (i := 155) (by decide +kernel)), rfl⟩
  | 8, _ => ⟨in_1 (List.mem_of_getElem? (i := 157) (by decide +kernel)), rfl⟩
  | 9, _ => ⟨in_1 (List.mem_of_getElem? (i := 159) (by decide +kernel)), rfl⟩
  | 10, _ => ⟨in_1 (List.mem_of_getElem? (i := 161) (by decide +kernel)), rfl⟩
  | 11, _ => ⟨in_1 (List.mem_of_getElem? (i := 163) (by decide +kernel)), rfl⟩
  | 12, _ => ⟨in_1 (List.mem_of_getElem? (i := 165) (by decide +kernel)), rfl⟩
  | k + 13, h => absurd h (by omega)
theorem uw_X1 : ∀ w ∈ u_ws RX1 TX1 13, w ∈ lw_tbl ∧ kwOK w = true := fun w hw => by
  obtain ⟨k, hk, rfl⟩ := List.mem_map.mp hw
  exact uk_X1 k (List.mem_range.mp hk)
theorem nfX1_ok : ∀ j, j < 13 → defaultValue (tyX1 j) = vp_V nfX1 j := by decide +kernel
theorem uk_X2 : ∀ k, k < 1 → u_lay RX2 TX2 k ∈ lw_tbl ∧ kwOK (u_lay RX2 TX2 k) = true
  | 0, _ => ⟨in_1 (List.mem_of_getElem? (i := 46) (by decide +kernel)), rfl⟩
  | k + 1, h => absurd h (by omega)
theorem uw_X2 : ∀ w ∈ u_ws RX2 TX2 1, w ∈ lw_tbl ∧ kwOK w = true := fun w hw => by
  obtain ⟨k, hk, rfl⟩ := List.mem_map.mp hw
  exact uk_X2 k (List.mem_range.mp hk)
theorem nfX2_ok : ∀ j, j < 1 → defaultValue (tyX2 j) = vp_V nfX2 j := by decide +kernel
theorem uk_X3 : ∀ k, k < 1 → u_lay RX3 TX3 k ∈ lw_tbl ∧ kwOK (u_lay RX3 TX3 k) = true
  | 0, _ => ⟨in_1 (List.mem_of_getElem? (i := 220) (by decide +kernel)), rfl⟩
  | k + 1, h => absurd h (by omega)
theorem uw_X3 : ∀ w ∈ u_ws RX3 TX3 1, w ∈ lw_tbl ∧ kwOK w = true := fun w hw => by
  obtain ⟨k, hk, rfl⟩ := List.mem_map.mp hw
  exact uk_X3 k (List.mem_range.mp hk)
theorem nfX3_ok : ∀ j, j < 1 → defaultValue (tyX3 j) = vp_V nfX3 j := by decide +kernel
theorem uk_X4 : ∀ k, k < 9 → u_lay RX4 TX4 k ∈ lw_tbl ∧ kwOK (u_lay RX4 TX4 k) = true
  | 0, _ => ⟨in_1 (List.mem_of_getElem? (i := 189) (by decide +kernel)), rfl⟩
  | 1, _ => ⟨in_1 (List.mem_of_getElem? (i := 191) (by decide +kernel)), rfl⟩
  | 2, _ => ⟨in_1 (List.mem_of_getElem? (i := 193) (by decide +kernel)), rfl⟩
  | 3, _ => ⟨in_1 (List.mem_of_getElem? (i := 195) (by decide +kernel)), rfl⟩
  | 4, _ => ⟨in_1 (List.mem_of_getElem? (i := 197) (by decide +kernel)), rfl⟩
  | 5, _ => ⟨in_1 (List.mem_of_getElem? (i := 199) (by decide +kernel)), rfl⟩
  | 6, _ => ⟨in_1 (List.mem_of_getElem? (i := 201) (by decide +kernel)), rfl⟩
  | 7, _ => ⟨in_1 (List.mem_of_getElem? (i := 203) (by decide +kernel)), rfl⟩
  | 8, _ => ⟨in_1 (List.mem_of_getElem? (i := 205) (by decide +kernel)), rfl⟩
  | k + 9, h => absurd h (by omega)
theorem uw_X4 : ∀ w ∈ u_ws RX4 TX4 9, w ∈ lw_tbl ∧ kwOK w = true := fun w hw => by
  obtain ⟨k, hk, rfl⟩ := List.mem_map.mp hw
  exact uk_X4 k (List.mem_range.mp hk)
theorem nfX4_ok : ∀ j, j < 9 → defaultValue (tyX4 j) = vp_V nfX4 j := by decide +kernel
theorem uk_X5 : ∀ k, k < 12 → u_lay RX5 TX5 k ∈ lw_tbl ∧ kwOK (u_lay RX5 TX5 k) = true
  | 0, _ => ⟨in_1 (List.mem_of_getElem? (i := 235) (by decide +kernel)), rfl⟩
  | 1, _ => ⟨in_1 (List.mem_of_getElem? (i := 237) (by decide +kernel)), rfl⟩
  | 2, _ => ⟨in_1 (List.mem_of_getElem? (i := 239) (by decide +kernel)), rfl⟩
  | 3, _ => ⟨in_2 (List.mem_of_getElem? (i := 1) (by decide +kernel)), rfl⟩
  | 4, _ => ⟨in_2 (List.mem_of_getElem? (i := 3) (by decide +kernel)), rfl⟩
  | 5, _ => ⟨in_2 (List.mem_of_getElem? (i := 5) (by decide +kernel)), rfl⟩
  | 6, _ => ⟨in_2 (List.mem_of_getElem? (i := 7) (by decide +kernel)), rfl⟩
  | 7, _ => ⟨in_2 (List.mem_of_getElem? (i := 9) (by decide +kernel)), rfl⟩
  | 8, _ => ⟨in_2 (List.mem_of_getElem? (i := 11) (by decide +kernel)), rfl⟩
  | 9, _ => ⟨in_2 (List.mem_of_getElem? (i := 13) (by decide +kernel)), rfl⟩
  | 10, _ => ⟨in_2 (List.mem_of_getElem? (i := 15) (by decide +kernel)), rfl⟩
  | 11, _ => ⟨in_2 (List.mem_of_getElem? (i := 17) (by decide +kernel)), rfl⟩
  | k + 12, h => absurd h (by omega)
theorem uw_X5 : ∀ w ∈ u_ws RX5 TX5 12, w ∈ lw_tbl ∧ kwOK w = true := fun w hw => by
  obtain ⟨k, hk, rfl⟩ := List.mem_map.mp hw
  exact uk_X5 k (List.mem_range.mp hk)
theorem nfX5_ok : ∀ j, j < 12 → defaultValue (tyX5 j) = vp_V nfX5 j := by decide +kernel
theorem uk_X6 : ∀ k, k < 30 → u_lay RX6 TX6 k ∈ lw_tbl ∧ kwOK (u_lay RX6 TX6 k) = true
  | 0, _ => ⟨in_5 (List.mem_of_getElem? (i := 227) (by decide +kernel)), rfl⟩
  | 1, _ => ⟨in_5 (List.mem_of_getElem? (i := 229) (by decide +kernel)), rfl⟩
  | 2, _ => ⟨in_5 (List.mem_of_getElem? (i := 231) (by decide +kernel)), rfl⟩
  | 3, _ => ⟨in_5 (List.mem_of_getElem? (i := 233) (by decide +kernel)), rfl⟩
  | 4, _ => ⟨in_5 (List.mem_of_getElem? (i := 235) (by decide +kernel)), rfl⟩
  | 5, _ => ⟨in_5 (List.mem_of_getElem? (i := 237) (by decide +kernel)), rfl⟩
  | 6, _ => ⟨in_5 (List.mem_of_getElem? (i := 239) (by decide +kernel)), rfl⟩
  | 7, _ => ⟨in_6 (List.mem_of_getElem? (i := 1) (by decide +kernel)), rfl⟩
  | 8, _ => ⟨in_6 (List.mem_of_getElem? (i := 3) (by decide +kernel)), rfl⟩
  | 9, _ => ⟨in_6 (List.mem_of_getElem? (i := 5) (by decide +kernel)), rfl⟩
  | 10, _ => ⟨in_6 (List.mem_of_getElem? (i := 7) (by decide +kernel)), rfl⟩
  | 11, _ => ⟨in_6 (List.mem_of_getElem? (i := 9) (by decide +kernel)), rfl⟩
  | 12, _ => ⟨in_6 (List.mem_of_getElem? (i := 11) (by decide +kernel)), rfl⟩
  | 13, _ => ⟨in_6 (List.mem_of_getElem? (i := 13) (by decide +kernel)), rfl⟩
  | 14, _ => ⟨in_6 (List.mem_of_getElem? (i := 15) (by decide +kernel)), rfl⟩
  | 15, _ => ⟨in_6 (List.mem_of_getElem? (i := 17) (by decide +kernel)), rfl⟩
  | 16, _ => ⟨in_6 (List.mem_of_getElem? (i := 19) (by decide +kernel)), rfl⟩
  | 17, _ => ⟨in_6 (List.mem_of_getElem? (i := 21) (by decide +kernel)), rfl⟩
  | 18, _ => ⟨in_6 (List.mem_of_getElem? (i := 23) (by decide +kernel)), rfl⟩
  | 19, _ => ⟨in_6 (List.mem_of_getElem? (i := 25) (by decide +kernel)), rfl⟩
  | 20, _ => ⟨in_6 (List.mem_of_getElem? (i := 27) (by decide +kernel)), rfl⟩
  | 21, _ => ⟨in_6 (List.mem_of_getElem? (i := 29) (by decide +kernel)), rfl⟩
  | 22, _ => ⟨in_6 (List.mem_of_getElem? (i := 31) (by decide +kernel)), rfl⟩
  | 23, _ => ⟨in_6 (List.mem_of_getElem? (i := 33) (by decide +kernel)), rfl⟩
  | 24, _ => ⟨in_6 (List.mem_of_getElem? (i := 35) (by decide +kernel)), rfl⟩
  | 25, _ => ⟨in_6 (List.mem_of_getElem? (i := 37) (by decide +kernel)), rfl⟩
  | 26, _ => ⟨in_6 (List.mem_of_getElem? (i := 39) (by decide +kernel)), rfl⟩
  | 27, _ => ⟨in_6 (List.mem_of_getElem? (i := 41) (by decide +kernel)), rfl⟩
  | 28, _ => ⟨in_6 (List.mem_of_getElem? (i := 43) (by decide +kernel)), rfl⟩
  | 29, _ => ⟨in_6 (List.mem_of_getElem? (i := 45) (by decide +kernel)), rfl⟩
  | k + 30, h => absurd h (by omega)
theorem uw_X6 : ∀ w ∈ u_ws RX6 TX6 30, w ∈ lw_tbl ∧ kwOK w = true := fun w hw => by
  obtain ⟨k, hk, rfl⟩ := List.mem_map.mp hw
  exact uk_X6 k (List.mem_range.mp hk)
theorem nfX6_ok : ∀ j, j < 30 → defaultValue (tyX6 j) = vp_V nfX6 j := by decide +kernel
