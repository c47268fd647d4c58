/-! LEVEL B: the view at the start -/
def v0_ok (I : qI) (n : Nat) : Bool := match vq n with
  | some (o, j) => o == 26 || I (65 + o) j == I 270 n
  | none => true
theorem v0_out {I : qI} {n : Nat} (h : v0_ok I n = true) {o j : Nat} (hn : vq n = some (o, j)) (ho : o ≠ 26) : I (65 + o) j = I 270 n := by
  unfold v0_ok at h
  rw [hn] at h
  simp only [Bool.or_eq_true, beq_iff_eq] at h
  exact h.resolve_left ho
theorem v0_0 : (List.range' 0 80).all (v0_ok q_z2.1) = true := by decide +kernel
theorem v0_80 : (List.range' 80 100).all (v0_ok q_z2.1) = true := by decide +kernel
theorem v0_180 : (List.range' 180 100).all (v0_ok q_z2.1) = true := by decide +kernel
theorem v0_280 : (List.range' 280 90).all (v0_ok q_z2.1) = true := by decide +kernel
theorem v0_370 : (List.range' 370 80).all (v0_ok q_z2.1) = true := by decide +kernel
theorem v0_450 : (List.range' 450 80).all (v0_ok q_z2.1) = true := by decide +kernel
theorem v0_530 : (List.range' 530 80).all (v0_ok q_z2.1) = true := by decide +kernel
theorem v0_610 : (List.range' 610 80).all (v0_ok q_z2.1) = true := by decide +kernel
theorem v0_690 : (List.range' 690 80).all (v0_ok q_z2.1) = true := by decide +kernel
theorem v0_770 : (List.range' 770 80).all (v0_ok q_z2.1) = true := by decide +kernel
theorem v0_t : (List.range 12).all (fun t => v0_ok q_z2.1 (850 + 200 * t) && v0_ok q_z2.1 (851 + 200 * t) && v0_ok q_z2.1 (852 + 200 * t)) = true := by decide +kernel
theorem v0_w : (List.range' 3250 50).all (v0_ok q_z2.1) = true := by decide +kernel
theorem v0_b : (List.range' 3300 80).all (v0_ok q_z2.1) = true := by decide +kernel
theorem v0_h : (List.range' 0 72).all (fun j => q_z2.1 91 j == (-1 : Int32)) = true := by decide +kernel
theorem v0_m : (List.range' 80 288).all (fun n => q_z2.1 270 n == (0 : Int32)) = true := by decide +kernel
theorem v0_all {n o j : Nat} (h : vq n = some (o, j)) (ho : o ≠ 26) : q_z2.1 (65 + o) j = q_z2.1 270 n := by
  refine v0_out ?_ h ho
  by_cases h0 : 0 ≤ n ∧ n < 80
  · exact List.all_eq_true.mp v0_0 n (List.mem_range'_1.mpr (by omega))
  by_cases h80 : 80 ≤ n ∧ n < 180
  · exact List.all_eq_true.mp v0_80 n (List.mem_range'_1.mpr (by omega))
  by_cases h180 : 180 ≤ n ∧ n < 280
  · exact List.all_eq_true.mp v0_180 n (List.mem_range'_1.mpr (by omega))
  by_cases h280 : 280 ≤ n ∧ n < 370
  · exact List.all_eq_true.mp v0_280 n (List.mem_range'_1.mpr (by omega))
  by_cases h370 : 370 ≤ n ∧ n < 450
  · exact List.all_eq_true.mp v0_370 n (List.mem_range'_1.mpr (by omega))
  by_cases h450 : 450 ≤ n ∧ n < 530
  · exact List.all_eq_true.mp v0_450 n (List.mem_range'_1.mpr (by omega))
  by_cases h530 : 530 ≤ n ∧ n < 610
  · exact List.all_eq_true.mp v0_530 n (List.mem_range'_1.mpr (by omega))
  by_cases h610 : 610 ≤ n ∧ n < 690
  · exact List.all_eq_true.mp v0_610 n (List.mem_range'_1.mpr (by omega))
  by_cases h690 : 690 ≤ n ∧ n < 770
  · exact List.all_eq_true.mp v0_690 n (List.mem_range'_1.mpr (by omega))
  by_cases h770 : 770 ≤ n ∧ n < 850
  · exact List.all_eq_true.mp v0_770 n (List.mem_range'_1.mpr (by omega))
  by_cases hw : 3250 ≤ n ∧ n < 3300
  · exact List.all_eq_true.mp v0_w n (List.mem_range'_1.mpr (by omega))
  by_cases hb : 3300 ≤ n ∧ n < 3380
  · exact List.all_eq_true.mp v0_b n (List.mem_range'_1.mpr (by omega))
  by_cases ht : n < 3250
  · have hr : (n - 850) % 200 < 3 := by
      apply Classical.byContradiction
      intro hr
      unfold vq at h
      rw [if_neg (by omega), if_neg (by omega), if_neg (by omega), if_neg (by omega), if_neg (by omega), if_neg (by omega), if_neg (by omega), if_pos ht, if_neg hr] at h
      cases h
    have hq := List.all_eq_true.mp v0_t ((n - 850) / 200) (List.mem_range.mpr (by omega))
    simp only [Bool.and_eq_true] at hq
    obtain ⟨⟨q0, q1⟩, q2⟩ := hq
    rcases (show n = 850 + 200 * ((n - 850) / 200) ∨ n = 851 + 200 * ((n - 850) / 200) ∨ n = 852 + 200 * ((n - 850) / 200) by omega) with e | e | e
    · rw [e]; exact q0
    · rw [e]; exact q1
    · rw [e]; exact q2
  · unfold vq at h
    rw [if_neg (by omega), if_neg (by omega), if_neg (by omega), if_neg (by omega), if_neg (by omega), if_neg (by omega), if_neg (by omega), if_neg (by omega), if_neg (by omega), if_neg (by omega), if_neg (by omega), if_neg (by omega), if_neg (by omega)] at h
    cases h
