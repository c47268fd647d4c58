/-! LEVEL B: the kinds of the 223 cells; the ranges that the model asks, by number -/
def q_kz : List (Nat × Nat) := [(13, 9), (11, 14), (5, 5), (0, 8), (0, 8), (0, 8), (0, 8), (0, 8), (10, 5), (0, 6), (0, 6), (0, 6), (0, 6), (4, 15), (0, 12), (0, 12), (0, 12), (0, 12), (0, 12), (0, 12), (0, 12), (0, 12), (0, 12), (0, 12), (0, 12), (0, 12), (0, 72), (0, 72), (3, 9), (0, 60), (0, 60), (0, 60), (0, 60), (0, 60), (0, 60), (0, 60), (0, 60), (9, 6), (0, 12), (0, 12), (0, 12), (1, 12), (0, 96), (12, 1), (0, 48), (8, 9), (0, 16), (0, 16), (0, 16), (0, 28), (0, 8), (0, 7), (0, 7), (6, 10), (0, 8), (0, 8), (0, 8), (0, 8), (0, 8), (0, 8), (0, 8), (0, 3), (0, 7), (0, 8), (0, 8), (0, 8), (11, 14), (5, 5), (0, 8), (0, 8), (0, 8), (0, 8), (0, 8), (10, 5), (0, 6), (0, 6), (0, 6), (0, 6), (4, 15), (0, 12), (0, 12), (0, 12), (0, 12), (0, 12), (0, 12), (0, 12), (0, 12), (0, 12), (0, 12), (0, 12), (0, 12), (0, 72), (0, 72), (3, 9), (0, 60), (0, 60), (0, 60), (0, 60), (0, 60), (0, 60), (0, 60), (0, 60), (9, 6), (0, 12), (0, 12), (0, 12), (1, 12), (0, 96), (12, 1), (0, 48), (8, 9), (0, 16), (0, 16), (0, 16), (0, 28), (0, 8), (0, 7), (0, 7), (6, 10), (0, 8), (0, 8), (0, 8), (0, 8), (0, 8), (0, 8), (0, 8), (0, 3), (0, 7), (0, 8), (0, 8), (0, 8), (11, 14), (5, 5), (0, 8), (0, 8), (0, 8), (0, 8), (0, 8), (10, 5), (0, 6), (0, 6), (0, 6), (0, 6), (4, 15), (0, 12), (0, 12), (0, 12), (0, 12), (0, 12), (0, 12), (0, 12), (0, 12), (0, 12), (0, 12), (0, 12), (0, 12), (0, 72), (0, 72), (3, 9), (0, 60), (0, 60), (0, 60), (0, 60), (0, 60), (0, 60), (0, 60), (0, 60), (9, 6), (0, 12), (0, 12), (0, 12), (1, 12), (0, 96), (12, 1), (0, 48), (8, 9), (0, 16), (0, 16), (0, 16), (0, 28), (0, 8), (0, 7), (0, 7), (6, 10), (0, 8), (0, 8), (0, 8), (0, 8), (0, 8), (0, 8), (0, 8), (0, 3), (0, 7), (0, 8), (0, 8), (0, 8), (7, 9), (0, 96), (0, 96), (2, 3), (0, 8), (0, 8), (0, 240), (0, 60), (0, 60), (14, 42), (0, 3580), (0, 3580), (0, 3580), (0, 8), (0, 8), (0, 240), (0, 96), (0, 128), (0, 100), (0, 30), (0, 28), (0, 8), (0, 8), (0, 8), (0, 8), (0, 60), (0, 60)]
theorem q_kz_e : q_z2.2.2 = q_kz := by decide +kernel
def VX (X : qX) : Prop := q_Lay X ∧ ∀ k d, q_kz[k]? = some d → q_kd X (k + 64) = some d
theorem VX0 : VX q_z2.2 := ⟨q_z2_Lay, fun k d h => by
  unfold q_kd
  rw [if_neg (by omega), Nat.add_sub_cancel, q_kz_e]
  exact h⟩
theorem VX.ext {X Y : qX} (h : VX X) (e : q_Ext X Y) : VX Y := ⟨e.1, fun k d hk => e.2 _ _ (h.2 k d hk)⟩
theorem l64_0 : (0 : Int64) = (nI 0).toInt64 := by decide +kernel
theorem l64_1 : (1 : Int64) = (nI 1).toInt64 := by decide +kernel
theorem l64_2 : (2 : Int64) = (nI 2).toInt64 := by decide +kernel
theorem l64_3 : (3 : Int64) = (nI 3).toInt64 := by decide +kernel
theorem l64_5 : (5 : Int64) = (nI 5).toInt64 := by decide +kernel
theorem l64_6 : (6 : Int64) = (nI 6).toInt64 := by decide +kernel
theorem l64_7 : (7 : Int64) = (nI 7).toInt64 := by decide +kernel
theorem l64_8 : (8 : Int64) = (nI 8).toInt64 := by decide +kernel
theorem l64_9 : (9 : Int64) = (nI 9).toInt64 := by decide +kernel
theorem l64_13 : (13 : Int64) = (nI 13).toInt64 := by decide +kernel
theorem l64_28 : (28 : Int64) = (nI 28).toInt64 := by decide +kernel
theorem l64_48 : (48 : Int64) = (nI 48).toInt64 := by decide +kernel
theorem l64_57 : (57 : Int64) = (nI 57).toInt64 := by decide +kernel
theorem l64_60 : (60 : Int64) = (nI 60).toInt64 := by decide +kernel
theorem l64_97 : (97 : Int64) = (nI 97).toInt64 := by decide +kernel
theorem l64_99 : (99 : Int64) = (nI 99).toInt64 := by decide +kernel
theorem l64_100 : (100 : Int64) = (nI 100).toInt64 := by decide +kernel
theorem l64_122 : (122 : Int64) = (nI 122).toInt64 := by decide +kernel
theorem l64_150 : (150 : Int64) = (nI 150).toInt64 := by decide +kernel
theorem l64_255 : (255 : Int64) = (nI 255).toInt64 := by decide +kernel
theorem l64_999 : (999 : Int64) = (nI 999).toInt64 := by decide +kernel
theorem l64_6999 : (6999 : Int64) = (nI 6999).toInt64 := by decide +kernel
theorem l64_9999 : (9999 : Int64) = (nI 9999).toInt64 := by decide +kernel
theorem l64_20000 : (20000 : Int64) = (nI 20000).toInt64 := by decide +kernel
theorem l64_99999 : (99999 : Int64) = (nI 99999).toInt64 := by decide +kernel
theorem ii_0_1 (y : Int32) : f_X12_isIn y.toInt64 (0 : Int64) (1 : Int64) = some (if nI 0 ≤ y ∧ y ≤ nI 1 then 1 else 0) := by rw [l64_0, l64_1, u_isIn32]
theorem ii_0_2 (y : Int32) : f_X12_isIn y.toInt64 (0 : Int64) (2 : Int64) = some (if nI 0 ≤ y ∧ y ≤ nI 2 then 1 else 0) := by rw [l64_0, l64_2, u_isIn32]
theorem ii_0_3 (y : Int32) : f_X12_isIn y.toInt64 (0 : Int64) (3 : Int64) = some (if nI 0 ≤ y ∧ y ≤ nI 3 then 1 else 0) := by rw [l64_0, l64_3, u_isIn32]
theorem ii_0_5 (y : Int32) : f_X12_isIn y.toInt64 (0 : Int64) (5 : Int64) = some (if nI 0 ≤ y ∧ y ≤ nI 5 then 1 else 0) := by rw [l64_0, l64_5, u_isIn32]
theorem ii_0_6 (y : Int32) : f_X12_isIn y.toInt64 (0 : Int64) (6 : Int64) = some (if nI 0 ≤ y ∧ y ≤ nI 6 then 1 else 0) := by rw [l64_0, l64_6, u_isIn32]
theorem ii_0_7 (y : Int32) : f_X12_isIn y.toInt64 (0 : Int64) (7 : Int64) = some (if nI 0 ≤ y ∧ y ≤ nI 7 then 1 else 0) := by rw [l64_0, l64_7, u_isIn32]
theorem ii_0_8 (y : Int32) : f_X12_isIn y.toInt64 (0 : Int64) (8 : Int64) = some (if nI 0 ≤ y ∧ y ≤ nI 8 then 1 else 0) := by rw [l64_0, l64_8, u_isIn32]
theorem ii_0_9 (y : Int32) : f_X12_isIn y.toInt64 (0 : Int64) (9 : Int64) = some (if nI 0 ≤ y ∧ y ≤ nI 9 then 1 else 0) := by rw [l64_0, l64_9, u_isIn32]
theorem ii_0_13 (y : Int32) : f_X12_isIn y.toInt64 (0 : Int64) (13 : Int64) = some (if nI 0 ≤ y ∧ y ≤ nI 13 then 1 else 0) := by rw [l64_0, l64_13, u_isIn32]
theorem ii_0_99 (y : Int32) : f_X12_isIn y.toInt64 (0 : Int64) (99 : Int64) = some (if nI 0 ≤ y ∧ y ≤ nI 99 then 1 else 0) := by rw [l64_0, l64_99, u_isIn32]
theorem ii_0_255 (y : Int32) : f_X12_isIn y.toInt64 (0 : Int64) (255 : Int64) = some (if nI 0 ≤ y ∧ y ≤ nI 255 then 1 else 0) := by rw [l64_0, l64_255, u_isIn32]
theorem ii_0_999 (y : Int32) : f_X12_isIn y.toInt64 (0 : Int64) (999 : Int64) = some (if nI 0 ≤ y ∧ y ≤ nI 999 then 1 else 0) := by rw [l64_0, l64_999, u_isIn32]
theorem ii_0_6999 (y : Int32) : f_X12_isIn y.toInt64 (0 : Int64) (6999 : Int64) = some (if nI 0 ≤ y ∧ y ≤ nI 6999 then 1 else 0) := by rw [l64_0, l64_6999, u_isIn32]
theorem ii_0_9999 (y : Int32) : f_X12_isIn y.toInt64 (0 : Int64) (9999 : Int64) = some (if nI 0 ≤ y ∧ y ≤ nI 9999 then 1 else 0) := by rw [l64_0, l64_9999, u_isIn32]
theorem ii_0_99999 (y : Int32) : f_X12_isIn y.toInt64 (0 : Int64) (99999 : Int64) = some (if nI 0 ≤ y ∧ y ≤ nI 99999 then 1 else 0) := by rw [l64_0, l64_99999, u_isIn32]
theorem ii_1_7 (y : Int32) : f_X12_isIn y.toInt64 (1 : Int64) (7 : Int64) = some (if nI 1 ≤ y ∧ y ≤ nI 7 then 1 else 0) := by rw [l64_1, l64_7, u_isIn32]
theorem ii_1_9 (y : Int32) : f_X12_isIn y.toInt64 (1 : Int64) (9 : Int64) = some (if nI 1 ≤ y ∧ y ≤ nI 9 then 1 else 0) := by rw [l64_1, l64_9, u_isIn32]
theorem ii_1_28 (y : Int32) : f_X12_isIn y.toInt64 (1 : Int64) (28 : Int64) = some (if nI 1 ≤ y ∧ y ≤ nI 28 then 1 else 0) := by rw [l64_1, l64_28, u_isIn32]
theorem ii_1_60 (y : Int32) : f_X12_isIn y.toInt64 (1 : Int64) (60 : Int64) = some (if nI 1 ≤ y ∧ y ≤ nI 60 then 1 else 0) := by rw [l64_1, l64_60, u_isIn32]
theorem ii_1_99 (y : Int32) : f_X12_isIn y.toInt64 (1 : Int64) (99 : Int64) = some (if nI 1 ≤ y ∧ y ≤ nI 99 then 1 else 0) := by rw [l64_1, l64_99, u_isIn32]
theorem ii_1_999 (y : Int32) : f_X12_isIn y.toInt64 (1 : Int64) (999 : Int64) = some (if nI 1 ≤ y ∧ y ≤ nI 999 then 1 else 0) := by rw [l64_1, l64_999, u_isIn32]
theorem ii_1_20000 (y : Int32) : f_X12_isIn y.toInt64 (1 : Int64) (20000 : Int64) = some (if nI 1 ≤ y ∧ y ≤ nI 20000 then 1 else 0) := by rw [l64_1, l64_20000, u_isIn32]
theorem ii_3_5 (y : Int32) : f_X12_isIn y.toInt64 (3 : Int64) (5 : Int64) = some (if nI 3 ≤ y ∧ y ≤ nI 5 then 1 else 0) := by rw [l64_3, l64_5, u_isIn32]
theorem ii_48_57 (y : Int32) : f_X12_isIn y.toInt64 (48 : Int64) (57 : Int64) = some (if nI 48 ≤ y ∧ y ≤ nI 57 then 1 else 0) := by rw [l64_48, l64_57, u_isIn32]
theorem ii_97_122 (y : Int32) : f_X12_isIn y.toInt64 (97 : Int64) (122 : Int64) = some (if nI 97 ≤ y ∧ y ≤ nI 122 then 1 else 0) := by rw [l64_97, l64_122, u_isIn32]
theorem l64_m1 : (-1 : Int64) = (-1 : Int32).toInt64 := by decide +kernel
theorem u_bz (c : Prop) [Decidable c] : q_bz (if c then 1 else 0) = some (if c then 1 else 0) := by
  by_cases h : c
  · rw [if_pos h]; rfl
  · rw [if_neg h]; rfl
theorem u_isPit (y : Int32) : f_X12_isPit y = some (if nI 0 ≤ y ∧ y ≤ nI 7 then 1 else 0) := by
  unfold f_X12_isPit
  simp only [ii_0_7, u_s1, u_bz]
