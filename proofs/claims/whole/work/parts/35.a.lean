/-! LEVEL B: short pairs -/
theorem u_row3o {y : Int32} (h : ¬ (nI 0 ≤ y ∧ y ≤ nI 4)) : f_X3_row 66 y = some none := by
  unfold f_X3_row
  rw [if_neg (u_out h (by decide) (by decide) (by decide)), if_neg (u_out h (by decide) (by decide) (by decide)), if_neg (u_out h (by decide) (by decide) (by decide)), if_neg (u_out h (by decide) (by decide) (by decide)), if_neg (u_out h (by decide) (by decide) (by decide))]
theorem q_fu1 : 100 < q_fu := by decide
theorem inPit_ev {X : qX} {v : Nat} {I : qI} {t : Nat → Int32} {j : Nat} (h : RV X v I t j) {a : Nat} (ha : a = v + 12) (y : Int32) : f_X2_inPit a y I = some (sumF (fun m => if t (80 + 24 * m) = y ∧ t (80 + 24 * m + 9) = 0 then nI 1 else 0) 0 (cn t 2) (nI 0)) := by
  subst ha
  have b := h.bd
  unfold f_X2_inPit
  refine u_acc (n := cn t 2) (fun k x i hi => ?_) (fun k x => ?_) (cn t 2) q_fu 0 (nI 0) (Nat.zero_add _) (by have := q_fu1; omega)
  · unfold b_X2_inPit_4 b_X2_inPit_33
    rw [h.sc2 rfl, h.k2.1, if_neg (nI_ge hi (by omega)), u_rd (by omega) (by decide), u_s1, h.m0 (by omega) (by omega), h.gone rfl (by omega), u_s1, nI_add]
    by_cases e1 : t (80 + 24 * i) = y
    · by_cases e2 : t (80 + 24 * i + 9) = 0
      · simp only [if_pos e1, if_pos e2, if_pos (And.intro e1 e2)]
        rw [if_pos trivial]
      · simp only [if_pos e1, if_neg e2, if_neg (show ¬ (t (80 + 24 * i) = y ∧ t (80 + 24 * i + 9) = 0) from fun q => e2 q.2)]
        rw [if_neg (by decide), Int32.add_zero]
    · simp only [if_neg e1, if_neg (show ¬ (t (80 + 24 * i) = y ∧ t (80 + 24 * i + 9) = 0) from fun q => e1 q.1)]
      rw [Int32.add_zero]
  · unfold b_X2_inPit_4
    rw [h.sc2 rfl, h.k2.1, if_pos (Int32.le_refl _)]
theorem W_dug {X : qX} (y1 y2 : Int32) : P0 X (f_X11_dug 64 y1 y2 X) (f_X12_dug 269 y1 y2) := by
  intro I J h
  show G0 (f_X11_dug 64 y1 y2 X I) (f_X12_dug 269 y1 y2 J)
  have hR := h.rv
  have b := hR.bd
  unfold f_X11_dug f_X12_dug
  simp only [u_within, u_isPit, ii_0_5, u_s1, u_ib, ite_not]
  refine G0.ite (fun c1 => ?_) (fun _ => G0.rf _)
  obtain ⟨p, rfl, -, hp⟩ := u_range (by decide) c1.1 c1.2 (by decide)
  by_cases c2 : nI 0 ≤ y2 ∧ y2 ≤ nI 5
  · rw [if_pos c2]
    obtain ⟨w, rfl, -, hw⟩ := u_range (by decide) c2.1 c2.2 (by decide)
    by_cases e : w = 5
    · subst e
      rw [if_pos rfl, if_pos (Int32.le_refl _), inPit_ev hR rfl, u_s1]
      refine ⟨_, rfl, ?_⟩
      refine u_acc (n := cn (J 270) 2) (fun k x i hi => ?_) (fun k x => ?_) (cn (J 270) 2) q_fu 0 (nI 0) (Nat.zero_add _) (by have := q_fu1; omega)
      · unfold b_X12_dug_46 b_X12_dug_86 b_X12_dug_87 f_X12_manAt
        rw [u_rd (by omega) (by decide), u_s1, hR.k2.1, if_neg (nI_ge hi (by omega)), u_s1, u_mul, nI_add, u_rd (by omega) (by decide), u_s1, hR.goneJ (by omega), u_s1, nI_add]
        by_cases e1 : J 270 (80 + 24 * i) = nI p
        · by_cases e2 : J 270 (80 + 24 * i + 9) = 0
          · simp only [if_pos e1, if_pos e2, if_pos (And.intro e1 e2)]
            rw [if_pos trivial]
          · simp only [if_pos e1, if_neg e2, if_neg (show ¬ (J 270 (80 + 24 * i) = nI p ∧ J 270 (80 + 24 * i + 9) = 0) from fun q => e2 q.2)]
            rw [if_neg (by decide), nI_0]
        · simp only [if_neg e1, if_neg (show ¬ (J 270 (80 + 24 * i) = nI p ∧ J 270 (80 + 24 * i + 9) = 0) from fun q => e1 q.1)]
          rw [nI_0]
      · unfold b_X12_dug_46
        rw [u_rd (by omega) (by decide), u_s1, hR.k2.1, if_pos (Int32.le_refl _)]
    · rw [if_neg (fun q => e ((nI_eq (by omega) (by omega)).mp q)), if_neg (nI_ge (by omega) (by omega)), u_rowP w (by omega), u_s1, u_looked (h.1.k (a := 67 + w) (k := w + 3) (d := (0, 8)) (by omega) (by rcases (show w = 0 ∨ w = 1 ∨ w = 2 ∨ w = 3 ∨ w = 4 by omega) with rfl | rfl | rfl | rfl | rfl <;> rfl)) (show p < 8 by omega) (by decide), u_s1, u_mul, nI_add, nI_add, u_rd (by omega) (by decide), u_s1]
      rw [h.rv.1 (10 + 5 * p + w) (2 + w) p (vq_pit p (by omega) w (by omega)) (fun _ _ _ => by omega) |> fun q => (show I (67 + w) p = J 270 (10 + 5 * p + w) from by rw [← q]; congr 1; omega)]
      exact G0.rf _
  · rw [if_neg c2, if_neg (u_out c2 (by decide) (by decide) (by decide)), u_row3o (fun q => c2 ⟨q.1, Int32.le_trans q.2 (by decide +kernel)⟩), u_s1]
    exact G0.rf _
theorem u_rowS : ∀ w, w < 4 → f_X8_row 72 (nI w) = some (some (73 + w)) := by
  intro w h
  rcases (show w = 0 ∨ w = 1 ∨ w = 2 ∨ w = 3 by omega) with rfl | rfl | rfl | rfl <;> decide +kernel
theorem u_row8o {y : Int32} (h : ¬ (nI 0 ≤ y ∧ y ≤ nI 3)) : f_X8_row 72 y = some none := by
  unfold f_X8_row
  rw [if_neg (u_out h (by decide) (by decide) (by decide)), if_neg (u_out h (by decide) (by decide) (by decide)), if_neg (u_out h (by decide) (by decide) (by decide)), if_neg (u_out h (by decide) (by decide) (by decide))]
theorem W_sells {X : qX} (y1 y2 : Int32) : P0 X (f_X11_sells 64 y1 y2 X) (f_X12_sells 269 y1 y2) := by
  intro I J h
  show G0 (f_X11_sells 64 y1 y2 X I) (f_X12_sells 269 y1 y2 J)
  have hR := h.rv
  have b := hR.bd
  unfold f_X11_sells f_X12_sells f_X12_shopAt
  simp only [hR.hasS (a := 64 + 8) rfl, hR.isShop, ii_0_3, u_s1, u_ib, ite_not]
  refine G0.ite (fun c1 => ?_) (fun _ => G0.rf _)
  obtain ⟨k, rfl, hk⟩ := u_idx c1 (by omega)
  by_cases c2 : nI 0 ≤ y2 ∧ y2 ≤ nI 3
  · rw [if_pos c2]
    obtain ⟨w, rfl, -, hw⟩ := u_range (by decide) c2.1 c2.2 (by decide)
    rw [u_rowS w (by omega), u_s1, u_looked (h.1.k (a := 73 + w) (k := w + 9) (d := (0, 6)) (by omega) (by rcases (show w = 0 ∨ w = 1 ∨ w = 2 ∨ w = 3 by omega) with rfl | rfl | rfl | rfl <;> rfl)) (show k < 6 by omega) (by decide), u_s1, u_mul, nI_add, nI_add, u_rd (by omega) (by decide), u_s1]
    rw [h.rv.1 (50 + 4 * k + w) (8 + w) k (vq_shop k (by omega) w (by omega)) (fun _ _ _ => by omega) |> fun q => (show I (73 + w) k = J 270 (50 + 4 * k + w) from by rw [← q]; congr 1; omega)]
    exact G0.rf _
  · rw [if_neg c2, u_row8o c2, u_s1]
    exact G0.rf _
