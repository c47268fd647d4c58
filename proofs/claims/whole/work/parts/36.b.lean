/-! LEVEL B: short pairs, 2 -/
theorem u_rowM : ∀ w, w < 10 → f_X2_row 77 (nI w) = some (some (78 + w)) := by
  intro w h
  rcases (show w = 0 ∨ w = 1 ∨ w = 2 ∨ w = 3 ∨ w = 4 ∨ w = 5 ∨ w = 6 ∨ w = 7 ∨ w = 8 ∨ w = 9 by omega) with rfl | rfl | rfl | rfl | rfl | rfl | rfl | rfl | rfl | rfl <;> decide +kernel
theorem u_row2o {y : Int32} (h : ¬ (nI 0 ≤ y ∧ y ≤ nI 13)) : f_X2_row 77 y = some none := by
  unfold f_X2_row
  rw [if_neg (u_out h (by decide) (by decide) (by decide)), if_neg (u_out h (by decide) (by decide) (by decide)), if_neg (u_out h (by decide) (by decide) (by decide)), if_neg (u_out h (by decide) (by decide) (by decide)), if_neg (u_out h (by decide) (by decide) (by decide)), if_neg (u_out h (by decide) (by decide) (by decide)), if_neg (u_out h (by decide) (by decide) (by decide)), if_neg (u_out h (by decide) (by decide) (by decide)), if_neg (u_out h (by decide) (by decide) (by decide)), if_neg (u_out h (by decide) (by decide) (by decide)), if_neg (u_out h (by decide) (by decide) (by decide)), if_neg (u_out h (by decide) (by decide) (by decide))]
theorem kz_M : ∀ w, w < 12 → q_kz[w + 14]? = some (0, 12) := by decide
theorem W_is {X : qX} (y1 y2 : Int32) : P0 X (f_X11_is 64 y1 y2 X) (f_X12_is 269 y1 y2) := by
  intro I J h
  show G0 (f_X11_is 64 y1 y2 X I) (f_X12_is 269 y1 y2 J)
  have hR := h.rv
  have b := hR.bd
  unfold f_X11_is f_X12_is f_X12_manAt
  simp only [hR.hasM (a := 64 + 13) rfl, hR.isMan, ii_0_13, u_s1, u_ib, ite_not]
  refine G0.ite (fun c1 => ?_) (fun _ => G0.rf _)
  obtain ⟨m, rfl, hm⟩ := u_idx c1 (by omega)
  by_cases c2 : nI 0 ≤ y2 ∧ y2 ≤ nI 13
  · rw [if_pos c2]
    obtain ⟨w, rfl, -, hw⟩ := u_range (by decide) c2.1 c2.2 (by decide)
    by_cases e : w < 10
    · rw [if_neg (fun q => by have := (nI_eq (by omega) (by omega)).mp q; omega), if_neg (fun q => by have := (nI_eq (by omega) (by omega)).mp q; omega), if_neg (nI_ge (by omega) (by omega)), u_rowM w e, u_s1, u_looked (h.1.k (a := 78 + w) (k := w + 14) (d := (0, 12)) (by omega) (kz_M w (by omega))) (show m < 12 by omega) (by decide), u_s1, u_mul, nI_add, nI_add, u_rd (by omega) (by decide), u_s1]
      rw [h.rv.1 (80 + 24 * m + w) (13 + w) m (vq_man m (by omega) w (by omega)) (fun _ _ _ => by omega) |> fun q => (show I (78 + w) m = J 270 (80 + 24 * m + w) from by rw [← q]; congr 1; omega)]
      exact G0.rf _
    · rcases (show w = 10 ∨ w = 11 ∨ w = 12 ∨ w = 13 by omega) with rfl | rfl | rfl | rfl
      · rw [if_pos rfl, if_pos (Int32.le_refl _), if_pos rfl, hR.earned rfl hm, hR.earnedJ hm]
        exact G0.rf _
      · rw [if_neg (by decide +kernel), if_pos rfl, if_pos (by decide +kernel), if_neg (by decide +kernel), if_pos rfl, hR.owed rfl hm, hR.owedJ hm]
        exact G0.rf _
      · rw [if_neg (by decide +kernel), if_neg (by decide +kernel), if_pos (by decide +kernel), if_neg (by decide +kernel), if_neg (by decide +kernel), show f_X2_row (64 + 13) (nI 12) = some (some 88) by decide +kernel, u_s1, u_looked (h.1.k (a := 88) (k := 24) (d := (0, 12)) rfl rfl) (show m < 12 by omega) (by decide), u_s1, u_mul, nI_add, nI_add, u_sub (by omega), u_rd (by omega) (by decide), u_s1, hR.m10 rfl (by omega)]
        exact G0.rf _
      · rw [if_neg (by decide +kernel), if_neg (by decide +kernel), if_pos (by decide +kernel), if_neg (by decide +kernel), if_neg (by decide +kernel), show f_X2_row (64 + 13) (nI 13) = some (some 89) by decide +kernel, u_s1, u_looked (h.1.k (a := 89) (k := 25) (d := (0, 12)) rfl rfl) (show m < 12 by omega) (by decide), u_s1, u_mul, nI_add, nI_add, u_sub (by omega), u_rd (by omega) (by decide), u_s1, hR.m11 rfl (by omega)]
        exact G0.rf _
  · rw [if_neg c2, if_neg (u_out c2 (by decide) (by decide) (by decide)), if_neg (u_out c2 (by decide) (by decide) (by decide)), u_row2o c2, u_s1]
    exact G0.rf _
theorem u_may {w lo hi : Nat} {x : Int32} {I : qI} (hw : w < 6) (h1 : q_LEAST w = nI lo) (h2 : q_MOST w = nI hi) : f_X2_mayBe (nI w) x I = some (if nI lo ≤ x ∧ x ≤ nI hi then 1 else 0) := by
  unfold f_X2_mayBe
  rw [if_neg (nI_pos (by omega)), if_neg (nI_ge hw (by decide)), if_pos (nI_lt hw (by decide)), u_rdO hw (by decide), u_s1, h1, u_rdO hw (by decide), u_s1, h2]
  by_cases e1 : x < nI lo
  · rw [if_pos e1, if_neg (fun h => absurd h.1 (Int32.not_le.mpr e1))]; rfl
  · rw [if_neg e1]
    by_cases e2 : nI hi < x
    · rw [if_pos e2, if_neg (fun h => absurd h.2 (Int32.not_le.mpr e2))]; rfl
    · rw [if_neg e2, if_pos ⟨Int32.not_lt.mp e1, Int32.not_lt.mp e2⟩]; rfl
theorem u_mayo {y x : Int32} {I : qI} (h : ¬ (nI 0 ≤ y ∧ y ≤ nI 5)) : f_X2_mayBe y x I = some 0 := by
  unfold f_X2_mayBe
  by_cases e1 : y < 0
  · rw [if_pos e1]; rfl
  · rw [if_neg e1]
    by_cases e2 : nI 6 ≤ y
    · rw [if_pos e2]; rfl
    · exfalso
      obtain ⟨k, hk, rfl⟩ := nI_of e1
      have := (nI_ltI hk (by decide)).mp (Int32.not_le.mp e2)
      exact h ⟨nI_le (by omega) (by omega), nI_le (by omega) (by decide)⟩
theorem W_be {X : qX} (y1 y2 y3 : Int32) : P2 X (f_X11_be 64 y1 y2 y3 X) (f_X12_be 269 y1 y2 y3) := by
  intro I J h
  show G2 X I J (f_X11_be 64 y1 y2 y3 X I) (f_X12_be 269 y1 y2 y3 J)
  have hR := h.rv
  have b := hR.bd
  unfold f_X11_be f_X12_be b_X12_be_75 b_X12_be_76 f_X12_manAt
  simp only [hR.hasM (a := 64 + 13) rfl, hR.isMan, u_isPit, ii_0_9, ii_1_9, ii_3_5, ii_0_99999, u_s1, u_ib, ite_not]
  by_cases c2 : nI 0 ≤ y2 ∧ y2 ≤ nI 5
  · obtain ⟨w, rfl, -, hw⟩ := u_range (by decide) c2.1 c2.2 (by decide)
    rcases (show w = 0 ∨ w = 1 ∨ w = 2 ∨ w = 3 ∨ w = 4 ∨ w = 5 by omega) with rfl | rfl | rfl | rfl | rfl | rfl
    · simp only [u_may (w := 0) (lo := 0) (hi := 7) (by decide) rfl rfl, u_s1, u_ib, ite_not]
      rw [if_pos nI_0]
      refine G2.ite (fun c1 => ?_) (fun _ => h.same _)
      refine G2.ite (fun c3 => ?_) (fun _ => h.same _)
      obtain ⟨m, rfl, hm⟩ := u_idx c1 (by omega)
      obtain ⟨y, rfl, hy1, hy2⟩ := u_range (by decide) c3.1 c3.2 (by decide)
      rw [u_rowM 0 (by decide), u_s1, u_mul, nI_add, nI_add]
      exact h.exch (vq_man m (by omega) 0 (by decide)) rfl (h.1.k (k := 14) rfl rfl) (by omega) (by decide) (rgS_i (rg_m0 m (by omega)) (by omega) hy2) (h.rv.dd.up (by simp [dr]; omega) _) (by omega) (by omega) (by omega) (by intro _ _ _; omega)
    · simp only [u_may (w := 1) (lo := 0) (hi := 9) (by decide) rfl rfl, u_s1, u_ib, ite_not]
      rw [if_neg (show ¬ nI 1 = 0 by decide +kernel), if_pos trivial]
      refine G2.ite (fun c1 => ?_) (fun _ => h.same _)
      refine G2.ite (fun c3 => ?_) (fun _ => h.same _)
      obtain ⟨m, rfl, hm⟩ := u_idx c1 (by omega)
      obtain ⟨y, rfl, hy1, hy2⟩ := u_range (by decide) c3.1 c3.2 (by decide)
      rw [u_rowM 1 (by decide), u_s1, u_mul, nI_add, nI_add]
      exact h.exch (vq_man m (by omega) 1 (by decide)) rfl (h.1.k (k := 15) rfl rfl) (by omega) (by decide) (rgS_i (rg_m1 m (by omega)) (by omega) hy2) (h.rv.dd.up (by simp [dr]; omega) _) (by omega) (by omega) (by omega) (by intro _ _ _; omega)
    · simp only [u_may (w := 2) (lo := 1) (hi := 9) (by decide) rfl rfl, u_s1, u_ib, ite_not]
      rw [if_neg (show ¬ nI 2 = 0 by decide +kernel), if_neg (show ¬ nI 2 = nI 1 by decide +kernel), if_pos trivial]
      refine G2.ite (fun c1 => ?_) (fun _ => h.same _)
      refine G2.ite (fun c3 => ?_) (fun _ => h.same _)
      obtain ⟨m, rfl, hm⟩ := u_idx c1 (by omega)
      obtain ⟨y, rfl, hy1, hy2⟩ := u_range (by decide) c3.1 c3.2 (by decide)
      rw [u_rowM 2 (by decide), u_s1, u_mul, nI_add, nI_add]
      exact h.exch (vq_man m (by omega) 2 (by decide)) rfl (h.1.k (k := 16) rfl rfl) (by omega) (by decide) (rgS_i (rg_m2 m (by omega)) (by omega) hy2) (h.rv.dd.need (by omega) _ (nI_ne0 (by omega) (by omega))) (by omega) (by omega) (by omega) (by intro _ _ _; omega)
    · simp only [u_may (w := 3) (lo := 0) (hi := 99999) (by decide) rfl rfl, u_s1, u_ib, ite_not]
      rw [if_neg (show ¬ nI 3 = 0 by decide +kernel), if_neg (show ¬ nI 3 = nI 1 by decide +kernel), if_neg (show ¬ nI 3 = nI 2 by decide +kernel), if_pos (show nI 3 ≤ nI 3 ∧ nI 3 ≤ nI 5 by decide +kernel)]
      by_cases c1 : nI 0 ≤ y1 ∧ y1 < nI (cn (J 270) 2)
      · simp only [if_pos c1]
        by_cases c3 : nI 0 ≤ y3 ∧ y3 ≤ nI 99999
        · simp only [if_pos c3]
          rw [if_neg (show ¬ nI 1 = 0 by decide +kernel)]
          obtain ⟨m, rfl, hm⟩ := u_idx c1 (by omega)
          obtain ⟨y, rfl, hy1, hy2⟩ := u_range (by decide) c3.1 c3.2 (by decide)
          rw [u_rowM 3 (by decide), u_s1, u_mul, nI_add, nI_add]
          exact h.exch (vq_man m (by omega) 3 (by decide)) rfl (h.1.k (k := 17) rfl rfl) (by omega) (by decide) (rgS_i (rg_m3 m (by omega)) (by omega) hy2) (h.rv.dd.up (by simp [dr]; omega) _) (by omega) (by omega) (by omega) (by intro _ _ _; omega)
        · simp only [if_neg c3]
          rw [if_pos nI_0]
          exact h.same _
      · simp only [if_neg c1]
        by_cases c3 : nI 0 ≤ y3 ∧ y3 ≤ nI 99999
        · simp only [if_pos c3]
          exact h.same _
        · simp only [if_neg c3]
          exact h.same _
    · simp only [u_may (w := 4) (lo := 0) (hi := 99999) (by decide) rfl rfl, u_s1, u_ib, ite_not]
      rw [if_neg (show ¬ nI 4 = 0 by decide +kernel), if_neg (show ¬ nI 4 = nI 1 by decide +kernel), if_neg (show ¬ nI 4 = nI 2 by decide +kernel), if_pos (show nI 3 ≤ nI 4 ∧ nI 4 ≤ nI 5 by decide +kernel)]
      by_cases c1 : nI 0 ≤ y1 ∧ y1 < nI (cn (J 270) 2)
      · simp only [if_pos c1]
        by_cases c3 : nI 0 ≤ y3 ∧ y3 ≤ nI 99999
        · simp only [if_pos c3]
          rw [if_neg (show ¬ nI 1 = 0 by decide +kernel)]
          obtain ⟨m, rfl, hm⟩ := u_idx c1 (by omega)
          obtain ⟨y, rfl, hy1, hy2⟩ := u_range (by decide) c3.1 c3.2 (by decide)
          rw [u_rowM 4 (by decide), u_s1, u_mul, nI_add, nI_add]
          exact h.exch (vq_man m (by omega) 4 (by decide)) rfl (h.1.k (k := 18) rfl rfl) (by omega) (by decide) (rgS_i (rg_m4 m (by omega)) (by omega) hy2) (h.rv.dd.up (by simp [dr]; omega) _) (by omega) (by omega) (by omega) (by intro _ _ _; omega)
        · simp only [if_neg c3]
          rw [if_pos nI_0]
          exact h.same _
      · simp only [if_neg c1]
        by_cases c3 : nI 0 ≤ y3 ∧ y3 ≤ nI 99999
        · simp only [if_pos c3]
          exact h.same _
        · simp only [if_neg c3]
          exact h.same _
    · simp only [u_may (w := 5) (lo := 0) (hi := 99999) (by decide) rfl rfl, u_s1, u_ib, ite_not]
      rw [if_neg (show ¬ nI 5 = 0 by decide +kernel), if_neg (show ¬ nI 5 = nI 1 by decide +kernel), if_neg (show ¬ nI 5 = nI 2 by decide +kernel), if_pos (show nI 3 ≤ nI 5 ∧ nI 5 ≤ nI 5 by decide +kernel)]
      by_cases c1 : nI 0 ≤ y1 ∧ y1 < nI (cn (J 270) 2)
      · simp only [if_pos c1]
        by_cases c3 : nI 0 ≤ y3 ∧ y3 ≤ nI 99999
        · simp only [if_pos c3]
          rw [if_neg (show ¬ nI 1 = 0 by decide +kernel)]
          obtain ⟨m, rfl, hm⟩ := u_idx c1 (by omega)
          obtain ⟨y, rfl, hy1, hy2⟩ := u_range (by decide) c3.1 c3.2 (by decide)
          rw [u_rowM 5 (by decide), u_s1, u_mul, nI_add, nI_add]
          exact h.exch (vq_man m (by omega) 5 (by decide)) rfl (h.1.k (k := 19) rfl rfl) (by omega) (by decide) (rgS_i (rg_m5 m (by omega)) (by omega) hy2) (h.rv.dd.up (by simp [dr]; omega) _) (by omega) (by omega) (by omega) (by intro _ _ _; omega)
        · simp only [if_neg c3]
          rw [if_pos nI_0]
          exact h.same _
      · simp only [if_neg c1]
        by_cases c3 : nI 0 ≤ y3 ∧ y3 ≤ nI 99999
        · simp only [if_pos c3]
          exact h.same _
        · simp only [if_neg c3]
          exact h.same _
  · simp only [u_mayo c2, u_s1]
    rw [if_neg (show ¬ y2 = 0 from fun q => u_out c2 (k := 0) (by decide) (by decide) (by decide) (q.trans nI_0.symm)), if_neg (u_out c2 (by decide) (by decide) (by decide)), if_neg (u_out c2 (by decide) (by decide) (by decide)), if_neg (show ¬ (nI 3 ≤ y2 ∧ y2 ≤ nI 5) from fun q => c2 ⟨Int32.le_trans (show nI 0 ≤ nI 3 by decide +kernel) q.1, q.2⟩)]
    rw [if_pos trivial, if_pos nI_0]
    by_cases c1 : nI 0 ≤ y1 ∧ y1 < nI (cn (J 270) 2)
    · simp only [if_pos c1]; exact h.same _
    · simp only [if_neg c1]; exact h.same _
theorem W_shelf {X : qX} (y1 y2 y3 : Int32) : P2 X (f_X11_shelf 64 y1 y2 y3 X) (f_X12_shelf 269 y1 y2 y3) := by
  intro I J h
  show G2 X I J (f_X11_shelf 64 y1 y2 y3 X I) (f_X12_shelf 269 y1 y2 y3 J)
  have hR := h.rv
  have b := hR.bd
  unfold f_X11_shelf f_X12_shelf b_X12_shelf_38 b_X12_shelf_39 b_X11_shelf_44 b_X11_shelf_62 f_X12_shopAt
  simp only [hR.hasS (a := 64 + 8) rfl, hR.isShop, u_within, ii_1_99, ii_0_99999, u_s1, u_ib, ite_not]
  by_cases c1 : nI 0 ≤ y1 ∧ y1 < nI (cn (J 270) 1)
  · simp only [if_pos c1]
    obtain ⟨k, rfl, hk⟩ := u_idx c1 (by omega)
    by_cases c2 : nI 1 ≤ y2 ∧ y2 ≤ nI 2
    · simp only [if_pos c2]
      obtain ⟨w, rfl, hw1, hw⟩ := u_range (by decide) c2.1 c2.2 (by decide)
      rcases (show w = 1 ∨ w = 2 by omega) with rfl | rfl
      · rw [if_pos rfl, if_pos rfl, if_neg (show ¬ nI 1 = nI 2 by decide +kernel)]
        refine G2.ite (fun c3 => ?_) (fun _ => h.same _)
        obtain ⟨y, rfl, hy1, hy2⟩ := u_range (by decide) c3.1 c3.2 (by decide)
        rw [u_rowS 1 (by decide), u_s1, u_mul, nI_add, nI_add]
        exact h.exch (vq_shop k (by omega) 1 (by decide)) rfl (h.1.k (k := 10) rfl rfl) (by omega) (by decide) (rgS_i (rg_s1 k (by omega)) (by omega) hy2) (h.rv.dd.price (by omega) _ (nI_ne0 (by omega) (by omega))) (by omega) (by omega) (by omega) (by intro _ _ _; omega)
      · rw [if_neg (show ¬ nI 2 = nI 1 by decide +kernel), if_pos rfl, if_neg (show ¬ nI 2 = nI 1 by decide +kernel), if_pos rfl]
        by_cases c3 : nI 0 ≤ y3 ∧ y3 ≤ nI 99999
        · simp only [if_pos c3]
          obtain ⟨y, rfl, hy1, hy2⟩ := u_range (by decide) c3.1 c3.2 (by decide)
          rw [if_neg (show ¬ nI 1 = 0 by decide +kernel), u_rowS 2 (by decide), u_s1, u_mul, nI_add, nI_add]
          exact h.exch (vq_shop k (by omega) 2 (by decide)) rfl (h.1.k (k := 11) rfl rfl) (by omega) (by decide) (rgS_i (rg_s2 k (by omega)) (by omega) hy2) (h.rv.dd.up (by simp [dr]; omega) _) (by omega) (by omega) (by omega) (by intro _ _ _; omega)
        · simp only [if_neg c3]
          rw [if_pos nI_0]
          exact h.same _
    · simp only [if_neg c2]
      rw [if_neg (u_out c2 (by decide) (by decide) (by decide)), if_neg (u_out c2 (by decide) (by decide) (by decide)), if_pos nI_0]
      exact h.same _
  · simp only [if_neg c1, ite_self]
    exact h.same _
theorem W_rule {X : qX} (y1 y2 : Int32) : P2 X (f_X11_rule 64 y1 y2 X) (f_X12_rule 269 y1 y2) := by
  intro I J h
  show G2 X I J (f_X11_rule 64 y1 y2 X I) (f_X12_rule 269 y1 y2 J)
  have hR := h.rv
  have b := hR.bd
  unfold f_X11_rule f_X12_rule b_X11_rule_24 b_X12_rule_29
  simp only [u_within, ii_0_2, ii_0_9999, ii_0_99999, u_s1, u_ib, ite_not]
  refine G2.ite (fun c1 => ?_) (fun _ => h.same _)
  obtain ⟨w, rfl, -, hw⟩ := u_range (by decide) c1.1 c1.2 (by decide)
  refine G2.ite (fun e => ?_) (fun e => ?_)
  · refine G2.ite (fun c3 => ?_) (fun _ => h.same _)
    have e' : w = 1 := (nI_eq (by omega) (by omega)).mp e
    subst e'
    obtain ⟨y, rfl, hy1, hy2⟩ := u_range (by decide) c3.1 c3.2 (by decide)
    rw [nI_add]
    exact h.exch (n := 8) vq_sc.2.2.2.2.2.2.2.2.1 rfl (h.1.k (k := 61) rfl rfl) (by omega) (by decide) (rgS_i rg_sc.2.2.2.2.2.2.2.2.1 hy1 hy2) (h.rv.dd.up (by decide) _) (by omega) (by omega) (by omega) (by intro _ _ _; omega)
  · refine G2.ite (fun c3 => ?_) (fun _ => h.same _)
    obtain ⟨y, rfl, hy1, hy2⟩ := u_range (by decide) c3.1 c3.2 (by decide)
    have e' : w ≠ 1 := fun q => e (by rw [q])
    rcases (show w = 0 ∨ w = 2 by omega) with rfl | rfl
    · rw [nI_add]
      exact h.exch (n := 7) vq_sc.2.2.2.2.2.2.2.1 rfl (h.1.k (k := 61) rfl rfl) (by omega) (by decide) (rgS_i rg_sc.2.2.2.2.2.2.2.1 hy1 hy2) (h.rv.dd.up (by decide) _) (by omega) (by omega) (by omega) (by intro _ _ _; omega)
    · rw [nI_add]
      exact h.exch (n := 9) vq_sc.2.2.2.2.2.2.2.2.2 rfl (h.1.k (k := 61) rfl rfl) (by omega) (by decide) (rgS_i rg_sc.2.2.2.2.2.2.2.2.2 hy1 hy2) (h.rv.dd.up (by decide) _) (by omega) (by omega) (by omega) (by intro _ _ _; omega)
