/-! LEVEL B: sums, count, tell, trim -/
theorem WW.bk {X : qX} {I J : qI} (h : WW X I J) : BK I J := h.2.2.2.1
theorem WW.wt {X : qX} {I J : qI} (h : WW X I J) : WT I J := h.2.2.2.2.1
theorem WW.tp {X : qX} {I J : qI} (h : WW X I J) : TP I J := h.2.2.2.2.2.1
theorem WW.kp {X : qX} {I J : qI} (h : WW X I J) : KP X I J := h.2.2.1
theorem WW.bs {X : qX} {I J : qI} (h : WW X I J) : J 269 25 = 0 := h.2.2.2.2.2.2.1
theorem WW.ax {X : qX} {I J : qI} (h : WW X I J) : AX X := h.2.2.2.2.2.2.2
/-- outside of the Valley that is now and of the row -/
theorem WW.side {X : qX} {I J I' J' : qI} (h : WW X I J) (hI : ∀ a, (a < 260 ∧ a ≠ 64) ∨ 287 ≤ a → I' a = I a) (h64 : I' 64 8 = I 64 8) (hJ : ∀ a, a = 270 ∨ a = 271 → J' a = J a) (h3 : J' 269 3 = J 269 3) (h25 : J' 269 25 = J 269 25) (hB : BK I' J') (hW : WT I' J') (hT : TP I' J') : WW X I' J' := by
  refine ⟨h.1, ?_, ?_, hB, hW, hT, by rw [h25]; exact h.bs, h.ax⟩
  · rw [hJ 270 (Or.inl rfl)]
    exact h.rv.keepC (fun o ho => hI _ (by omega)) (fun a ha => hI a (Or.inr ha))
  · unfold KP
    rw [h64, h3, hJ 271 (Or.inr rfl)]
    exact ⟨h.kp.1, h.kp.2.imp id fun q => ⟨q.1, q.2.keepC (fun o ho => hI _ (by omega)) (fun a ha => hI a (Or.inr ha))⟩⟩
theorem RV.allE {X : qX} {v : Nat} {I : qI} {t : Nat → Int32} {j : Nat} (h : RV X v I t j) {a : Nat} (ha : a = v) : f_X9_allEarned a I = some (sumF (fun m => t (370 + 8 * cn t (80 + 24 * m + 10) + 2)) 0 (cn t 2) (nI 0)) := by
  subst ha
  have b := h.bd
  unfold f_X9_allEarned
  refine u_acc (n := cn t 2) (fun k x i hi => ?_) (fun k x => ?_) (cn t 2) q_fu 0 (nI 0) (Nat.zero_add _) (by have := q_fu1; omega)
  · unfold b_X9_allEarned_4
    rw [h.sc2 rfl, h.k2.1, if_neg (nI_ge hi (by omega)), h.earned rfl hi, u_s1, nI_add]
  · unfold b_X9_allEarned_4
    rw [h.sc2 rfl, h.k2.1, if_pos (Int32.le_refl _)]
theorem RV.allO {X : qX} {v : Nat} {I : qI} {t : Nat → Int32} {j : Nat} (h : RV X v I t j) {a : Nat} (ha : a = v) : f_X9_allOwed a I = some (sumF (fun m => t (370 + 8 * cn t (80 + 24 * m + 11) + 2)) 0 (cn t 2) (nI 0)) := by
  subst ha
  have b := h.bd
  unfold f_X9_allOwed
  refine u_acc (n := cn t 2) (fun k x i hi => ?_) (fun k x => ?_) (cn t 2) q_fu 0 (nI 0) (Nat.zero_add _) (by have := q_fu1; omega)
  · unfold b_X9_allOwed_4
    rw [h.sc2 rfl, h.k2.1, if_neg (nI_ge hi (by omega)), h.owed rfl hi, u_s1, nI_add]
  · unfold b_X9_allOwed_4
    rw [h.sc2 rfl, h.k2.1, if_pos (Int32.le_refl _)]
theorem RV.allEJ {X : qX} {v : Nat} {I J : qI} {j : Nat} (h : RV X v I (J 270) j) : f_X12_allEarned 269 J = some (sumF (fun m => J 270 (370 + 8 * cn (J 270) (80 + 24 * m + 10) + 2)) 0 (cn (J 270) 2) (nI 0)) := by
  have b := h.bd
  unfold f_X12_allEarned
  refine u_acc (n := cn (J 270) 2) (fun k x i hi => ?_) (fun k x => ?_) (cn (J 270) 2) q_fu 0 (nI 0) (Nat.zero_add _) (by have := q_fu1; omega)
  · unfold b_X12_allEarned_4
    rw [u_rd (by decide) (by decide), u_s1, h.k2.1, if_neg (nI_ge hi (by omega)), h.earnedJ hi, u_s1, nI_add]
  · unfold b_X12_allEarned_4
    rw [u_rd (by decide) (by decide), u_s1, h.k2.1, if_pos (Int32.le_refl _)]
theorem RV.st0 {X : qX} {v : Nat} {I J : qI} {j : Nat} (h : RV X v I (J 270) j) : f_X12_stands 269 (nI 0) J = some (sumF (fun m => J 270 (370 + 8 * cn (J 270) (80 + 24 * m + 11) + 2)) 0 (cn (J 270) 2) (nI 0)) := by
  have b := h.bd
  unfold f_X12_stands
  refine u_acc (n := cn (J 270) 2) (fun k x i hi => ?_) (fun k x => ?_) (cn (J 270) 2) q_fu 0 (nI 0) (Nat.zero_add _) (by have := q_fu1; omega)
  · unfold b_X12_stands_4 b_X12_stands_49
    rw [u_rd (by decide) (by decide), u_s1, h.k2.1, if_neg (nI_ge hi (by omega)), if_pos nI_0, h.owedJ hi, u_s1, nI_add]
  · unfold b_X12_stands_4
    rw [u_rd (by decide) (by decide), u_s1, h.k2.1, if_pos (Int32.le_refl _)]
theorem RV.st1 {X : qX} {v : Nat} {I J : qI} {j : Nat} (h : RV X v I (J 270) j) : f_X12_stands 269 (nI 1) J = some (sumF (fun m => J 270 (80 + 24 * m + 3)) 0 (cn (J 270) 2) (nI 0)) := by
  have b := h.bd
  unfold f_X12_stands
  refine u_acc (n := cn (J 270) 2) (fun k x i hi => ?_) (fun k x => ?_) (cn (J 270) 2) q_fu 0 (nI 0) (Nat.zero_add _) (by have := q_fu1; omega)
  · unfold b_X12_stands_4 b_X12_stands_47 b_X12_stands_49 f_X12_manAt
    rw [u_rd (by decide) (by decide), u_s1, h.k2.1, if_neg (nI_ge hi (by omega)), if_neg (show ¬ nI 1 = 0 by decide +kernel), u_s1, if_pos rfl, u_mul, nI_add, nI_add, u_rd (show 80 + 24 * i + 3 < 3580 by omega) (by decide), u_s1, nI_add]
  · unfold b_X12_stands_4
    rw [u_rd (by decide) (by decide), u_s1, h.k2.1, if_pos (Int32.le_refl _)]
theorem RV.st2 {X : qX} {v : Nat} {I J : qI} {j : Nat} (h : RV X v I (J 270) j) : f_X12_stands 269 (nI 2) J = some (sumF (fun m => J 270 (80 + 24 * m + 9)) 0 (cn (J 270) 2) (nI 0)) := by
  have b := h.bd
  unfold f_X12_stands
  refine u_acc (n := cn (J 270) 2) (fun k x i hi => ?_) (fun k x => ?_) (cn (J 270) 2) q_fu 0 (nI 0) (Nat.zero_add _) (by have := q_fu1; omega)
  · unfold b_X12_stands_4 b_X12_stands_47 b_X12_stands_49 f_X12_manAt
    rw [u_rd (by decide) (by decide), u_s1, h.k2.1, if_neg (nI_ge hi (by omega)), if_neg (show ¬ nI 2 = 0 by decide +kernel), u_s1, if_neg (show ¬ nI 2 = nI 1 by decide +kernel), u_mul, nI_add, nI_add, u_rd (show 80 + 24 * i + 9 < 3580 by omega) (by decide), u_s1, nI_add]
  · unfold b_X12_stands_4
    rw [u_rd (by decide) (by decide), u_s1, h.k2.1, if_pos (Int32.le_refl _)]
theorem RV.sumC {X : qX} {v : Nat} {I : qI} {t : Nat → Int32} {j : Nat} (h : RV X v I t j) {a c w : Nat} (ha : a = v + 12) (hc : c = v + 13 + w) (hw : w < 12) (hk : q_kd X c = some (0, 12)) : f_X2_sum a (some c) X I = some (sumF (fun m => t (80 + 24 * m + w)) 0 (cn t 2) (nI 0)) := by
  subst ha
  have b := h.bd
  unfold f_X2_sum
  refine u_acc (n := cn t 2) (fun k x i hi => ?_) (fun k x => ?_) (cn t 2) q_fu 0 (nI 0) (Nat.zero_add _) (by have := q_fu1; omega)
  · unfold b_X2_sum_4
    rw [h.sc2 rfl, h.k2.1, if_neg (nI_ge hi (by omega)), u_arr hk, u_s2, if_neg (nI_ge (show i < 12 by omega) (by omega)), u_rd (show i < 12 by omega) (by decide), u_s1, nI_add, hc]
    rw [show v + 13 + w = v + (13 + w) by omega, h.1 _ _ _ (vq_man i (by omega) w hw) (fun _ _ _ => by omega)]
  · unfold b_X2_sum_4
    rw [h.sc2 rfl, h.k2.1, if_pos (Int32.le_refl _)]
theorem RV.cnt4 {X : qX} {v : Nat} {I J : qI} {j : Nat} (h : RV X v I (J 270) j) {a : Nat} (ha : a = v + 27) (y : Int32) : ∃ s, f_X1_open a I = some s ∧ q_fix (fun _ _ => none) (b_X12_count_105 269 y J) q_fu (nI 0) (nI 0) = some s := by
  subst ha
  have b := h.bd
  refine ⟨sumF (fun d => if J 270 (370 + 8 * d + 5) = 0 then nI 1 else nI 0) 0 (cn (J 270) 3) (nI 0), ?_, ?_⟩
  · unfold f_X1_open
    refine u_acc (n := cn (J 270) 3) (fun k x i hi => ?_) (fun k x => ?_) (cn (J 270) 3) q_fu 0 (nI 0) (Nat.zero_add _) (by have := q_fu1; omega)
    · unfold b_X1_open_4 b_X1_open_24
      rw [h.sc3 rfl, h.k3.1, if_neg (nI_ge hi (by omega)), u_rd (show i < 60 by omega) (by decide), u_s1, h.d5 (by omega) (by omega), nI_add]
      by_cases e : J 270 (370 + 8 * i + 5) = 0
      · simp only [if_pos e]
      · simp only [if_neg e]; rw [nI_0, Int32.add_zero]
    · unfold b_X1_open_4
      rw [h.sc3 rfl, h.k3.1, if_pos (Int32.le_refl _)]
  · refine u_acc (n := cn (J 270) 3) (fun k x i hi => ?_) (fun k x => ?_) (cn (J 270) 3) q_fu 0 (nI 0) (Nat.zero_add _) (by have := q_fu1; omega)
    · unfold b_X12_count_105 b_X12_count_136 f_X12_dueAt
      rw [u_rd (by decide) (by decide), u_s1, h.k3.1, if_neg (nI_ge hi (by omega)), u_s1, u_mul, nI_add, nI_add, u_rd (show 370 + 8 * i + 5 < 3580 by omega) (by decide), u_s1, nI_add]
      by_cases e : J 270 (370 + 8 * i + 5) = 0
      · simp only [if_pos e]
      · simp only [if_neg e]
    · unfold b_X12_count_105
      rw [u_rd (by decide) (by decide), u_s1, h.k3.1, if_pos (Int32.le_refl _)]
theorem RV.cnt5 {X : qX} {v : Nat} {I J : qI} {j : Nat} (h : RV X v I (J 270) j) {a : Nat} (ha : a = v + 27) (y : Int32) : ∃ s, f_X1_out a I = some s ∧ q_fix (fun _ _ => none) (b_X12_count_148 269 y J) q_fu (nI 0) (nI 0) = some s := by
  subst ha
  have b := h.bd
  refine ⟨sumF (fun d => if J 270 (370 + 8 * d + 6) < 0 then nI 0 else nI 1) 0 (cn (J 270) 3) (nI 0), ?_, ?_⟩
  · unfold f_X1_out
    refine u_acc (n := cn (J 270) 3) (fun k x i hi => ?_) (fun k x => ?_) (cn (J 270) 3) q_fu 0 (nI 0) (Nat.zero_add _) (by have := q_fu1; omega)
    · unfold b_X1_out_4 b_X1_out_26
      rw [h.sc3 rfl, h.k3.1, if_neg (nI_ge hi (by omega)), u_rd (show i < 60 by omega) (by decide), u_s1, nI_add]
      rcases h.hol hi with ⟨e1, e2⟩ | ⟨m, e1, e2, hm⟩
      · rw [show I (v + 27 + 7) i = -1000000005 from e2, e1, if_pos rfl, if_pos (by decide), nI_0, Int32.add_zero]
      · have n1 : ¬ nI m = -1000000005 := fun q => by
          have := nI_pos (n := m) (by omega)
          rw [q] at this
          exact this (by decide)
        rw [show I (v + 27 + 7) i = nI m from e2, e1, if_neg n1, if_neg (nI_pos (by omega))]
    · unfold b_X1_out_4
      rw [h.sc3 rfl, h.k3.1, if_pos (Int32.le_refl _)]
  · refine u_acc (n := cn (J 270) 3) (fun k x i hi => ?_) (fun k x => ?_) (cn (J 270) 3) q_fu 0 (nI 0) (Nat.zero_add _) (by have := q_fu1; omega)
    · unfold b_X12_count_148 b_X12_count_180 f_X12_dueAt
      rw [u_rd (by decide) (by decide), u_s1, h.k3.1, if_neg (nI_ge hi (by omega)), u_s1, u_mul, nI_add, nI_add, u_rd (show 370 + 8 * i + 6 < 3580 by omega) (by decide), u_s1, nI_add]
      by_cases e : J 270 (370 + 8 * i + 6) < 0
      · simp only [if_pos e]
      · simp only [if_neg e]
    · unfold b_X12_count_148
      rw [u_rd (by decide) (by decide), u_s1, h.k3.1, if_pos (Int32.le_refl _)]
theorem RV.cnt13 {X : qX} {v : Nat} {I J : qI} {j : Nat} (h : RV X v I (J 270) j) {w : Nat} (hw : w < 12) : q_fix (fun _ _ => none) (b_X12_count_236 269 (nI (w + 9)) J) q_fu (nI 0) (nI 0) = some (sumF (fun m => J 270 (80 + 24 * m + w)) 0 (cn (J 270) 2) (nI 0)) := by
  have b := h.bd
  refine u_acc (n := cn (J 270) 2) (fun k x i hi => ?_) (fun k x => ?_) (cn (J 270) 2) q_fu 0 (nI 0) (Nat.zero_add _) (by have := q_fu1; omega)
  · unfold b_X12_count_236 f_X12_manAt
    rw [u_rd (by decide) (by decide), u_s1, h.k2.1, if_neg (nI_ge hi (by omega)), u_s1, u_mul, nI_add, nI_add, u_sub (by omega), show 80 + 24 * i + (w + 9) - 9 = 80 + 24 * i + w by omega, u_rd (show 80 + 24 * i + w < 3580 by omega) (by decide), u_s1, nI_add]
  · unfold b_X12_count_236
    rw [u_rd (by decide) (by decide), u_s1, h.k2.1, if_pos (Int32.le_refl _)]
theorem W_count {X : qX} (y1 : Int32) : P0 X (f_X11_count 64 y1 X) (f_X12_count 269 y1) := by
  intro I J h
  show G0 (f_X11_count 64 y1 X I) (f_X12_count 269 y1 J)
  have hR := h.rv
  obtain ⟨c, c1, c2, c3, c4⟩ := h.wt
  obtain ⟨e, e1, e2, e3, e4⟩ := h.tp
  unfold f_X11_count f_X12_count f_X12_week
  refine G0.ite (fun _ => ?_) (fun _ => ?_)
  · rw [hR.sc1 (a := 64 + 8) rfl, u_rd (by decide) (by decide), u_s1]; exact G0.rf _
  refine G0.ite (fun _ => ?_) (fun _ => ?_)
  · rw [hR.sc2 (a := 64 + 13) rfl, u_rd (by decide) (by decide), u_s1]; exact G0.rf _
  refine G0.ite (fun _ => ?_) (fun _ => ?_)
  · rw [hR.sumC (a := 64 + 13) (c := 64 + 23) (w := 9) rfl rfl (by decide) (h.1.k (k := 23) rfl rfl), u_s1, hR.st2, u_s1]; exact G0.rf _
  refine G0.ite (fun _ => ?_) (fun _ => ?_)
  · rw [hR.sc3 (a := 64 + 28) rfl, u_rd (by decide) (by decide), u_s1]; exact G0.rf _
  refine G0.ite (fun _ => ?_) (fun _ => ?_)
  · obtain ⟨s, s1, s2⟩ := hR.cnt4 (a := 64 + 28) rfl y1
    rw [s1, s2, u_s1]; exact G0.rf _
  refine G0.ite (fun _ => ?_) (fun _ => ?_)
  · obtain ⟨s, s1, s2⟩ := hR.cnt5 (a := 64 + 28) rfl y1
    rw [s1, s2, u_s1]; exact G0.rf _
  refine G0.ite (fun _ => ?_) (fun _ => ?_)
  · rw [hR.sc4 (a := 64 + 37) rfl, u_rd (by decide) (by decide), u_s1]; exact G0.rf _
  refine G0.ite (fun _ => ?_) (fun _ => ?_)
  · rw [hR.sc5 (a := 64 + 45) rfl, u_rd (by decide) (by decide), u_s1]; exact G0.rf _
  refine G0.ite (fun _ => ?_) (fun _ => ?_)
  · rw [hR.sc6 (a := 64 + 53) rfl, u_rd (by decide) (by decide), u_s1]; exact G0.rf _
  refine G0.ite (fun _ => ?_) (fun _ => ?_)
  · rw [c2, c3]; exact G0.rf _
  refine G0.ite (fun _ => ?_) (fun _ => ?_)
  · rw [show I (64 + 196) 6 = nI e from e2, e3]; exact G0.rf _
  refine G0.ite (fun _ => ?_) (fun _ => ?_)
  · rw [hR.sc0 (a := 64 + 1) rfl, u_rd (by decide) (by decide), u_s1]; exact G0.rf _
  refine G0.ite (fun _ => ?_) (fun _ => ?_)
  · rw [hR.sc0 (a := 64 + 1) rfl, u_rd (by decide) (by decide), u_s1, u_s1]; exact G0.rf _
  refine G0.ite (fun q => ?_) (fun _ => ?_)
  · rw [q, hR.sumC (a := 64 + 13) (c := 64 + 18) (w := 4) rfl rfl (by decide) (h.1.k (k := 18) rfl rfl), u_s1, hR.cnt13 (w := 4) (by decide)]; exact G0.rf _
  refine G0.ite (fun q => ?_) (fun _ => G0.rf _)
  · rw [q, hR.sumC (a := 64 + 13) (c := 64 + 19) (w := 5) rfl rfl (by decide) (h.1.k (k := 19) rfl rfl), u_s1, hR.cnt13 (w := 5) (by decide)]; exact G0.rf _
theorem W_tell {X : qX} (y1 : Int32) : P2 X (f_X11_tell 64 y1) (f_X12_tell 269 y1) := by
  intro I J h
  show G2 X I J (f_X11_tell 64 y1 I) (f_X12_tell 269 y1 J)
  obtain ⟨c, c1, c2, c3, c4⟩ := h.wt
  unfold f_X11_tell f_X12_tell
  rw [c2, c3]
  by_cases e : c = 60
  · subst e
    rw [if_neg Int32.lt_irrefl, if_pos rfl]
    exact h.same _
  · rw [if_pos (nI_lt (by omega) (by decide)), if_neg (fun q => e ((nI_eq (by omega) (by decide)).mp q)), u_wr (show c < 60 by omega) (by decide), u_s1, u_s1, u_wr (show c < 60 by omega) (by decide), u_s1, u_s1]
    rw [u_up_same, u_up_same, u_up_a (show (64 : Nat) ≠ 64 + 203 by decide), u_up_a (show (269 : Nat) ≠ 269 + 16 by decide), c2, c3, nI_add]
    refine ⟨_, _, _, rfl, rfl, h.side (fun a ha => ?_) ?_ (fun a ha => ?_) ?_ ?_ ?_ ?_ ?_, fun a h1 h2 => ?_, fun a ha => ?_⟩
    · funext k; rw [u_up_a (by omega), u_up_a (by omega)]
    · rw [u_up_j (by decide), u_up_a (by decide)]
    · funext k; rw [u_up_a (by omega), u_up_a (by omega)]
    · rw [u_up_j (by decide), u_up_a (by decide)]
    · rw [u_up_j (by decide), u_up_a (by decide)]
    · have b := h.bk
      refine ⟨fun p hp => ?_, fun i hi => ?_⟩
      · rw [u_up_a (by decide), u_up_a (by decide), u_up_a (by decide), u_up_a (by decide), u_up_a (by decide), u_up_a (by decide), u_up_a (by decide), u_up_a (by decide)]; exact b.1 p hp
      · rw [u_up_a (by decide), u_up_a (by decide), u_up_a (by decide), u_up_a (by decide)]; exact b.2 i hi
    · refine ⟨c + 1, by omega, u_up_same, u_up_same, fun i hi => ?_⟩
      rw [u_up_a (by decide), u_up_a (show (285 : Nat) ≠ 269 by decide)]
      by_cases q : i = c
      · subst q; rw [show (267 : Nat) = 64 + 203 from rfl, u_up_same, show (285 : Nat) = 269 + 16 from rfl, u_up_same]
      · rw [show (267 : Nat) = 64 + 203 from rfl, u_up_j q, show (285 : Nat) = 269 + 16 from rfl, u_up_j q]; exact c4 i (by omega)
    · obtain ⟨e, e1, e2, e3, e4⟩ := h.tp
      refine ⟨e, e1, ?_, ?_, fun i hi => ?_⟩
      · rw [u_up_a (by decide), u_up_a (by decide)]; exact e2
      · rw [u_up_j (by decide), u_up_a (by decide)]; exact e3
      · rw [u_up_a (by decide), u_up_a (by decide), u_up_a (by decide), u_up_a (by decide)]; exact e4 i hi
    · funext k; rw [u_up_a (by omega), u_up_a (by omega)]
    · funext k; rw [u_up_a (by omega), u_up_a (by omega)]
theorem W_trim {X : qX} (y1 : Int32) : P2 X (f_X11_trim 64 y1) (f_X12_trim 269 y1) := by
  intro I J h
  show G2 X I J (f_X11_trim 64 y1 I) (f_X12_trim 269 y1 J)
  obtain ⟨c, c1, c2, c3, c4⟩ := h.tp
  unfold f_X11_trim f_X12_trim
  rw [show I (64 + 196) 6 = nI c from c2, c3, l64_0, u_isIn32, u_within]
  simp only [u_s1]
  by_cases e : nI 0 ≤ y1 ∧ y1 ≤ nI c
  · simp only [if_pos e]
    rw [if_neg u_one, if_neg u_one]
    obtain ⟨k, rfl, -, hk⟩ := u_range (by omega) e.1 e.2 (by decide)
    refine ⟨_, _, _, rfl, rfl, h.side (fun a ha => ?_) ?_ (fun a ha => ?_) ?_ ?_ ?_ ?_ ?_, fun a h1 h2 => ?_, fun a ha => ?_⟩
    · funext k; rw [u_up_a (by omega)]
    · rw [u_up_a (by decide)]
    · funext k; rw [u_up_a (by omega)]
    · rw [u_up_j (by decide)]
    · rw [u_up_j (by decide)]
    · have b := h.bk
      refine ⟨fun p hp => ?_, fun i hi => ?_⟩
      · rw [u_up_a (by decide), u_up_a (by decide), u_up_a (by decide), u_up_a (by decide)]; exact b.1 p hp
      · rw [u_up_a (by decide), u_up_a (by decide)]; exact b.2 i hi
    · obtain ⟨e, e1, e2, e3, e4⟩ := h.wt
      refine ⟨e, e1, ?_, ?_, fun i hi => ?_⟩
      · rw [u_up_a (by decide)]; exact e2
      · rw [u_up_j (by decide)]; exact e3
      · rw [u_up_a (by decide), u_up_a (by decide)]; exact e4 i hi
    · refine ⟨k, by omega, u_up_same, u_up_same, fun i hi => ?_⟩
      rw [u_up_a (by decide), u_up_a (by decide)]; exact c4 i (by omega)
    · funext k; rw [u_up_a (by omega)]
    · funext k; rw [u_up_a (by omega)]
  · simp only [if_neg e]
    rw [if_pos trivial, if_pos trivial]
    exact h.same _
