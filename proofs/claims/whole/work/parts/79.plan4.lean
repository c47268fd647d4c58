/-! LEVEL B: plan, planned: the pairs -/
theorem funC (x y : Int32) : f_X11_isFunded x y = some (if (nI 0 ≤ x ∧ x ≤ nI 9999) ∧ (nI 0 ≤ y ∧ y ≤ nI 99) then 1 else 0) := by
  unfold f_X11_isFunded
  simp only [u_within, u_s1, u_ib, ite_not]
  by_cases a : nI 0 ≤ x ∧ x ≤ nI 9999
  · by_cases b : nI 0 ≤ y ∧ y ≤ nI 99
    · rw [if_pos a, if_pos b, if_pos ⟨a, b⟩]; rfl
    · rw [if_pos a, if_neg b, if_neg (fun q => b q.2)]; rfl
  · rw [if_neg a, if_neg (fun q => a q.1)]; rfl
theorem funM (x y : Int32) : f_X12_isFund x y = some (if (nI 0 ≤ x ∧ x ≤ nI 9999) ∧ (nI 0 ≤ y ∧ y ≤ nI 99) then 1 else 0) := by
  unfold f_X12_isFund
  simp only [ii_0_9999, ii_0_99, u_s1, u_ib, ite_not]
  by_cases a : nI 0 ≤ x ∧ x ≤ nI 9999
  · by_cases b : nI 0 ≤ y ∧ y ≤ nI 99
    · rw [if_pos a, if_pos b, if_pos ⟨a, b⟩]; rfl
    · rw [if_pos a, if_neg b, if_neg (fun q => b q.2)]; rfl
  · rw [if_neg a, if_neg (fun q => a q.1)]; rfl
theorem fo {X : qX} {I J : qI} (h : RV X 65 I (J 270) 0) {F inc T : Nat} (hF : F ≤ 9999) (hi : inc ≤ 99) (hT : T ≤ 20000) : ∃ v I' J', f_X4_found 117 (nI F) (nI inc) (nI T) I = some (v, I') ∧ f_X12_findOrder 269 (nI F) (nI inc) (nI T) J = some (v, J') ∧ SX 65 I I' ∧ SM J J' ∧ (0 ≤ v → ∀ i, i < cn (J 270) 6 → I' 123 i = J' 283 i ∧ I' 124 i = J' 284 i) := by
  have c8 := h.k6.2
  have d20 : 20 < q_rd0 := by decide
  have s1 : SX 65 I (q_up (q_up I 117 7 (-1)) 117 8 (nI T)) := (SX.rf.up (o := 52) rfl (by decide) (by unfold scO; omega)).up (o := 52) rfl (by decide) (by unfold scO; omega)
  have s2 : SM J (q_up (q_up (q_up J 269 35 (-1)) 269 36 (nI T)) 269 37 (nI 0)) := ((SM.rf.fl (by decide)).fl (by decide)).fl (by decide)
  obtain ⟨v, I', J', z1, z2, z3⟩ := pn h (cn (J 270) 6) q_rd0 q_rd0 0 (nI 0) 0 F inc (q_up (q_up I 117 7 (-1)) 117 8 (nI T)) (q_up (q_up (q_up J 269 35 (-1)) 269 36 (nI T)) 269 37 (nI 0)) (Nat.zero_add _) (by omega) (by omega) (by decide) (by omega) (by omega) (by
    refine ⟨s1, s2, ?_, ⟨T, hT, u_up_same, ?_⟩, Or.inl ?_, u_up_same, fun i hi => absurd hi (Nat.not_lt_zero _)⟩
    · rw [u_up_j (by decide), u_up_same, u_up_j (by decide), u_up_j (by decide), u_up_same]
    · rw [u_up_j (by decide), u_up_same]
    · rw [u_up_j (by decide), u_up_j (by decide), u_up_same]; decide)
  unfold f_X4_found f_X12_findOrder f_X4_putNext f_X12_seek
  rw [u_s1, u_s1, u_s1, u_s1, u_s1, z1, z2, u_s2, u_s1]
  rcases z3 with ⟨zv, z4, z5, z6, z7, z8, z9, -⟩ | ⟨zv, z4, z5, z6⟩
  · rw [zv, if_neg (show ¬ nI 1 = (0 : Int32) by decide +kernel), z9, if_pos nI_0, z6]
    by_cases q : 0 ≤ J' 269 35
    · rw [if_pos q, if_pos q]
      exact ⟨_, _, _, rfl, rfl, z4, z5, fun _ => z8.elim (fun w => absurd q (Int32.not_le.mpr w)) (fun w => w.2)⟩
    · rw [if_neg q, if_neg q]
      exact ⟨_, _, _, rfl, rfl, z4, z5, fun w => absurd w (by decide)⟩
  · rw [zv, if_pos nI_0, z6, if_neg (show ¬ nI 1 = (0 : Int32) by decide +kernel)]
    exact ⟨_, _, _, rfl, rfl, z4, z5, fun w => absurd w (by decide)⟩
theorem ii_20k (y : Int32) : f_X12_isIn y.toInt64 (1 : Int64) (20000 : Int64) = some (if nI 1 ≤ y ∧ y ≤ nI 20000 then 1 else 0) := by rw [l64_1, show (20000 : Int64) = (nI 20000).toInt64 by decide, u_isIn32]
theorem W_plan {X : qX} (y1 y2 y3 : Int32) : P2 X (f_X11_plan 64 y1 y2 y3) (f_X12_plan 269 y1 y2 y3) := by
  intro I J h
  show G2 X I J (f_X11_plan 64 y1 y2 y3 I) (f_X12_plan 269 y1 y2 y3 J)
  unfold f_X11_plan f_X12_plan
  simp only [funC, funM, u_within, ii_20k, u_s1, u_ib, ite_not]
  refine G2.ite (fun c1 => ?_) (fun _ => h.same _)
  refine G2.ite (fun c2 => ?_) (fun _ => h.same _)
  obtain ⟨F, rfl, -, hF⟩ := u_range (by decide) c1.1.1 c1.1.2 (by decide)
  obtain ⟨inc, rfl, -, hi⟩ := u_range (by decide) c1.2.1 c1.2.2 (by decide)
  obtain ⟨T, rfl, -, hT⟩ := u_range (by decide) c2.1 c2.2 (by decide)
  obtain ⟨v, I', J', k1, k2, k3, k4, -⟩ := fo h.rv hF hi hT
  rw [show f_X4_found (64 + 53) (nI F) (nI inc) (nI T) I = _ from k1, k2, u_s2, u_s2]
  exact h.sx k3 k4 rfl
theorem W_planned {X : qX} (y1 y2 y3 : Int32) : P2 X (f_X11_planned 64 y1 y2 y3 X) (f_X12_planned 269 y1 y2 y3) := by
  intro I J h
  show G2 X I J (f_X11_planned 64 y1 y2 y3 X I) (f_X12_planned 269 y1 y2 y3 J)
  unfold f_X11_planned f_X12_planned
  simp only [funC, funM, u_s1, u_ib, ite_not]
  refine G2.ite (fun c1 => ?_) (fun _ => h.same _)
  refine G2.ite (fun c2 => ?_) (fun _ => h.same _)
  obtain ⟨F, rfl, -, hF⟩ := u_range (by decide) c1.1.1 c1.1.2 (by decide)
  obtain ⟨inc, rfl, -, hi⟩ := u_range (by decide) c1.2.1 c1.2.2 (by decide)
  obtain ⟨v, I', J', k1, k2, k3, k4, k5⟩ := fo h.rv hF hi (T := 20000) (by decide)
  rw [show f_X4_found (64 + 53) (nI F) (nI inc) (nI 20000) I = _ from k1, k2, u_s2, u_s2]
  obtain ⟨k6, c8⟩ := h.rv.k6
  have hC : I' (64 + 53) 9 = nI (cn (J 270) 6) := ((h.rv.sx (by decide) k3).sc6 (a := 117) rfl).trans k6
  have hJ : J' (269 + 1) = J 270 := k4.1 270 (by decide) (by decide)
  rw [hC, u_rd (show 6 < 3580 by decide) (by decide), u_s1, hJ, k6]
  by_cases q : 0 ≤ v
  rotate_left
  · rw [if_neg q, if_neg q]; exact h.sx k3 k4 rfl
  rw [if_pos q, if_pos q]
  by_cases z : nI (cn (J 270) 6) ≤ y3
  · rw [if_pos z, if_pos z]; exact h.sx k3 k4 rfl
  rw [if_neg z, if_neg z]
  obtain ⟨i, hi31, rfl⟩ := nI_of (Int32.not_lt.mpr c2)
  have ic : i < cn (J 270) 6 := by
    rcases Nat.lt_or_ge i (cn (J 270) 6) with w | w
    · exact w
    · exact absurd (nI_le w hi31) z
  rw [u_looked (h.1.k (a := 64 + 59) (k := 59) rfl rfl) (show i < 8 by omega) (by decide), u_s1, u_rd (show i < 8 by omega) (by decide), u_s1]
  exact h.sx k3 k4 (k5 q i ic).1
