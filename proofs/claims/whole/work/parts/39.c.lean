/-! LEVEL B: sell, melt, told, as, shop, known, hear -/
theorem RV.hol {X : qX} {v : Nat} {I : qI} {t : Nat → Int32} {j : Nat} (h : RV X v I t j) {d : Nat} (hd : d < cn t 3) : (t (370 + 8 * d + 6) = -1 ∧ I (v + 34) d = -1000000005) ∨ ∃ m, t (370 + 8 * d + 6) = nI m ∧ I (v + 34) d = nI m ∧ m < cn t 2 := by
  have b := h.bd
  have e := h.2.2.2.2.1 d hd
  rcases h.r_d6 (d := d) (by omega) with q | ⟨q1, q2, q3⟩
  · left
    rw [if_pos q] at e
    exact ⟨q, e⟩
  · right
    have n1 : t (370 + 8 * d + 6) ≠ -1 := fun q => by
      have := nI_pos (n := cn t (370 + 8 * d + 6)) (by omega)
      rw [← q1, q] at this
      exact this (by decide)
    rw [if_neg n1] at e
    exact ⟨_, q1, e.trans q1, (h.dd.2.2.2.1 d hd).2.1 n1⟩
theorem has_NONE (c : Nat) : ¬ (nI 0 ≤ (-1000000005 : Int32) ∧ (-1000000005 : Int32) < nI c) := fun h => absurd h.1 (by decide +kernel)
theorem neg1 : ¬ (0 : Int32) ≤ -1 := by decide
theorem W_melt {X : qX} (y1 : Int32) : P2 X (f_X11_melt 64 y1) (f_X12_melt 269 y1) := by
  intro I J h
  show G2 X I J (f_X11_melt 64 y1 I) (f_X12_melt 269 y1 J)
  have hR := h.rv
  have b := hR.bd
  unfold f_X11_melt f_X12_melt f_X12_dueAt f_X12_manAt
  simp only [hR.hasD (a := 64 + 28) rfl, hR.isDue, u_s1, u_ib, ite_not]
  refine G2.ite (fun c1 => ?_) (fun _ => h.same _)
  obtain ⟨d, rfl, hd⟩ := u_idx c1 (by omega)
  have hd6 : d < 60 := by omega
  simp only [u_mul, nI_add]
  rw [u_rd hd6 (by decide), u_s1, hR.d0 (a := 64 + 29) rfl hd6, u_rd (show 370 + 8 * d < 3580 by omega) (by decide), u_s1]
  refine G2.ite (fun c2 => ?_) (fun _ => h.same _)
  rw [u_rd hd6 (by decide), u_s1, u_rd (show 370 + 8 * d + 6 < 3580 by omega) (by decide), u_s1]
  rcases hR.hol hd with ⟨e1, e2⟩ | ⟨m, e1, e2, hm⟩
  · rw [show I (64 + 35) d = -1000000005 from e2, e1, hR.hasM (a := 64 + 13) rfl, u_s1, if_neg (has_NONE _), if_pos rfl, if_neg neg1]
    exact h.same _
  · have hm12 : m < 12 := by omega
    rw [show I (64 + 35) d = nI m from e2, e1, hR.hasM (a := 64 + 13) rfl, u_s1, if_pos (u_idx' hm (by omega)), if_neg u_one, if_pos (nI_pos' (by omega)), u_rd hd6 (by decide), u_s1, hR.d2 (a := 64 + 31) rfl hd6, u_rd (show 370 + 8 * d + 2 < 3580 by omega) (by decide), u_s1]
    obtain ⟨am, f1, -, f2⟩ := (hR.dd.2.2.2.1 d hd).2.2.1
    have f3 := hR.k0.2
    obtain ⟨k1, -, k2⟩ := hR.r_m5 (m := m) hm12
    rw [hR.getChecks (a := 64 + 13) rfl hm12, u_s1, RV.getsJ hm12 (by decide), u_s1, u_wr hd6 (by decide), u_s1, u_wr (show 370 + 8 * d + 6 < 3580 by omega) (by decide), u_s1, u_mul, nI_add, nI_add, u_rd hm12 (by decide), u_rd (show 80 + 24 * m + 5 < 3580 by omega) (by decide), u_s1, u_s1]
    have h3 := hR.up (by decide) (vq_man m hm12 5 (by decide)) (x := q_min (nI 99999) (J 270 (80 + 24 * m + 5) + J 270 (370 + 8 * d + 2))) (by rw [k1, f1, nI_add, q_min_nI (by decide) (by omega)]; exact rgS_i (rg_m5 m hm12) (by omega) (by omega)) (hR.dd.up (by simp [dr]; omega) _) (by omega) (by omega) (by omega)
    refine h.put2 ?_ ((FC.rfl'.up (by decide) (by decide)).up (by decide) (by decide)) ((GM.rfl'.up (by decide)).up (by decide)) ?_
    · rw [up270, up270]
      exact h3.hold (by decide) hd6 (x := -1) (y := -1000000005) (by decide) ((rgS_t (rg_d6 d hd6)).mpr (Or.inl rfl)) (h3.dd.holder hd6 _ (fun q => absurd rfl q))
    · show q_up (q_up I 83 m _) 99 d _ 83 m = q_up (q_up J 270 (80 + 24 * m + 5) _) 270 (370 + 8 * d + 6) _ 270 (80 + 24 * m + 5)
      rw [u_up_a (by decide), u_up_same, u_up_j (by omega), u_up_same]
theorem W_told {X : qX} (y1 y2 : Int32) : P0 X (f_X11_told 64 y1 y2 X) (f_X12_told 269 y1 y2) := by
  intro I J h
  show G0 (f_X11_told 64 y1 y2 X I) (f_X12_told 269 y1 y2 J)
  have hR := h.rv
  have b := hR.bd
  unfold f_X11_told f_X12_told f_X12_dueAt f_X12_orNone
  simp only [hR.hasD (a := 64 + 28) rfl, hR.isDue, ii_0_7, u_s1, u_ib, ite_not]
  refine G0.ite (fun c1 => ?_) (fun _ => G0.rf _)
  obtain ⟨d, rfl, hd⟩ := u_idx c1 (by omega)
  have hd6 : d < 60 := by omega
  by_cases c2 : nI 0 ≤ y2 ∧ y2 ≤ nI 7
  · rw [if_pos c2]
    obtain ⟨w, rfl, -, hw⟩ := u_range (by decide) c2.1 c2.2 (by decide)
    rw [show f_X1_row (64 + 28) (nI w) = some (some (93 + w)) by rcases (show w = 0 ∨ w = 1 ∨ w = 2 ∨ w = 3 ∨ w = 4 ∨ w = 5 ∨ w = 6 ∨ w = 7 by omega) with rfl | rfl | rfl | rfl | rfl | rfl | rfl | rfl <;> decide +kernel, u_s1, u_looked (h.1.k (a := 93 + w) (k := w + 29) (d := (0, 60)) (by omega) (by rcases (show w = 0 ∨ w = 1 ∨ w = 2 ∨ w = 3 ∨ w = 4 ∨ w = 5 ∨ w = 6 ∨ w = 7 by omega) with rfl | rfl | rfl | rfl | rfl | rfl | rfl | rfl <;> rfl)) hd6 (by decide), u_s1, u_mul, nI_add, nI_add, u_rd (by omega) (by decide), u_s1]
    by_cases e : w = 6
    · subst e
      rw [if_pos rfl]
      rcases hR.hol hd with ⟨e1, e2⟩ | ⟨m, e1, e2, hm⟩
      · rw [e1, show I (93 + 6) d = -1000000005 from e2, if_neg neg1, u_s1]
        exact G0.rf _
      · rw [e1, show I (93 + 6) d = nI m from e2, if_pos (nI_pos' (by omega)), u_s1]
        exact G0.rf _
    · rw [if_neg (fun q => e ((nI_eq (by omega) (by omega)).mp q)), h.rv.1 (370 + 8 * d + w) (28 + w) d (vq_due d hd6 w (by omega) e) (fun _ _ _ => by omega) |> fun q => (show I (93 + w) d = J 270 (370 + 8 * d + w) from by rw [← q]; congr 1; omega)]
      exact G0.rf _
  · rw [if_neg c2, show f_X1_row (64 + 28) y2 = some none by
      unfold f_X1_row
      rw [if_neg (u_out c2 (by decide) (by decide) (by decide)), if_neg (u_out c2 (by decide) (by decide) (by decide)), if_neg (u_out c2 (by decide) (by decide) (by decide)), if_neg (u_out c2 (by decide) (by decide) (by decide)), if_neg (u_out c2 (by decide) (by decide) (by decide)), if_neg (u_out c2 (by decide) (by decide) (by decide)), if_neg (u_out c2 (by decide) (by decide) (by decide)), if_neg (u_out c2 (by decide) (by decide) (by decide))], u_s1]
    exact G0.rf _
def undB (a b : Nat) : Bool := b == 0 || a == b || (b == 1 && decide (a ≤ 3)) || (b == 2 && a == 3)
theorem isUnder_0 : ∀ a, a < 7 → ∀ b, b < 7 → 0 < a → f_X1_isUnder (nI a) (nI b) q_i0 = some (if undB a b = true then 1 else 0) := by decide +kernel
theorem isUnder_i (x y : Int32) (I I' : qI) : f_X1_isUnder x y I = f_X1_isUnder x y I' := by
  unfold f_X1_isUnder b_X1_isUnder_4
  rfl
theorem isUnder_ev {a b : Nat} (ha : a < 7) (ha0 : 0 < a) (hb : b < 7) (I : qI) : f_X1_isUnder (nI a) (nI b) I = some (if undB a b = true then 1 else 0) := (isUnder_i _ _ I q_i0).trans (isUnder_0 a ha b hb ha0)
theorem RV.kd {X : qX} {v : Nat} {I : qI} {t : Nat → Int32} {j : Nat} (h : RV X v I t j) {d : Nat} (hd : d < cn t 3) : t (370 + 8 * d) = nI (cn t (370 + 8 * d)) ∧ 0 < cn t (370 + 8 * d) ∧ cn t (370 + 8 * d) < 7 := by
  have b := h.bd
  obtain ⟨q1, -, q3⟩ := h.r_d0 (d := d) (by omega)
  refine ⟨q1, ?_, by omega⟩
  refine Nat.pos_of_ne_zero fun e => (h.dd.2.2.2.1 d hd).1 ?_
  rw [q1, e]; rfl
theorem as_ev : ∀ a, a < 7 → ∀ b, b < 7 → 0 < a → (∀ {α : Type} (A B : α), (if nI b = 0 then A else if nI b = nI a then A else if nI b = nI 1 then (if nI a ≤ nI 3 then A else if nI b = nI 2 then (if nI a = nI 3 then A else B) else B) else if nI b = nI 2 then (if nI a = nI 3 then A else B) else B) = if undB a b = true then A else B) := by
  intro a ha b hb h0 α A B
  have q1 : (nI b = 0) = (b = 0) := propext (nI_0 ▸ nI_eq (by omega) (by omega))
  have q2 : (nI b = nI a) = (b = a) := propext (nI_eq (by omega) (by omega))
  have q3 : (nI b = nI 1) = (b = 1) := propext (nI_eq (by omega) (by omega))
  have q4 : (nI b = nI 2) = (b = 2) := propext (nI_eq (by omega) (by omega))
  have q5 : (nI a = nI 3) = (a = 3) := propext (nI_eq (by omega) (by omega))
  have q6 : (nI a ≤ nI 3) = (a ≤ 3) := propext (nI_leI (by omega) (by omega))
  simp only [q1, q2, q3, q4, q5, q6, undB, Bool.or_eq_true, Bool.and_eq_true, beq_iff_eq, decide_eq_true_eq]
  by_cases e1 : b = 0
  · simp [e1]
  by_cases e2 : b = a
  · simp [e2]
  have e2' : ¬ a = b := fun q => e2 q.symm
  by_cases e3 : b = 1
  · subst e3
    by_cases e4 : a ≤ 3
    · simp [e2', e4]
    · simp [e2, e2', e4]
  by_cases e5 : b = 2
  · subst e5
    by_cases e6 : a = 3
    · simp [e6]
    · simp [e2, e2', e6]
  · simp [e1, e2, e2', e3, e5]
theorem W_as {X : qX} (y1 y2 : Int32) : P0 X (f_X11_as 64 y1 y2) (f_X12_as 269 y1 y2) := by
  intro I J h
  show G0 (f_X11_as 64 y1 y2 I) (f_X12_as 269 y1 y2 J)
  have hR := h.rv
  have b := hR.bd
  unfold f_X11_as f_X12_as b_X12_as_53 b_X12_as_67 b_X12_as_63 b_X12_as_68 f_X12_dueAt
  simp only [hR.hasD (a := 64 + 28) rfl, hR.isDue, u_within, ii_0_6, u_s1, u_ib, ite_not]
  refine G0.ite (fun c1 => ?_) (fun _ => G0.rf _)
  refine G0.ite (fun c2 => ?_) (fun _ => G0.rf _)
  obtain ⟨d, rfl, hd⟩ := u_idx c1 (by omega)
  have hd6 : d < 60 := by omega
  obtain ⟨w, rfl, -, hw⟩ := u_range (by decide) c2.1 c2.2 (by decide)
  obtain ⟨k1, k2, k3⟩ := hR.kd hd
  simp only [u_mul, nI_add]
  rw [u_rd hd6 (by decide), u_s1, hR.d0 (a := 64 + 29) rfl hd6, u_rd (show 370 + 8 * d < 3580 by omega) (by decide), u_s1, k1, isUnder_ev k3 k2 (by omega), u_s1, as_ev _ k3 w (by omega) k2, u_rd hd6 (by decide), u_s1, hR.d2 (a := 64 + 31) rfl hd6, u_rd (show 370 + 8 * d + 2 < 3580 by omega) (by decide), u_s1]
  by_cases e : undB (cn (J 270) (370 + 8 * d)) w = true
  · simp only [if_pos e]
    rw [if_neg u_one, if_neg (show ¬ nI 1 = 0 by decide +kernel)]
    exact G0.rf _
  · simp only [if_neg e]
    rw [if_pos trivial, if_pos nI_0]
    exact G0.rf _
theorem W_known {X : qX} (y1 y2 y3 : Int32) : P0 X (f_X11_known 64 y1 y2 y3) (f_X12_known 269 y1 y2 y3) := by
  intro I J h
  show G0 (f_X11_known 64 y1 y2 y3 I) (f_X12_known 269 y1 y2 y3 J)
  have hR := h.rv
  have b := hR.bd
  unfold f_X11_known f_X12_known f_X2_knows f_X2_priceKnown f_X2_dayKnown f_X12_manAt
  simp only [hR.hasM (a := 64 + 13) rfl, hR.isMan, hR.hasS (a := 64 + 8) rfl, hR.isShop, u_within, ii_0_1, u_s1, u_ib, ite_not]
  refine G0.ite (fun c1 => ?_) (fun _ => G0.rf _)
  refine G0.ite (fun c2 => ?_) (fun _ => G0.rf _)
  refine G0.ite (fun c3 => ?_) (fun _ => G0.rf _)
  obtain ⟨m, rfl, hm⟩ := u_idx c1 (by omega)
  obtain ⟨k, rfl, hk⟩ := u_idx c2 (by omega)
  obtain ⟨w, rfl, -, hw⟩ := u_range (by decide) c3.1 c3.2 (by decide)
  simp only [u_mul, nI_add]
  rw [u_rd (show m * 6 + k < 72 by omega) (by decide), u_s1, u_rd (show m * 6 + k < 72 by omega) (by decide), u_s1, hR.hd (a := 64 + 13 + 14) rfl hm (show k < 6 by omega) (by omega), u_rd (show 80 + 24 * m + 18 + k < 3580 by omega) (by decide), u_s1, u_rd (show 80 + 24 * m + 12 + k < 3580 by omega) (by decide), u_s1, hR.kn (a := 64 + 13 + 13) rfl (show m < 12 by omega) (show k < 6 by omega) (by omega)]
  rcases hR.r_h (m := m) (k := k) (by omega) (by omega) with e | ⟨e1, -, e2⟩
  · rw [e, if_pos rfl, u_s1, if_pos nI_0, u_s1, if_neg neg1]
    exact G0.rf _
  · have n1 : ¬ nI (cn (J 270) (80 + 24 * m + 18 + k)) = -1 := fun q => by
      have := nI_pos (n := cn (J 270) (80 + 24 * m + 18 + k)) (by omega)
      rw [q] at this
      exact this (by decide)
    rw [e1, if_neg n1, u_s1, if_neg (show ¬ nI 1 = 0 by decide +kernel), u_s1, u_s1, if_pos (nI_pos' (by omega)), u_s1]
    rcases (show w = 0 ∨ w = 1 by omega) with rfl | rfl
    · rw [if_pos nI_0, if_neg (show ¬ nI 0 = nI 1 by decide +kernel)]
      exact G0.rf _
    · rw [if_neg (show ¬ nI 1 = 0 by decide +kernel), if_pos rfl]
      exact G0.rf _
