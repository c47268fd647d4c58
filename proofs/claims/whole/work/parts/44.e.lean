/-! LEVEL B: why, of, rules, end, breach, choice -/
theorem WW.scr {X : qX} {I J I' J' : qI} (h : WW X I J) (hC : SC 65 I I') (hM : SJ J J') {r s : Int32} (hr : r = s) : G2 X I J (some (r, I')) (some (s, J')) := by
  refine h.put2 ?_ hC.fc hM.gm hr
  rw [hM 270 (by decide) (by decide)]
  exact h.rv.sc (by decide) hC
theorem W_why {X : qX} (y1 : Int32) : P0 X (f_X11_why 64 y1) (f_X12_why 269 y1) := by
  intro I J h
  show G0 (f_X11_why 64 y1 I) (f_X12_why 269 y1 J)
  have hR := h.rv
  unfold f_X11_why f_X12_why f_X12_orNone
  simp only [u_within, ii_0_6, u_s1, u_ib, ite_not]
  refine G0.ite (fun c1 => ?_) (fun _ => G0.rf _)
  rw [hR.sc0 (a := 64 + 1) rfl, (hR.tv.counting (a := 64 + 37) rfl y1).1, u_s1, hR.tv.counts y1, u_s1]
  by_cases e : 0 ≤ cnt (J 270) y1
  · rw [if_pos e, u_s1]; exact G0.rf _
  · rw [if_neg e, u_s1]; exact G0.rf _
theorem W_of {X : qX} (y1 y2 : Int32) : P0 X (f_X11_of 64 y1 y2 X) (f_X12_of 269 y1 y2) := by
  intro I J h
  show G0 (f_X11_of 64 y1 y2 X I) (f_X12_of 269 y1 y2 J)
  have hR := h.rv
  have c4 := hR.k4
  unfold f_X11_of f_X12_of f_X12_textAt
  simp only [hR.hasT (a := 64 + 37) rfl, hR.isText, ii_0_2, u_s1, u_ib, ite_not]
  refine G0.ite (fun c1 => ?_) (fun _ => G0.rf _)
  obtain ⟨i, rfl, hi⟩ := u_idx c1 (by omega)
  by_cases c2 : nI 0 ≤ y2 ∧ y2 ≤ nI 2
  · rw [if_pos c2]
    obtain ⟨w, rfl, -, hw⟩ := u_range (by decide) c2.1 c2.2 (by decide)
    rw [show f_X7_row (64 + 37) (nI w) = some (some (102 + w)) by rcases (show w = 0 ∨ w = 1 ∨ w = 2 by omega) with rfl | rfl | rfl <;> decide +kernel, u_s1, u_looked (h.1.k (a := 102 + w) (k := w + 38) (d := (0, 12)) (by omega) (by rcases (show w = 0 ∨ w = 1 ∨ w = 2 by omega) with rfl | rfl | rfl <;> rfl)) (show i < 12 by omega) (by decide), u_s1, u_mul, nI_add, nI_add, u_rd (by omega) (by decide), u_s1]
    rw [h.rv.1 (850 + 200 * i + w) (37 + w) i (vq_text i (by omega) w (by omega)) (fun _ _ _ => by omega) |> fun q => (show I (102 + w) i = J 270 (850 + 200 * i + w) from by rw [← q]; congr 1; omega)]
    exact G0.rf _
  · rw [if_neg c2, show f_X7_row (64 + 37) y2 = some none by
      unfold f_X7_row
      rw [if_neg (u_out c2 (by decide) (by decide) (by decide)), if_neg (u_out c2 (by decide) (by decide) (by decide)), if_neg (u_out c2 (by decide) (by decide) (by decide))], u_s1]
    exact G0.rf _
theorem W_rules {X : qX} (y1 y2 y3 y4 : Int32) : P2 X (f_X11_rules 64 y1 y2 y3 y4 X) (f_X12_rules 269 y1 y2 y3 y4) := by
  intro I J h
  show G2 X I J (f_X11_rules 64 y1 y2 y3 y4 X I) (f_X12_rules 269 y1 y2 y3 y4 J)
  have hR := h.rv
  unfold f_X11_rules f_X12_rules
  simp only [u_within, u_s1, u_ib, ite_not]
  by_cases c1 : nI 0 ≤ y1 ∧ y1 ≤ nI 6
  rotate_left
  · rw [if_neg c1, if_neg (u_out c1 (by decide) (by decide) (by decide)), if_neg (u_out c1 (by decide) (by decide) (by decide)), if_neg (u_out c1 (by decide) (by decide) (by decide)), if_neg (u_out c1 (by decide) (by decide) (by decide)), if_neg (u_out c1 (by decide) (by decide) (by decide)), if_neg (u_out c1 (by decide) (by decide) (by decide)), if_neg (u_out c1 (by decide) (by decide) (by decide))]
    exact h.same _
  rw [if_pos c1, hR.sc0 (a := 64 + 1) rfl]
  obtain ⟨k, rfl, -, hk⟩ := u_range (by decide) c1.1 c1.2 (by decide)
  rcases (show k = 0 ∨ k = 1 ∨ k = 2 ∨ k = 3 ∨ k = 4 ∨ k = 5 ∨ k = 6 by omega) with rfl | rfl | rfl | rfl | rfl | rfl | rfl
  · obtain ⟨r, I', J', g1, g2, -, -, g5, g6⟩ := hR.tv.giv0 (by decide) (a := 64 + 37) rfl y2 y3 y4
    rw [if_pos rfl, g1, g2, u_s2, u_s2]
    exact h.scr g5 g6 rfl
  · obtain ⟨r, I', J', g1, g2, -, -, g5, g6⟩ := hR.tv.giv1 (by decide) (a := 64 + 37) rfl y2 y3 y4
    rw [if_neg (show ¬ nI 1 = nI 0 by decide +kernel), if_pos rfl, g1, g2, u_s2, u_s2]
    exact h.scr g5 g6 rfl
  · obtain ⟨r, I', J', g1, g2, -, -, g5, g6⟩ := hR.tv.giv2 (by decide) (a := 64 + 37) rfl y2 y3 y4
    rw [if_neg (show ¬ nI 2 = nI 0 by decide +kernel), if_neg (show ¬ nI 2 = nI 1 by decide +kernel), if_pos rfl, g1, g2, u_s2, u_s2]
    exact h.scr g5 g6 rfl
  · obtain ⟨r, I', J', g1, g2, -, -, g5, g6⟩ := hR.tv.giv3 (by decide) (a := 64 + 37) rfl y2 y3 y4
    rw [if_neg (show ¬ nI 3 = nI 0 by decide +kernel), if_neg (show ¬ nI 3 = nI 1 by decide +kernel), if_neg (show ¬ nI 3 = nI 2 by decide +kernel), if_pos rfl, g1, g2, u_s2, u_s2]
    exact h.scr g5 g6 rfl
  · obtain ⟨r, I', J', g1, g2, g5, g6⟩ := hR.tv.giv4 (by decide) (a := 64 + 37) rfl y2 y3 y4
    rw [if_neg (show ¬ nI 4 = nI 0 by decide +kernel), if_neg (show ¬ nI 4 = nI 1 by decide +kernel), if_neg (show ¬ nI 4 = nI 2 by decide +kernel), if_neg (show ¬ nI 4 = nI 3 by decide +kernel), if_pos rfl, g1, g2, u_s2, u_s2]
    exact h.scr g5 g6 rfl
  · obtain ⟨r, I', J', g1, g2, g5, g6⟩ := hR.tv.giv5 (by decide) (a := 64 + 37) rfl y2 y3 y4
    rw [if_neg (show ¬ nI 5 = nI 0 by decide +kernel), if_neg (show ¬ nI 5 = nI 1 by decide +kernel), if_neg (show ¬ nI 5 = nI 2 by decide +kernel), if_neg (show ¬ nI 5 = nI 3 by decide +kernel), if_neg (show ¬ nI 5 = nI 4 by decide +kernel), if_pos rfl, g1, g2, u_s2, u_s2]
    exact h.scr g5 g6 rfl
  · obtain ⟨r, I', J', g1, g2, g5, g6⟩ := hR.tv.giv6 (by decide) (a := 64 + 37) rfl y2 y3 y4
    rw [if_neg (show ¬ nI 6 = nI 0 by decide +kernel), if_neg (show ¬ nI 6 = nI 1 by decide +kernel), if_neg (show ¬ nI 6 = nI 2 by decide +kernel), if_neg (show ¬ nI 6 = nI 3 by decide +kernel), if_neg (show ¬ nI 6 = nI 4 by decide +kernel), if_neg (show ¬ nI 6 = nI 5 by decide +kernel), if_pos rfl, g1, hR.tv.counts (nI 6), u_s1, g2, u_s2, u_s2]
    exact h.scr g5 g6 rfl
theorem W_end {X : qX} (y1 y2 y3 y4 : Int32) : P2 X (f_X11_end 64 y1 y2 y3 y4 X) (f_X12_end 269 y1 y2 y3 y4) := by
  intro I J h
  show G2 X I J (f_X11_end 64 y1 y2 y3 y4 X I) (f_X12_end 269 y1 y2 y3 y4 J)
  have hR := h.rv
  unfold f_X11_end f_X12_end f_X10_number
  simp only [u_within, ii_0_3, ii_0_2, ii_0_1, u_s1, u_ib, ite_not]
  refine G2.ite (fun c1 => ?_) (fun _ => h.same _)
  refine G2.ite (fun c2 => ?_) (fun _ => h.same _)
  refine G2.ite (fun c3 => ?_) (fun _ => h.same _)
  refine G2.ite (fun c4 => ?_) (fun _ => h.same _)
  obtain ⟨m, rfl, -, hm⟩ := u_range (by decide) c1.1 c1.2 (by decide)
  obtain ⟨p, rfl, -, hp⟩ := u_range (by decide) c2.1 c2.2 (by decide)
  obtain ⟨t, rfl, -, ht⟩ := u_range (by decide) c3.1 c3.2 (by decide)
  obtain ⟨y, rfl, -, hy⟩ := u_range (by decide) c4.1 c4.2 (by decide)
  simp only [u_mul, nI_add]
  rw [show (m * 4 + p) * 3 + t = 12 * m + 3 * p + t by omega, show 3250 + 12 * m + 3 * p + t = 3250 + (12 * m + 3 * p + t) by omega]
  have hw : 12 * m + 3 * p + t < 48 := by omega
  exact h.exch (vq_way _ hw) rfl (h.1.k (k := 44) rfl rfl) hw (by decide) (rgS_i (rg_w _ hw) (by omega) hy) (hR.dd.up (by simp [dr]; omega) _) (by omega) (by omega) (by omega) (by intro _ _ _; omega)
theorem ii_xy_6 (x y : Int32) : f_X12_isIn y.toInt64 x.toInt64 (6 : Int64) = some (if x ≤ y ∧ y ≤ nI 6 then 1 else 0) := by rw [l64_6, u_isIn32]
theorem W_breach {X : qX} (y1 y2 y3 : Int32) : P2 X (f_X11_breach 64 y1 y2 y3) (f_X12_breach 269 y1 y2 y3) := by
  intro I J h
  show G2 X I J (f_X11_breach 64 y1 y2 y3 I) (f_X12_breach 269 y1 y2 y3 J)
  have hR := h.rv
  have ck := hR.k5
  unfold f_X11_breach f_X12_breach
  simp only [u_within, ii_0_3, ii_0_6, ii_xy_6, u_s1, u_ib, ite_not]
  refine G2.ite (fun c1 => ?_) (fun _ => h.same _)
  refine G2.ite (fun c2 => ?_) (fun _ => h.same _)
  refine G2.ite (fun c3 => ?_) (fun _ => h.same _)
  obtain ⟨a, rfl, -, ha⟩ := u_range (by decide) c1.1 c1.2 (by decide)
  obtain ⟨b, rfl, -, hb⟩ := u_range (by decide) c2.1 c2.2 (by decide)
  obtain ⟨c, rfl, -, hc⟩ := u_range (by decide) c3.1 c3.2 (by omega)
  unfold f_X6_added
  rw [hR.sc5 (a := 64 + 45) rfl, ck.1, u_rd (by decide) (by decide), u_s1, ck.1]
  by_cases c5 : cn (J 270) 5 = 16
  · rw [c5, if_neg Int32.lt_irrefl, u_s2, if_pos rfl]
    exact h.same _
  have hk : cn (J 270) 5 < 16 := by omega
  rw [if_pos (nI_lt hk (by decide)), if_neg (fun q => c5 ((nI_eq (by omega) (by decide)).mp q))]
  have s1 := hR.sc5 (a := 109) rfl
  simp (disch := omega) only [u_wr, u_rd, u_s1, u_s2, u_up_a, u_up_j, ck.1, s1, nI_add, u_mul, u_up_same, u_sub, Nat.add_sub_cancel, Nat.reduceAdd]
  have h1 := hR.up (by decide) (vq_breach _ hk 0 (by decide)) (x := nI a) (rgS_i (rg_b0 _ hk) (by omega) ha) (hR.dd.up (by simp [dr]; omega) _) (by omega) (by omega) (by omega)
  have h2 := h1.up (by decide) (vq_breach _ hk 1 (by decide)) (x := nI b) (rgS_i (rg_b1 _ hk) (by omega) hb) (h1.dd.up (by simp [dr]; omega) _) (by omega) (by omega) (by omega)
  have h3 := h2.up (by decide) (vq_breach _ hk 2 (by decide)) (x := nI c) (rgS_i (rg_b2 _ hk) (by omega) hc) (h2.dd.up (by simp [dr]; omega) _) (by omega) (by omega) (by omega)
  have h4 := h3.up (n := 5) (j' := 0) (by decide) vq_sc.2.2.2.2.2.1 (x := nI (cn (J 270) 5 + 1)) (rgS_i rg_sc.2.2.2.2.2.1 (by omega) (by omega)) (h3.dd.up (by decide) _) (by omega) (by omega) (by omega)
  refine h.put2 ?_ ((((FC.rfl'.up (by decide) (by decide)).up (by decide) (by decide)).up (by decide) (by decide)).up (by decide) (by decide)) ((((GM.rfl'.up (by decide)).up (by decide)).up (by decide)).up (by decide)) rfl
  simp only [up270]
  exact h4
theorem W_choice {X : qX} (y1 y2 y3 : Int32) : P2 X (f_X11_choice 64 y1 y2 y3) (f_X12_choice 269 y1 y2 y3) := by
  intro I J h
  show G2 X I J (f_X11_choice 64 y1 y2 y3 I) (f_X12_choice 269 y1 y2 y3 J)
  have hR := h.rv
  have ck := hR.k6
  unfold f_X11_choice f_X12_choice
  simp only [u_within, ii_0_999, ii_0_99, ii_0_255, u_s1, u_ib, ite_not]
  refine G2.ite (fun c1 => ?_) (fun _ => h.same _)
  refine G2.ite (fun c2 => ?_) (fun _ => h.same _)
  refine G2.ite (fun c3 => ?_) (fun _ => h.same _)
  obtain ⟨a, rfl, -, ha⟩ := u_range (by decide) c1.1 c1.2 (by decide)
  obtain ⟨b, rfl, -, hb⟩ := u_range (by decide) c2.1 c2.2 (by decide)
  obtain ⟨c, rfl, -, hc⟩ := u_range (by decide) c3.1 c3.2 (by decide)
  unfold f_X4_added
  rw [hR.sc6 (a := 64 + 53) rfl, ck.1, u_rd (by decide) (by decide), u_s1, ck.1]
  by_cases c5 : cn (J 270) 6 = 8
  · rw [c5, if_neg Int32.lt_irrefl, u_s2, if_pos rfl]
    exact h.same _
  have hk : cn (J 270) 6 < 8 := by omega
  rw [if_pos (nI_lt hk (by decide)), if_neg (fun q => c5 ((nI_eq (by omega) (by decide)).mp q))]
  have s1 := hR.sc6 (a := 117) rfl
  simp (disch := omega) only [u_wr, u_rd, u_s1, u_s2, u_up_a, u_up_j, ck.1, s1, nI_add, u_mul, u_up_same, u_sub, Nat.add_sub_cancel, Nat.reduceAdd]
  have h1 := hR.up (by decide) (vq_choice _ hk 0 (by decide)) (x := nI a) (rgS_i (rg_c0 _ hk) (by omega) ha) (hR.dd.up (by simp [dr]; omega) _) (by omega) (by omega) (by omega)
  have h2 := h1.up (by decide) (vq_choice _ hk 1 (by decide)) (x := nI b) (rgS_i (rg_c1 _ hk) (by omega) hb) (h1.dd.up (by simp [dr]; omega) _) (by omega) (by omega) (by omega)
  have h3 := h2.up (by decide) (vq_choice _ hk 2 (by decide)) (x := nI c) (rgS_i (rg_c2 _ hk) (by omega) hc) (h2.dd.up (by simp [dr]; omega) _) (by omega) (by omega) (by omega)
  have h4 := h3.up (n := 6) (j' := 0) (by decide) vq_sc.2.2.2.2.2.2.1 (x := nI (cn (J 270) 6 + 1)) (rgS_i rg_sc.2.2.2.2.2.2.1 (by omega) (by omega)) (h3.dd.up (by decide) _) (by omega) (by omega) (by omega)
  refine h.put2 ?_ ((((FC.rfl'.up (by decide) (by decide)).up (by decide) (by decide)).up (by decide) (by decide)).up (by decide) (by decide)) ((((GM.rfl'.up (by decide)).up (by decide)).up (by decide)).up (by decide)) rfl
  simp only [up270]
  exact h4
