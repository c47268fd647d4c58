/-! LEVEL B: draw, strike, fine, stop, let, sell, melt, told, as -/
theorem q_up_comm {I : qI} {a b i k : Nat} {x y : Int32} (h : a ≠ b) : q_up (q_up I a i x) b k y = q_up (q_up I b k y) a i x := by
  funext c n
  by_cases e1 : c = a
  · subst e1
    rw [u_up_a h]
    by_cases e3 : n = i
    · subst e3; rw [u_up_same, u_up_same]
    · rw [u_up_j e3, u_up_j e3, u_up_a h]
  · by_cases e2 : c = b
    · subst e2
      rw [u_up_a (Ne.symm h)]
      by_cases e3 : n = k
      · subst e3; rw [u_up_same, u_up_same]
      · rw [u_up_j e3, u_up_j e3, u_up_a (Ne.symm h)]
    · rw [u_up_a e2, u_up_a e1, u_up_a e1, u_up_a e2]
theorem aD_comm {I : qI} {v c a i : Nat} {x k m am s d : Int32} (h : a < v + 27 ∨ v + 35 < a) : aD (q_up I a i x) v c k m am s d = q_up (aD I v c k m am s d) a i x := by
  unfold aD
  rw [q_up_comm (b := v + 28) (by omega), q_up_comm (b := v + 29) (by omega), q_up_comm (b := v + 30) (by omega), q_up_comm (b := v + 31) (by omega), q_up_comm (b := v + 32) (by omega), q_up_comm (b := v + 33) (by omega), q_up_comm (b := v + 34) (by omega), q_up_comm (b := v + 35) (by omega), q_up_comm (b := v + 27) (by omega)]
theorem aT_o {t : Nat → Int32} {c n : Nat} {k m a s d : Int32} (h : n < 370) (h3 : n ≠ 3) : aT t c k m a s d n = t n := by
  unfold aT
  rw [upd_o (by omega), upd_o (by omega), upd_o (by omega), upd_o (by omega), upd_o (by omega), upd_o (by omega), upd_o (by omega), upd_o (by omega), upd_o (by omega)]
theorem aT_3 {t : Nat → Int32} {c : Nat} {k m a s d : Int32} (h : c < 60) : cn (aT t c k m a s d) 3 = c + 1 := by
  unfold cn aT
  rw [upd_s]
  exact nI_clamp (by omega)
theorem aT_cn {t : Nat → Int32} {c n : Nat} {k m a s d : Int32} (h : n < 370) (h3 : n ≠ 3) : cn (aT t c k m a s d) n = cn t n := by
  unfold cn
  rw [aT_o h h3]
theorem q_min_nI {a z : Nat} (ha : a < 2 ^ 31) (hz : z < 2 ^ 31) : q_min (nI a) (nI z) = nI (min a z) := by
  unfold q_min
  by_cases h : z < a
  · rw [if_pos (nI_lt h ha), Nat.min_eq_right (by omega)]
  · rw [if_neg (nI_nlt (by omega) hz), Nat.min_eq_left (by omega)]
theorem DD.holder {t : Nat → Int32} {j q : Nat} (h : DD t j) (hq : q < 60) (x : Int32) (hx : x ≠ -1 → x.toNatClampNeg < cn t 2) : DD (upd t (370 + 8 * q + 6) x) j := by
  obtain ⟨h0, h1, h2, h3, h4⟩ := h
  unfold DD
  rw [cn_o (by omega), cn_o (by omega), cn_o (by omega), cn_o (by omega)]
  refine ⟨h0, fun i hi => ?_, fun k hk => ?_, fun d hd => ⟨?_, ?_, ?_, ?_⟩, fun p hp => ?_⟩
  · have z := h1 i hi
    rw [upd_o (by omega), cn_o (by omega), cn_o (by omega), upd_o (by omega), upd_o (by omega), upd_o (by omega), cn_o (by omega)]; exact z
  · rw [upd_o (by omega), upd_o (by omega), upd_o (by omega)]; exact h2 k hk
  · rw [upd_o (by omega)]; exact (h3 d hd).1
  · by_cases e : d = q
    · subst e
      unfold cn
      rw [upd_s]; exact hx
    · rw [upd_o (by omega), cn_o (by omega)]; exact (h3 d hd).2.1
  · rw [upd_o (by omega)]; exact (h3 d hd).2.2.1
  · rw [upd_o (by omega), upd_o (by omega)]; exact (h3 d hd).2.2.2
  · rw [upd_o (by omega)]; exact h4 p hp
theorem WW.nd {X : qX} {I J : qI} (h : WW X I J) {y1 y2 y3 : Int32} {M : Nat} (hM : M ≤ 9) (hs : (nI 0 ≤ y3 ∧ y3 ≤ nI 9) → (nI 0 ≤ y3 ∧ y3 ≤ nI M)) : (∃ r, r < 0 ∧ (∀ k, f_X11_newDue 64 k y1 y2 y3 I = some (r, I)) ∧ f_X12_refused 269 y1 y2 y3 (nI M) J = some r) ∨ (∃ m a s, y1 = nI m ∧ m < cn (J 270) 2 ∧ y2 = nI a ∧ (1 ≤ a ∧ a ≤ 999) ∧ y3 = nI s ∧ s ≤ M ∧ cn (J 270) 3 < 60 ∧ (∀ k, f_X11_newDue 64 k y1 y2 y3 I = some (nI (cn (J 270) 3), aD I 65 (cn (J 270) 3) k (nI m) (nI a) (nI s) (J 270 0))) ∧ f_X12_refused 269 y1 y2 y3 (nI M) J = some 0) := by
  have hR := h.rv
  have b := hR.bd
  unfold f_X11_newDue f_X12_refused
  simp only [l64_0, u_isIn32, hR.hasM (a := 64 + 13) rfl, hR.isMan, u_within, u_s1, u_ib, ite_not]
  simp only [ii_1_999, u_s1, u_ib, ite_not]
  by_cases c1 : nI 0 ≤ y1 ∧ y1 < nI (cn (J 270) 2)
  rotate_left
  · simp only [if_neg c1]; exact Or.inl ⟨_, by decide, fun _ => rfl, rfl⟩
  by_cases c2 : nI 1 ≤ y2 ∧ y2 ≤ nI 999
  rotate_left
  · simp only [if_pos c1, if_neg c2]; exact Or.inl ⟨_, by decide, fun _ => rfl, rfl⟩
  by_cases c3 : nI 0 ≤ y3 ∧ y3 ≤ nI 9
  rotate_left
  · simp only [if_pos c1, if_pos c2, if_neg c3, if_neg (show ¬ (nI 0 ≤ y3 ∧ y3 ≤ nI M) from fun q => c3 ⟨q.1, Int32.le_trans q.2 (nI_le hM (by decide))⟩)]; exact Or.inl ⟨_, by decide, fun _ => rfl, rfl⟩
  obtain ⟨m, rfl, hm⟩ := u_idx c1 (by omega)
  obtain ⟨a, rfl, ha1, ha2⟩ := u_range (by decide) c2.1 c2.2 (by decide)
  have c4 := hs c3
  obtain ⟨s, rfl, -, hs2⟩ := u_range (by omega) c4.1 c4.2 (by decide)
  simp only [if_pos c1, if_pos c2, if_pos c3, if_pos c4, hR.gone (a := 64 + 13) rfl (show m < 12 by omega), hR.goneJ (show m < 12 by omega), u_s1]
  by_cases c5 : J 270 (80 + 24 * m + 9) = 0
  rotate_left
  · simp only [if_neg c5]
    rw [if_neg u_one]
    exact Or.inl ⟨_, by decide, fun _ => if_neg u_one, rfl⟩
  simp only [if_pos c5]
  rw [if_pos trivial, u_rd (by decide) (by decide), u_s1, hR.k3.1]
  by_cases c6 : cn (J 270) 3 = 60
  · rw [c6, if_pos rfl]
    refine Or.inl ⟨_, by decide, fun k => ?_, rfl⟩
    rw [if_pos trivial]
    unfold f_X1_added
    rw [hR.sc3 (a := 64 + 28) rfl, hR.k3.1, c6, if_neg Int32.lt_irrefl]
    rfl
  · rw [if_neg (fun q => c6 ((nI_eq (by omega) (by decide)).mp q))]
    refine Or.inr ⟨m, a, s, rfl, hm, rfl, ⟨ha1, ha2⟩, rfl, hs2, by omega, fun k => ?_, by rw [nI_0]⟩
    rw [if_pos trivial, hR.addedD (a := 64 + 28) rfl (by omega), u_s2, hR.sc0 (a := 64 + 1) rfl]
theorem WW.ndx {X : qX} {I J : qI} (h : WW X I J) {y1 y2 y3 : Int32} {M : Nat} (hs : ¬ (nI 0 ≤ y3 ∧ y3 ≤ nI M)) : f_X12_refused 269 y1 y2 y3 (nI M) J = some (-1000000001) := by
  have hR := h.rv
  unfold f_X12_refused
  simp only [l64_0, u_isIn32, hR.isMan, u_s1, u_ib, ite_not]
  simp only [ii_1_999, u_s1, u_ib, ite_not, if_neg hs, ite_self]
theorem W_fs {X : qX} {I J : qI} (h : WW X I J) (y1 y2 y3 : Int32) {k : Nat} (hk : 1 ≤ k ∧ k ≤ 6) : G2 X I J (q_b2 (f_X11_newDue 64 (nI k) y1 y2 y3 I) fun v1 I2 => some (v1, I2)) (q_b1 (f_X12_refused 269 y1 y2 y3 (nI 9) J) fun v1 => if v1 = 0 then q_b2 (f_X12_newDue 269 (nI k) y1 y2 y3 J) fun v4 I5 => some (v4, I5) else some (v1, J)) := by
  have hR := h.rv
  rcases h.nd (y1 := y1) (y2 := y2) (y3 := y3) (M := 9) (by decide) id with ⟨r, hr, e1, e2⟩ | ⟨m, a, s, rfl, hm, rfl, ha, rfl, hs, hc, e1, e2⟩
  · rw [e1, e2, u_s2, u_s1, if_neg (fun q => by rw [q] at hr; exact absurd hr Int32.lt_irrefl)]
    exact h.same _
  · rw [e1, e2, u_s2, u_s1, if_pos rfl, hR.newDueJ hc, u_s2]
    refine h.put2 ?_ (aD_FC _ _ _ _ _ _ _ _) (nD_GM _ _ _ _ _ _ _) rfl
    rw [nD_270]
    exact hR.addDue (by decide) rfl hc hk _ (by omega) _ _
theorem W_fine {X : qX} (y1 y2 y3 : Int32) : P2 X (f_X11_fine 64 y1 y2 y3) (f_X12_fine 269 y1 y2 y3) := fun I J h => W_fs h y1 y2 y3 (k := 4) (by decide)
theorem W_stop {X : qX} (y1 y2 y3 : Int32) : P2 X (f_X11_stop 64 y1 y2 y3) (f_X12_stop 269 y1 y2 y3) := fun I J h => W_fs h y1 y2 y3 (k := 5) (by decide)
theorem W_strike {X : qX} (y1 y2 : Int32) : P2 X (f_X11_strike 64 y1 y2) (f_X12_strike 269 y1 y2) := by
  intro I J h
  show G2 X I J (f_X11_strike 64 y1 y2 I) (f_X12_strike 269 y1 y2 J)
  have hR := h.rv
  have b := hR.bd
  unfold f_X11_strike f_X12_strike f_X12_dueAt
  rcases h.nd (y1 := y1) (y2 := y2) (y3 := nI 0) (M := 0) (by decide) (fun _ => ⟨Int32.le_refl _, Int32.le_refl _⟩) with ⟨r, hr, e1, e2⟩ | ⟨m, a, s, rfl, hm, rfl, ha, e3, hs, hc, e1, e2⟩
  · rw [e1, e2, u_s2, u_s1, if_pos hr, if_neg (fun q => by rw [q] at hr; exact absurd hr Int32.lt_irrefl)]
    exact h.same _
  · rw [e1, e2, u_s2, u_s1, if_pos rfl, hR.newDueJ hc, u_s2, if_neg (nI_pos (by omega)), u_wr hc (by decide), u_s1, u_s1, u_mul, nI_add, nI_add, u_wr (by omega) (by decide), u_s1]
    have e0 : nI s = nI 0 := e3.symm
    rw [e0]
    have h2 := hR.addDue (by decide) rfl hc (k := 3) (by decide) (nI m) (a := a) (by omega) (nI 0) (J 270 0)
    refine h.put2 ?_ ((aD_FC _ _ _ _ _ _ _ _).up (by decide) (by decide)) ((nD_GM _ _ _ _ _ _ _).up (by decide)) rfl
    rw [up270, nD_270]
    refine h2.hold (by decide) hc (x := nI m) (y := nI m) (by rw [if_neg (fun q => by have := nI_pos (n := m) (by omega); rw [q] at this; exact this (by decide))]) ((rgS_t (rg_d6 _ hc)).mpr (Or.inr ⟨m, rfl, by omega, by omega⟩)) (h2.dd.holder hc _ (fun _ => ?_))
    rw [nI_clamp (by omega), aT_cn (by decide) (by decide)]
    exact hm
theorem W_draw {X : qX} (y1 y2 y3 : Int32) : P2 X (f_X11_draw 64 y1 y2 y3) (f_X12_draw 269 y1 y2 y3) := by
  intro I J h
  show G2 X I J (f_X11_draw 64 y1 y2 y3 I) (f_X12_draw 269 y1 y2 y3 J)
  have hR := h.rv
  have b := hR.bd
  unfold f_X11_draw f_X12_draw b_X12_draw_29
  simp only [u_within, u_s1, u_ib, ite_not]
  by_cases c : nI 0 ≤ y3 ∧ y3 ≤ nI 1
  rotate_left
  · rw [if_neg c, h.ndx c, u_s1, if_neg (by decide)]
    exact h.same _
  rw [if_pos c]
  rcases h.nd (y1 := y1) (y2 := y2) (y3 := y3) (M := 1) (by decide) (fun _ => c) with ⟨r, hr, e1, e2⟩ | ⟨m, a, s, rfl, hm, rfl, ha, rfl, hs, hc, e1, e2⟩
  · rw [e1, e2, u_s2, u_s1, if_neg (Int32.not_le.mpr hr), if_neg (fun q => by rw [q] at hr; exact absurd hr Int32.lt_irrefl)]
    exact h.same _
  rw [e1, e2, u_s2, u_s1, if_pos (nI_pos' (by omega)), if_pos rfl]
  have h2 := hR.addDue (by decide) rfl hc (k := 2) (by decide) (nI m) (a := a) (by omega) (nI s) (J 270 0)
  refine G2.ite (fun e => ?_) (fun e => ?_)
  · rw [h2.getChecks (a := 64 + 13) rfl (by omega), u_s1, RV.getsJ (by omega) (by decide), u_s1, aT_o (by omega) (by omega)]
    obtain ⟨k1, -, k2⟩ := hR.r_m5 (m := m) (by omega)
    have h3 := hR.up (by decide) (vq_man m (by omega) 5 (by decide)) (x := q_min (nI 99999) (J 270 (80 + 24 * m + 5) + nI a)) (by rw [k1, nI_add, q_min_nI (by decide) (by omega)]; exact rgS_i (rg_m5 m (by omega)) (by omega) (by omega)) (hR.dd.up (by simp [dr]; omega) _) (by omega) (by omega) (by omega)
    have h4 : RV X 65 (q_up I (65 + (13 + 5)) m (q_min (nI 99999) (J 270 (80 + 24 * m + 5) + nI a))) (q_up J 270 (80 + 24 * m + 5) (q_min (nI 99999) (J 270 (80 + 24 * m + 5) + nI a)) 270) 0 := by rw [up270]; exact h3
    have hc' : cn (q_up J 270 (80 + 24 * m + 5) (q_min (nI 99999) (J 270 (80 + 24 * m + 5) + nI a)) 270) 3 = cn (J 270) 3 := by rw [up270, cn_o (by omega)]
    rw [h4.newDueJ (by omega), u_s2, hc']
    refine h.put2 ?_ ((aD_FC _ _ _ _ _ _ _ _).up (by decide) (by decide)) ((GM.rfl'.up (by decide)).tr (nD_GM _ _ _ _ _ _ _)) rfl
    have h5 := h4.addDue (by decide) hc' hc (k := 2) (by decide) (nI m) (a := a) (by omega) (nI s) (J 270 0)
    rw [aD_comm (by omega)] at h5
    rw [nD_270, show q_up J 270 (80 + 24 * m + 5) (q_min (nI 99999) (J 270 (80 + 24 * m + 5) + nI a)) 270 0 = J 270 0 from u_up_j (by omega)]
    exact h5
  · rw [h2.getCoin (a := 64 + 13) rfl (by omega), u_s1, RV.getsJ (by omega) (by decide), u_s1, aT_o (by omega) (by omega)]
    obtain ⟨k1, -, k2⟩ := hR.r_m4 (m := m) (by omega)
    have h3 := hR.up (by decide) (vq_man m (by omega) 4 (by decide)) (x := q_min (nI 99999) (J 270 (80 + 24 * m + 4) + nI a)) (by rw [k1, nI_add, q_min_nI (by decide) (by omega)]; exact rgS_i (rg_m4 m (by omega)) (by omega) (by omega)) (hR.dd.up (by simp [dr]; omega) _) (by omega) (by omega) (by omega)
    have h4 : RV X 65 (q_up I (65 + (13 + 4)) m (q_min (nI 99999) (J 270 (80 + 24 * m + 4) + nI a))) (q_up J 270 (80 + 24 * m + 4) (q_min (nI 99999) (J 270 (80 + 24 * m + 4) + nI a)) 270) 0 := by rw [up270]; exact h3
    have hc' : cn (q_up J 270 (80 + 24 * m + 4) (q_min (nI 99999) (J 270 (80 + 24 * m + 4) + nI a)) 270) 3 = cn (J 270) 3 := by rw [up270, cn_o (by omega)]
    rw [h4.newDueJ (by omega), u_s2, hc']
    refine h.put2 ?_ ((aD_FC _ _ _ _ _ _ _ _).up (by decide) (by decide)) ((GM.rfl'.up (by decide)).tr (nD_GM _ _ _ _ _ _ _)) rfl
    have h5 := h4.addDue (by decide) hc' hc (k := 2) (by decide) (nI m) (a := a) (by omega) (nI s) (J 270 0)
    rw [aD_comm (by omega)] at h5
    rw [nD_270, show q_up J 270 (80 + 24 * m + 4) (q_min (nI 99999) (J 270 (80 + 24 * m + 4) + nI a)) 270 0 = J 270 0 from u_up_j (by omega)]
    exact h5
theorem W_let {X : qX} (y1 : Int32) : P2 X (f_X11_let 64 y1) (f_X12_let 269 y1) := by
  intro I J h
  show G2 X I J (f_X11_let 64 y1 I) (f_X12_let 269 y1 J)
  have hR := h.rv
  have b := hR.bd
  unfold f_X11_let f_X12_let b_X11_let_43 b_X11_let_82 b_X12_let_41 b_X12_let_78 f_X12_dueAt
  simp only [hR.hasD (a := 64 + 28) rfl, hR.isDue, u_s1, u_ib, ite_not]
  refine G2.ite (fun c1 => ?_) (fun _ => h.same _)
  obtain ⟨d, rfl, hd⟩ := u_idx c1 (by omega)
  have hd6 : d < 60 := by omega
  have one : ∀ x : Int32, G2 X I J (some (nI 1, q_up I 98 d x)) (some (nI 1, q_up J 270 (370 + 8 * d + 5) x)) := fun x =>
    h.one (vq_due d hd6 5 (by decide) (by decide)) rfl (rgS_n (rn_d5 d hd6)) (hR.dd.up (by simp [dr]; omega) _) (by omega) (by omega) (by omega) rfl
  rw [u_rd hd6 (by decide), u_rd hd6 (by decide), u_s1, u_s1, hR.d0 (a := 64 + 29) rfl hd6, hR.d5 (a := 64 + 34) rfl hd6]
  simp only [u_mul, nI_add]
  rw [u_rd (show 370 + 8 * d < 3580 by omega) (by decide), u_rd (show 370 + 8 * d + 5 < 3580 by omega) (by decide)]
  simp only [u_s1]
  rw [u_wr hd6 (by decide), u_wr hd6 (by decide), u_wr (show 370 + 8 * d + 5 < 3580 by omega) (by decide), u_wr (show 370 + 8 * d + 5 < 3580 by omega) (by decide)]
  simp only [u_s1]
  refine G2.ite (fun c2 => ?_) (fun c2 => ?_)
  · refine G2.ite (fun c3 => ?_) (fun _ => h.same _)
    exact G2.ite (fun _ => one _) (fun _ => one _)
  · refine G2.ite (fun c4 => ?_) (fun _ => h.same _)
    refine G2.ite (fun c3 => ?_) (fun _ => h.same _)
    exact G2.ite (fun _ => one _) (fun _ => one _)
