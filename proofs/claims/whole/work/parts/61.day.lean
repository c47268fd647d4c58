/-! LEVEL B: a day -/
theorem dg_lp {X : qX} {v : Nat} {x1 x2 x3 : Int32} {K : Int32 → qI → Option qI} (hv : v ≤ 195) : ∀ r fC fM i (I J : qI), i + r = cn (J 270) 2 → r < fC → r < fM → RV X v I (J 270) i → ∃ I' J', q_fix (fun _ _ _ => none) (b_X9_goBy_10 v x1 x2 X K) fC x3 (nI i) I = q_fix (fun _ _ _ => none) (b_X9_goBy_49 v x1 x2 X K) q_fu x3 (nI 0) I' ∧ q_fix (fun _ _ => none) (b_X12_oneDay_2 269) fM (nI i) J = q_fix (fun _ _ => none) (b_X12_oneDay_33 269) q_fu (nI 0) J' ∧ RD X v 12 I J I' J' := by
  intro r
  induction r with
  | zero =>
    intro fC fM i I J h1 h2 h3 h
    obtain ⟨fC, rfl⟩ : ∃ z, fC = z + 1 := ⟨fC - 1, by omega⟩
    obtain ⟨fM, rfl⟩ : ∃ z, fM = z + 1 := ⟨fM - 1, by omega⟩
    have e : i = cn (J 270) 2 := by omega
    have b := h.bd
    subst e
    refine ⟨I, J, ?_, ?_, RD.rf (h.slack (by omega))⟩
    · show b_X9_goBy_10 v x1 x2 X K (q_fix _ _ fC) x3 (nI _) _ = _
      unfold b_X9_goBy_10
      rw [h.sc2 rfl, h.k2.1, if_pos (Int32.le_refl _)]
    · show b_X12_oneDay_2 269 (q_fix _ _ fM) (nI _) J = _
      unfold b_X12_oneDay_2
      rw [u_rd (by decide) (by decide), u_s1, h.k2.1, if_pos (Int32.le_refl _)]
  | succ r ih =>
    intro fC fM i I J h1 h2 h3 h
    obtain ⟨fC, rfl⟩ : ∃ z, fC = z + 1 := ⟨fC - 1, by omega⟩
    obtain ⟨fM, rfl⟩ : ∃ z, fM = z + 1 := ⟨fM - 1, by omega⟩
    have b := h.bd
    have hi : i < 12 := by omega
    have ih' := fun I J => ih fC fM (i + 1) I J
    show ∃ I' J', b_X9_goBy_10 v x1 x2 X K (q_fix (fun _ _ _ => none) (b_X9_goBy_10 v x1 x2 X K) fC) x3 (nI i) I = _ ∧ b_X12_oneDay_2 269 (q_fix (fun _ _ => none) (b_X12_oneDay_2 269) fM) (nI i) J = _ ∧ _
    generalize q_fix (fun _ _ _ => none) (b_X9_goBy_10 v x1 x2 X K) fC = KC at ih' ⊢
    generalize q_fix (fun _ _ => none) (b_X12_oneDay_2 269) fM = KM at ih' ⊢
    unfold b_X9_goBy_10 b_X9_goBy_40 b_X12_oneDay_2 b_X12_oneDay_25
    rw [h.sc2 rfl, h.k2.1, if_neg (nI_ge (by omega) (by omega)), h.gone rfl hi, u_s1, nI_add]
    rw [u_rd (by decide) (by decide), u_s1, h.k2.1, if_neg (nI_ge (by omega) (by omega)), h.goneJ hi, u_s1]
    by_cases c1 : J 270 (80 + 24 * i + 9) = 0
    rotate_left
    · simp only [if_neg c1]
      rw [if_neg u_one, if_neg u_one]
      exact ih' I J (by omega) (by omega) (by omega) (h.slack (by omega))
    simp only [if_pos c1]
    rw [if_pos trivial, if_pos trivial]
    obtain ⟨I1, J1, g1, g2, g3⟩ := dig_pair h hv (by omega) (m := i) (by omega)
    rw [g1, u_s1, g2, u_s1]
    obtain ⟨I', J', k1, k2, k3⟩ := ih' I1 J1 (by rw [g3.c (by decide)]; omega) (by omega) (by omega) g3.1
    exact ⟨I', J', k1, k2, g3.tr k3⟩
theorem et_lp {X : qX} {v : Nat} {x1 x2 x3 : Int32} {K : Int32 → qI → Option qI} (hv : v ≤ 195) : ∀ r fC fM i (I J : qI), i + r = cn (J 270) 2 → r < fC → r < fM → RV X v I (J 270) 12 → ∃ I' J', q_fix (fun _ _ _ => none) (b_X9_goBy_49 v x1 x2 X K) fC x3 (nI i) I = q_fix (fun _ _ _ => none) (b_X9_goBy_88 v x1 x2 X K) q_fu x3 (nI 0) I' ∧ q_fix (fun _ _ => none) (b_X12_oneDay_33 269) fM (nI i) J = q_fix (fun _ _ => none) (b_X12_oneDay_64 269) q_fu (nI 0) J' ∧ RE X v 12 I J I' J' := by
  intro r
  induction r with
  | zero =>
    intro fC fM i I J h1 h2 h3 h
    obtain ⟨fC, rfl⟩ : ∃ z, fC = z + 1 := ⟨fC - 1, by omega⟩
    obtain ⟨fM, rfl⟩ : ∃ z, fM = z + 1 := ⟨fM - 1, by omega⟩
    have e : i = cn (J 270) 2 := by omega
    subst e
    refine ⟨I, J, ?_, ?_, RE.rf h⟩
    · show b_X9_goBy_49 v x1 x2 X K (q_fix _ _ fC) x3 (nI _) _ = _
      unfold b_X9_goBy_49
      rw [h.sc2 rfl, h.k2.1, if_pos (Int32.le_refl _)]
    · show b_X12_oneDay_33 269 (q_fix _ _ fM) (nI _) J = _
      unfold b_X12_oneDay_33
      rw [u_rd (by decide) (by decide), u_s1, h.k2.1, if_pos (Int32.le_refl _)]
  | succ r ih =>
    intro fC fM i I J h1 h2 h3 h
    obtain ⟨fC, rfl⟩ : ∃ z, fC = z + 1 := ⟨fC - 1, by omega⟩
    obtain ⟨fM, rfl⟩ : ∃ z, fM = z + 1 := ⟨fM - 1, by omega⟩
    have b := h.bd
    have hi : i < 12 := by omega
    have ih' := fun I J => ih fC fM (i + 1) I J
    show ∃ I' J', b_X9_goBy_49 v x1 x2 X K (q_fix (fun _ _ _ => none) (b_X9_goBy_49 v x1 x2 X K) fC) x3 (nI i) I = _ ∧ b_X12_oneDay_33 269 (q_fix (fun _ _ => none) (b_X12_oneDay_33 269) fM) (nI i) J = _ ∧ _
    generalize q_fix (fun _ _ _ => none) (b_X9_goBy_49 v x1 x2 X K) fC = KC at ih' ⊢
    generalize q_fix (fun _ _ => none) (b_X12_oneDay_33 269) fM = KM at ih' ⊢
    unfold b_X9_goBy_49 b_X9_goBy_79 b_X12_oneDay_33 b_X12_oneDay_56
    rw [h.sc2 rfl, h.k2.1, if_neg (nI_ge (by omega) (by omega)), h.gone rfl hi, u_s1, nI_add]
    rw [u_rd (by decide) (by decide), u_s1, h.k2.1, if_neg (nI_ge (by omega) (by omega)), h.goneJ hi, u_s1]
    by_cases c1 : J 270 (80 + 24 * i + 9) = 0
    rotate_left
    · simp only [if_neg c1]
      rw [if_neg u_one, if_neg u_one]
      exact ih' I J (by omega) (by omega) (by omega) h
    obtain ⟨I1, J1, g1, g2, g3⟩ := eat_pair h hv (by omega) (m := i) (by omega) c1
    simp only [if_pos c1]
    rw [if_pos trivial, if_pos trivial, g1, u_s1, g2, u_s1]
    obtain ⟨I', J', k1, k2, k3⟩ := ih' I1 J1 (by rw [g3.c (by decide)]; omega) (by omega) (by omega) g3.1
    exact ⟨I', J', k1, k2, g3.tr k3⟩
theorem ns_C {X : qX} {v j : Nat} {x1 x2 x3 : Int32} {K : Int32 → qI → Option qI} {t : Nat → Int32} {I0 : qI} (h0 : RV X v I0 t j) (hv : v ≤ 195) : ∀ r f k (I : qI), k + r = cn t 1 → r < f → RV X v I (nwT t (nqC k 0)) j → ∃ I' KC, q_fix (fun _ _ _ => none) (b_X9_goBy_88 v x1 x2 X K) f x3 (nI k) I = b_X9_goBy_88 v x1 x2 X K KC x3 (nI (cn t 1)) I' ∧ RV X v I' (nwT t (nqC (cn t 1) 0)) j ∧ FC v I I' := by
  intro r
  induction r with
  | zero =>
    intro f k I h1 h2 h
    obtain ⟨f, rfl⟩ : ∃ z, f = z + 1 := ⟨f - 1, by omega⟩
    have e : k = cn t 1 := by omega
    subst e
    exact ⟨I, _, rfl, h, FC.rfl'⟩
  | succ r ih =>
    intro f k I h1 h2 h
    obtain ⟨f, rfl⟩ : ∃ z, f = z + 1 := ⟨f - 1, by omega⟩
    have b := h0.bd
    obtain ⟨I1, g1, g2, g3⟩ := spr h0 hv (k := k) (by omega) h
    obtain ⟨I', KC, k1, k2, k3⟩ := ih f (k + 1) I1 (by omega) (by omega) g2
    refine ⟨I', KC, ?_, k2, g3.tr k3⟩
    rw [← k1]
    show b_X9_goBy_88 v x1 x2 X K (q_fix (fun _ _ _ => none) (b_X9_goBy_88 v x1 x2 X K) f) x3 (nI k) I = _
    generalize q_fix (fun _ _ _ => none) (b_X9_goBy_88 v x1 x2 X K) f = KC'
    unfold b_X9_goBy_88
    rw [h.sc1 rfl, h.k1.1, nw_cn (by omega), if_neg (nI_ge (by omega) (by omega)), g1, u_s1, nI_add]
theorem ns_72 {t : Nat → Int32} {p : Nat} {K64 : Int32 → qI → Option qI} (hp : p < 8) (h1' : t 1 = nI (cn t 1)) (hc6 : cn t 1 ≤ 6) (h2 : t 2 = nI (cn t 2)) (hc12 : cn t 2 ≤ 12) (hR : ∀ m, m < 12 → (t (80 + 24 * m) = nI (cn t (80 + 24 * m)) ∧ cn t (80 + 24 * m) < 8)) (hg : ∀ m, m < 12 → (t (80 + 24 * m + 9) = 0 ∨ t (80 + 24 * m + 9) = 1)) : ∀ r f k (J : qI), k + r = cn t 1 → r < f → J 270 = nwT t (nqM t (cn t 1) p k 0) → ∃ J', q_fix (fun _ _ _ => none) (b_X12_oneDay_72 269 K64) f (nI p) (nI k) J = K64 (nI (p + 1)) J' ∧ J' 270 = nwT t (nqM t (cn t 1) (p + 1) 0 0) ∧ GM J J' := by
  intro r
  induction r with
  | zero =>
    intro f k J h1 h3 hJ
    obtain ⟨f, rfl⟩ : ∃ z, f = z + 1 := ⟨f - 1, by omega⟩
    have e : k = cn t 1 := by omega
    refine ⟨J, ?_, ?_, GM.rfl'⟩
    · show b_X12_oneDay_72 269 K64 (q_fix _ _ f) (nI p) (nI k) J = _
      unfold b_X12_oneDay_72
      rw [u_rd (by decide) (by decide), u_s1, show J (269 + 1) 1 = nI (cn t 1) by rw [show J (269 + 1) = _ from hJ, nw_o (by omega), ← h1'], e, if_pos (Int32.le_refl _), nI_add]
    · rw [hJ, e]
      exact nw_cg (fun m k' hm _ => by unfold nqM; congr 1; exact propext ⟨fun z => by omega, fun z => by omega⟩)
  | succ r ih =>
    intro f k J h1 h3 hJ
    obtain ⟨f, rfl⟩ : ∃ z, f = z + 1 := ⟨f - 1, by omega⟩
    obtain ⟨J1, g1, g2, g3⟩ := nM hp (k := k) (by omega) (by omega) h2 hc12 hR hg hJ
    obtain ⟨J', k1, k2, k3⟩ := ih f (k + 1) J1 (by omega) (by omega) g2
    refine ⟨J', ?_, k2, g3.tr k3⟩
    show b_X12_oneDay_72 269 K64 (q_fix _ _ f) (nI p) (nI k) J = _
    unfold b_X12_oneDay_72
    rw [u_rd (by decide) (by decide), u_s1, show J (269 + 1) 1 = nI (cn t 1) by rw [show J (269 + 1) = _ from hJ, nw_o (by omega), ← h1'], if_neg (nI_ge (by omega) (by omega)), g1, u_s1, nI_add]
    exact k1
theorem ns_64 {t : Nat → Int32} (h1' : t 1 = nI (cn t 1)) (hc6 : cn t 1 ≤ 6) (h2 : t 2 = nI (cn t 2)) (hc12 : cn t 2 ≤ 12) (hR : ∀ m, m < 12 → (t (80 + 24 * m) = nI (cn t (80 + 24 * m)) ∧ cn t (80 + 24 * m) < 8)) (hg : ∀ m, m < 12 → (t (80 + 24 * m + 9) = 0 ∨ t (80 + 24 * m + 9) = 1)) : ∀ r f p (J : qI), p + r = 8 → r < f → J 270 = nwT t (nqM t (cn t 1) p 0 0) → ∃ J' KM, q_fix (fun _ _ => none) (b_X12_oneDay_64 269) f (nI p) J = b_X12_oneDay_64 269 KM (nI 8) J' ∧ J' 270 = nwT t (nqM t (cn t 1) 8 0 0) ∧ GM J J' := by
  intro r
  induction r with
  | zero =>
    intro f p J h1 h3 hJ
    obtain ⟨f, rfl⟩ : ∃ z, f = z + 1 := ⟨f - 1, by omega⟩
    have e : p = 8 := by omega
    subst e
    exact ⟨J, _, rfl, hJ, GM.rfl'⟩
  | succ r ih =>
    intro f p J h1 h3 hJ
    obtain ⟨f, rfl⟩ : ∃ z, f = z + 1 := ⟨f - 1, by omega⟩
    obtain ⟨J1, g1, g2, g3⟩ := ns_72 (K64 := q_fix (fun _ _ => none) (b_X12_oneDay_64 269) f) (p := p) (by omega) h1' hc6 h2 hc12 hR hg (cn t 1) q_fu 0 J (Nat.zero_add _) (by have := q_fu1; omega) hJ
    obtain ⟨J', KM, k1, k2, k3⟩ := ih f (p + 1) J1 (by omega) (by omega) g2
    refine ⟨J', KM, ?_, k2, g3.tr k3⟩
    rw [← k1, ← g1]
    show b_X12_oneDay_64 269 (q_fix (fun _ _ => none) (b_X12_oneDay_64 269) f) (nI p) J = _
    unfold b_X12_oneDay_64
    rw [if_neg (nI_ge (by omega) (by decide))]
theorem DD.day {t : Nat → Int32} (h : DD t 12) {d : Nat} (hd : cn t 0 = d) (hd9 : d < 7099) : DD (upd t 0 (nI (d + 1))) 0 := by
  obtain ⟨h0, h1, h2, h3, h4⟩ := h
  have e : cn (upd t 0 (nI (d + 1))) 0 = d + 1 := by unfold cn; rw [upd_s]; exact nI_clamp (by omega)
  unfold DD
  rw [e, cn_o (by omega), cn_o (by omega), cn_o (by omega)]
  refine ⟨h0, fun i hi => ?_, fun k hk => ?_, fun q hq => ?_, fun p hp => ?_⟩
  · have z := h1 i hi
    rw [upd_o (by omega), cn_o (by omega), cn_o (by omega), upd_o (by omega), upd_o (by omega), upd_o (by omega), cn_o (by omega)]; exact z
  · rw [upd_o (by omega), upd_o (by omega), upd_o (by omega)]; exact h2 k hk
  · rw [upd_o (by omega), upd_o (by omega), cn_o (by omega), upd_o (by omega)]
    have z := h3 q hq
    exact ⟨z.1, z.2.1, z.2.2.1.le (by omega), z.2.2.2⟩
  · rw [upd_o (by omega)]; exact (h4 p hp).le (by omega)
def RF (X : qX) (v d : Nat) (I J I' J' : qI) : Prop := RV X v I' (J' 270) 0 ∧ FC v I I' ∧ GM J J' ∧ J' 270 0 = nI d ∧ ∀ n, ((1 ≤ n ∧ n < 10) ∨ 850 ≤ n) → J' 270 n = J 270 n
theorem RF.tr {X : qX} {v d d' : Nat} {I J I' J' I'' J'' : qI} (h : RF X v d I J I' J') (h' : RF X v d' I' J' I'' J'') : RF X v d' I J I'' J'' := ⟨h'.1, h.2.1.tr h'.2.1, h.2.2.1.tr h'.2.2.1, h'.2.2.2.1, fun n hn => (h'.2.2.2.2 n hn).trans (h.2.2.2.2 n hn)⟩
theorem day_pair {X : qX} {v : Nat} {x1 x2 x3 : Int32} {K : Int32 → qI → Option qI} {I J : qI} (h : RV X v I (J 270) 0) (hv : v ≤ 195) (hd : cn (J 270) 0 < 6999 ∨ (130 < v ∧ cn (J 270) 0 < 7099)) (hb : (x2 = 0 ∧ J 269 25 = 0) ∨ (¬ x2 = 0 ∧ ¬ J 269 25 = 0)) : ∃ I' J', q_fix (fun _ _ _ => none) (b_X9_goBy_10 v x1 x2 X K) q_fu x3 (nI 0) I = K (x3 + nI 1) I' ∧ f_X12_oneDay 269 J = some J' ∧ RF X v (cn (J 270) 0 + 1) I J I' J' := by
  have b := h.bd
  have fu : ∀ {n : Nat}, n ≤ 60 → n < q_fu := fun hn => by have := q_fu1; omega
  unfold f_X12_oneDay
  obtain ⟨I1, J1, a1, a2, a3⟩ := dg_lp (x1 := x1) (x2 := x2) (x3 := x3) (K := K) hv (cn (J 270) 2) q_fu q_fu 0 I J (Nat.zero_add _) (fu (by omega)) (fu (by omega)) h
  obtain ⟨I2, J2, b1, b2, b3⟩ := et_lp (x1 := x1) (x2 := x2) (x3 := x3) (K := K) hv (cn (J1 270) 2) q_fu q_fu 0 I1 J1 (Nat.zero_add _) (fu (by have := a3.1.bd; omega)) (fu (by have := a3.1.bd; omega)) a3.1
  have d2 := a3.re.tr b3
  have h2 := d2.1
  have bb := h2.bd
  have e0 : nwT (J2 270) (nqC 0 0) = J2 270 := nw_0 (fun m k _ _ => by unfold nqC; exact decide_eq_false (by omega))
  have e0' : nwT (J2 270) (nqM (J2 270) (cn (J2 270) 1) 0 0 0) = J2 270 := nw_0 (fun m k _ _ => by unfold nqM; exact decide_eq_false (by omega))
  obtain ⟨I3, KC, c1, c2, c3⟩ := ns_C (x1 := x1) (x2 := x2) (x3 := x3) (K := K) h2 hv (cn (J2 270) 1) q_fu 0 I2 (Nat.zero_add _) (fu (by omega)) (by rw [e0]; exact h2)
  obtain ⟨J3, KM, f1, f2, f3⟩ := ns_64 h2.k1.1 bb.1 h2.k2.1 bb.2.1 (fun m hm => h2.pp hm) (fun m hm => h2.is01 (rg_m9 m hm)) 8 q_fu 0 J2 (by decide) (fu (by decide)) e0'.symm
  have e1 : nwT (J2 270) (nqM (J2 270) (cn (J2 270) 1) 8 0 0) = nwT (J2 270) (nqC (cn (J2 270) 1) 0) := nw_cg (fun m k hm _ => by
    have := (h2.pp (m := m) (by omega)).2
    unfold nqM nqC; congr 1; exact propext ⟨fun z => by omega, fun z => by omega⟩)
  have h3 : RV X v I3 (J3 270) 12 := by rw [f2, e1]; exact c2
  have d3 : RE X v 12 I J I3 J3 := d2.tr ⟨h3, c3, f3, fun n hn => by rw [f2, nw_o (by omega)]⟩
  have day0 : J3 270 0 = J 270 0 := d3.2.2.2 0 (Or.inl (by decide))
  rw [a1, b1, c1, a2, b2, f1]
  -- the end of the day
  have fin : ∀ I4 J4, RE X v 12 I J I4 J4 → ∃ I' J', b_X9_goBy_129 v x1 x2 X K x3 I4 = K (x3 + nI 1) I' ∧ b_X12_oneDay_118 269 J4 = some J' ∧ RF X v (cn (J 270) 0 + 1) I J I' J' := by
    intro I4 J4 d4
    have h4 := d4.1
    have c4 : cn (J4 270) 0 = cn (J 270) 0 := d4.c (by decide)
    unfold b_X9_goBy_129 b_X12_oneDay_118
    rw [u_s1, h4.sc0 (a := v) (by omega), u_rd (show 0 < 3580 by decide) (by decide), u_s1, show J4 (269 + 1) = J4 270 from rfl, h4.k0.1, c4, nI_add, u_wr (show 0 < 3580 by decide) (by decide), u_s1]
    have h5 := h4.up (n := 0) (j' := 0) hv vq_sc.1 (x := nI (cn (J 270) 0 + 1)) (rgS_i rg_sc.1 (by omega) (by omega)) (h4.dd.day c4 (by omega)) (by omega) (by omega) (by omega) (fun _ hv0 => ⟨_, rfl, by omega, by omega⟩)
    refine ⟨_, _, rfl, rfl, ?_, d4.2.1.up (by omega) (by omega), d4.2.2.1.up (by decide), ?_, fun n hn => ?_⟩
    · rw [show (269 + 1 : Nat) = 270 from rfl, up270]; exact h5
    · rw [show (269 + 1 : Nat) = 270 from rfl, up270, upd_s]
    · rw [show (269 + 1 : Nat) = 270 from rfl, up270, upd_o (by omega)]
      exact d4.2.2.2 n (by omega)
  unfold b_X9_goBy_88 b_X12_oneDay_64
  rw [h3.sc1 rfl, show J3 270 1 = nI (cn (J2 270) 1) by rw [f2, nw_o (by omega)]; exact h2.k1.1, if_pos (Int32.le_refl _), h3.sc0 (a := v) (by omega), if_pos (Int32.le_refl _), u_rd (show 0 < 3580 by decide) (by decide), u_s1, show J3 (269 + 1) = J3 270 from rfl]
  by_cases c : q_rem (J3 270 0) (nI 7) = nI 6
  · rw [if_pos c, if_pos c]
    obtain ⟨I4, J4, l1, l2, l3⟩ := week_pair (x1 := x2) h3 hv (by omega) (by rw [d3.2.2.1.2 25 (by decide)]; exact hb)
    rw [l1, u_s1, l2, u_s1]
    exact fin I4 J4 (d3.tr l3)
  · rw [if_neg c, if_neg c]
    exact fin I3 J3 d3
/-- so many days, as the model goes -/
def oD : Nat → qI → Option qI
  | 0, J => some J
  | n + 1, J => q_b1 (f_X12_oneDay 269 J) (oD n)
theorem go_lp {X : qX} {v n : Nat} {x2 : Int32} (hn : n < 2 ^ 31) (hv : v ≤ 195) : ∀ r f i (I J : qI), i + r = n → r < f → RV X v I (J 270) 0 → (cn (J 270) 0 + r ≤ 6999 ∨ (130 < v ∧ cn (J 270) 0 + r ≤ 7099)) → ((x2 = 0 ∧ J 269 25 = 0) ∨ (¬ x2 = 0 ∧ ¬ J 269 25 = 0)) → ∃ I' J', q_fix (fun _ _ => none) (b_X9_goBy_2 v (nI n) x2 X) f (nI i) I = some I' ∧ oD r J = some J' ∧ RF X v (cn (J 270) 0 + r) I J I' J' := by
  intro r
  induction r with
  | zero =>
    intro f i I J h1 h2 h hd hb
    obtain ⟨f, rfl⟩ : ∃ z, f = z + 1 := ⟨f - 1, by omega⟩
    have e : i = n := by omega
    subst e
    refine ⟨I, J, ?_, rfl, h, FC.rfl', GM.rfl', h.k0.1, fun _ _ => rfl⟩
    show b_X9_goBy_2 v (nI i) x2 X (q_fix _ _ f) (nI i) I = _
    unfold b_X9_goBy_2
    rw [if_pos (Int32.le_refl _)]
  | succ r ih =>
    intro f i I J h1 h2 h hd hb
    obtain ⟨f, rfl⟩ : ∃ z, f = z + 1 := ⟨f - 1, by omega⟩
    obtain ⟨I1, J1, g1, g2, g3⟩ := day_pair (x1 := nI n) (x2 := x2) (x3 := nI i) (K := q_fix (fun _ _ => none) (b_X9_goBy_2 v (nI n) x2 X) f) h hv (by omega) hb
    have c1 : cn (J1 270) 0 = cn (J 270) 0 + 1 := by unfold cn; rw [g3.2.2.2.1]; exact nI_clamp (by omega)
    obtain ⟨I', J', k1, k2, k3⟩ := ih f (i + 1) I1 J1 (by omega) (by omega) g3.1 (by omega) (by rw [g3.2.2.1.2 25 (by decide)]; exact hb)
    refine ⟨I', J', ?_, ?_, ?_⟩
    · show b_X9_goBy_2 v (nI n) x2 X (q_fix (fun _ _ => none) (b_X9_goBy_2 v (nI n) x2 X) f) (nI i) I = _
      rw [nI_add] at g1
      generalize q_fix (fun _ _ => none) (b_X9_goBy_2 v (nI n) x2 X) f = KC at g1 k1 ⊢
      unfold b_X9_goBy_2
      rw [if_neg (nI_ge (by omega) hn), g1]
      exact k1
    · show q_b1 (f_X12_oneDay 269 J) (oD r) = _
      rw [g2, u_s1]; exact k2
    · have := g3.tr k3
      rw [c1, show cn (J 270) 0 + 1 + r = cn (J 270) 0 + (r + 1) by omega] at this
      exact this
theorem run_oD {n : Nat} (hn : n < 2 ^ 31) : ∀ r f i (J J' : qI), i + r = n → r < f → oD r J = some J' → q_fix (fun _ _ => none) (b_X12_run_34 269 (nI n)) f (nI i) J = some (J' 270 0, J') := by
  intro r
  induction r with
  | zero =>
    intro f i J J' h1 h2 h
    obtain ⟨f, rfl⟩ : ∃ z, f = z + 1 := ⟨f - 1, by omega⟩
    have e : i = n := by omega
    subst e
    cases h
    show b_X12_run_34 269 (nI i) (q_fix _ _ f) (nI i) J = _
    unfold b_X12_run_34
    rw [if_pos (Int32.le_refl _), u_rd (show 0 < 3580 by decide) (by decide), u_s1]
  | succ r ih =>
    intro f i J J' h1 h2 h
    obtain ⟨f, rfl⟩ : ∃ z, f = z + 1 := ⟨f - 1, by omega⟩
    obtain ⟨J1, e1, e2⟩ := q_b1_some h
    show b_X12_run_34 269 (nI n) (q_fix _ _ f) (nI i) J = _
    unfold b_X12_run_34
    rw [if_neg (nI_ge (by omega) hn), e1, u_s1, nI_add]
    exact ih f (i + 1) J1 J' (by omega) (by omega) e2
theorem W_run {X : qX} (y1 : Int32) : P2 X (f_X11_run 64 y1 X) (f_X12_run 269 y1) := by
  intro I J h
  show G2 X I J (f_X11_run 64 y1 X I) (f_X12_run 269 y1 J)
  have hR := h.rv
  have k0 := hR.k0
  unfold f_X11_run f_X12_run f_X9_goBy
  simp only [u_within, ii_1_60, u_s1, u_ib, ite_not]
  refine G2.ite (fun c1 => ?_) (fun _ => h.same _)
  obtain ⟨n, rfl, hn1, hn2⟩ := u_range (by decide) c1.1 c1.2 (by decide)
  rw [hR.sc0 (a := 64 + 1) rfl, u_rd (show 0 < 3580 by decide) (by decide), u_s1]
  refine G2.ite (fun c2 => ?_) (fun _ => h.same _)
  rw [k0.1, nI_add] at c2
  have c3 := (nI_leI (by omega) (by decide)).mp c2
  obtain ⟨I', J', g1, g2, g3⟩ := go_lp (X := X) (v := 65) (n := n) (x2 := nI 0) (by omega) (by decide) n q_fu 0 I J (Nat.zero_add _) (by have := q_fu1; omega) hR (by omega) (Or.inl ⟨nI_0, h.bs⟩)
  rw [show (64 + 1 : Nat) = 65 from rfl, g1, u_s1, run_oD (by omega) n q_fu 0 J J' (Nat.zero_add _) (by have := q_fu1; omega) g2]
  exact h.put2 g3.1 g3.2.1 g3.2.2.1 (g3.1.sc0 rfl)
