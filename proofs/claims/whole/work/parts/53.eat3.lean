/-! LEVEL B: a day: a man buys and eats -/
def L0 (m : Nat) (I J I' J' : qI) : Prop := lk (J 270) m = 0 → I' = I ∧ J' 270 = J 270
theorem L0.rf {m : Nat} {I J : qI} : L0 m I J I J := fun _ => ⟨rfl, rfl⟩
theorem L0.tr {m : Nat} {I J I' J' I'' J'' : qI} (h : L0 m I J I' J') (h' : L0 m I' J' I'' J'') : L0 m I J I'' J'' := fun q => by
  obtain ⟨a, b⟩ := h q
  obtain ⟨c, d⟩ := h' (by rw [b]; exact q)
  exact ⟨c.trans a, d.trans b⟩
theorem by_lp1 {X : qX} {v j m : Nat} (hv : v ≤ 195) (n : Nat) : ∀ r fC fM i (I J : qI), i + r = n → r < fC → r < fM → RV X v I (J 270) j → m < cn (J 270) 2 → cn (J 270) 1 = n → ∃ I' J', q_fix (fun _ _ => none) (b_X9_buy_2 v (nI m)) fC (nI i) I = (q_b1 (f_X9_buyInTown v (nI m) I') fun I3 => q_fix (fun _ _ => none) (b_X9_buy_44 v (nI m)) q_fu (nI 0) I3) ∧ q_fix (fun _ _ _ => none) (b_X12_buys_8 269 (nI m)) fM (nI (80 + 24 * m)) (nI i) J = (q_b1 (f_X12_lack 269 (nI m) J') fun v5 => if v5 ≤ 0 then b_X12_buys_99 269 (nI m) (nI (80 + 24 * m)) (-1) J' else q_b1 (f_X12_cheapest 269 (nI m) J') fun v8 => b_X12_buys_99 269 (nI m) (nI (80 + 24 * m)) v8 J') ∧ RD X v j I J I' J' ∧ L0 m I J I' J' := by
  intro r
  induction r with
  | zero =>
    intro fC fM i I J h1 h2 h3 h hm hn
    obtain ⟨fC, rfl⟩ : ∃ z, fC = z + 1 := ⟨fC - 1, by omega⟩
    obtain ⟨fM, rfl⟩ : ∃ z, fM = z + 1 := ⟨fM - 1, by omega⟩
    have e : i = cn (J 270) 1 := by omega
    subst e
    refine ⟨I, J, ?_, ?_, RD.rf h, L0.rf⟩
    · show b_X9_buy_2 v (nI m) (q_fix _ _ fC) (nI _) I = _
      unfold b_X9_buy_2
      rw [h.sc1 rfl, h.k1.1, if_pos (Int32.le_refl _)]
    · show b_X12_buys_8 269 (nI m) (q_fix _ _ fM) (nI (80 + 24 * m)) (nI _) J = _
      unfold b_X12_buys_8
      rw [u_rd (by decide) (by decide), u_s1, h.k1.1, if_pos (Int32.le_refl _)]
  | succ r ih =>
    intro fC fM i I J h1 h2 h3 h hm hn
    obtain ⟨fC, rfl⟩ : ∃ z, fC = z + 1 := ⟨fC - 1, by omega⟩
    obtain ⟨fM, rfl⟩ : ∃ z, fM = z + 1 := ⟨fM - 1, by omega⟩
    have b := h.bd
    have hi : i < 6 := by omega
    have hm12 : m < 12 := by omega
    have ih' := fun I J => ih fC fM (i + 1) I J (by omega) (by omega) (by omega)
    show ∃ I' J', b_X9_buy_2 v (nI m) (q_fix (fun _ _ => none) (b_X9_buy_2 v (nI m)) fC) (nI i) I = _ ∧ b_X12_buys_8 269 (nI m) (q_fix (fun _ _ _ => none) (b_X12_buys_8 269 (nI m)) fM) (nI (80 + 24 * m)) (nI i) J = _ ∧ _ ∧ _
    generalize q_fix (fun _ _ => none) (b_X9_buy_2 v (nI m)) fC = KC at ih' ⊢
    generalize q_fix (fun _ _ _ => none) (b_X12_buys_8 269 (nI m)) fM = KM at ih' ⊢
    unfold b_X9_buy_2 b_X9_buy_31 b_X12_buys_8 b_X12_buys_76 f_X12_shopAt
    rw [h.sc1 rfl, h.k1.1, if_neg (nI_ge (by omega) (by omega)), u_rd hi (by decide), u_s1, h.s0 rfl hi, nI_add]
    rw [u_rd (by decide) (by decide), u_s1, h.k1.1, if_neg (nI_ge (by omega) (by omega)), h.townJ hi, u_s1, nI_add, u_rd (show 80 + 24 * m + 5 < 3580 by omega) (by decide), u_s1]
    by_cases e : J 270 (50 + 4 * i) = 0
    · obtain ⟨n', I1, J1, g1, g2, g3, g4, g5⟩ := bc_pair h hv hm (k := i) (by omega)
      rw [if_pos e, if_pos e, if_pos rfl, g1, u_s1, show J (269 + 1) = J 270 from rfl, g2, u_s1, u_s1, u_s1, u_mul, nI_add, nI_add, u_rd (show 50 + 4 * i + 1 < 3580 by omega) (by decide), u_s1, u_wr (show 80 + 24 * m + 5 < 3580 by omega) (by decide), u_s1, show (269 + 1 : Nat) = 270 from rfl, g3, u_s1]
      obtain ⟨I', J', k1, k2, k3, k4⟩ := ih' I1 J1 g4.1 (by rw [g4.c (by decide)]; exact hm) (by rw [g4.c (by decide)]; exact hn)
      exact ⟨I', J', k1, k2, g4.tr k3, L0.tr g5 k4⟩
    · rw [if_neg e, if_neg e, if_neg u_one]
      exact ih' I J h hm hn
theorem by_lp2 {X : qX} {v j m : Nat} (hv : v ≤ 195) (hj : j ≤ 12) (n : Nat) : ∀ r fC fM i (I J : qI), i + r = n → r < fC → r < fM → RV X v I (J 270) j → m < cn (J 270) 2 → cn (J 270) 1 = n → ∃ I' J', q_fix (fun _ _ => none) (b_X9_buy_44 v (nI m)) fC (nI i) I = some I' ∧ q_fix (fun _ _ _ => none) (b_X12_buys_192 269 (nI m)) fM (nI (80 + 24 * m)) (nI i) J = some J' ∧ RD X v j I J I' J' ∧ L0 m I J I' J' := by
  intro r
  induction r with
  | zero =>
    intro fC fM i I J h1 h2 h3 h hm hn
    obtain ⟨fC, rfl⟩ : ∃ z, fC = z + 1 := ⟨fC - 1, by omega⟩
    obtain ⟨fM, rfl⟩ : ∃ z, fM = z + 1 := ⟨fM - 1, by omega⟩
    have e : i = cn (J 270) 1 := by omega
    subst e
    refine ⟨I, J, ?_, ?_, RD.rf h, L0.rf⟩
    · show b_X9_buy_44 v (nI m) (q_fix _ _ fC) (nI _) I = _
      unfold b_X9_buy_44
      rw [h.sc1 rfl, h.k1.1, if_pos (Int32.le_refl _)]
    · show b_X12_buys_192 269 (nI m) (q_fix _ _ fM) (nI (80 + 24 * m)) (nI _) J = _
      unfold b_X12_buys_192
      rw [u_rd (by decide) (by decide), u_s1, h.k1.1, if_pos (Int32.le_refl _)]
  | succ r ih =>
    intro fC fM i I J h1 h2 h3 h hm hn
    obtain ⟨fC, rfl⟩ : ∃ z, fC = z + 1 := ⟨fC - 1, by omega⟩
    obtain ⟨fM, rfl⟩ : ∃ z, fM = z + 1 := ⟨fM - 1, by omega⟩
    have b := h.bd
    have hi : i < 6 := by omega
    have hm12 : m < 12 := by omega
    obtain ⟨c1, c2⟩ := h.db hm
    have ih' := fun I J => ih fC fM (i + 1) I J (by omega) (by omega) (by omega)
    show ∃ I' J', b_X9_buy_44 v (nI m) (q_fix (fun _ _ => none) (b_X9_buy_44 v (nI m)) fC) (nI i) I = _ ∧ b_X12_buys_192 269 (nI m) (q_fix (fun _ _ _ => none) (b_X12_buys_192 269 (nI m)) fM) (nI (80 + 24 * m)) (nI i) J = _ ∧ _ ∧ _
    generalize q_fix (fun _ _ => none) (b_X9_buy_44 v (nI m)) fC = KC at ih' ⊢
    generalize q_fix (fun _ _ _ => none) (b_X12_buys_192 269 (nI m)) fM = KM at ih' ⊢
    unfold b_X9_buy_44 b_X9_buy_73 b_X12_buys_192 b_X12_buys_282 f_X12_shopAt f_X12_dueAt
    rw [h.sc1 rfl, h.k1.1, if_neg (nI_ge (by omega) (by omega)), u_rd hi (by decide), u_s1, h.s0 rfl hi, nI_add]
    rw [u_rd (by decide) (by decide), u_s1, h.k1.1, if_neg (nI_ge (by omega) (by omega)), h.townJ hi, u_s1, u_rd (show 7 < 3580 by decide) (by decide), u_s1, h.owedJ hm, u_s1]
    by_cases e : J 270 (50 + 4 * i) = 0
    · obtain ⟨n', I1, J1, g1, g2, g3, g4, g5⟩ := bd_pair h hv hj hm (k := i) (by omega)
      rw [if_pos e, if_pos e, if_pos rfl, g1, u_s1, show J (269 + 1) = J 270 from rfl, g2, u_s1, nI_add, u_rd (show 80 + 24 * m + 11 < 3580 by omega) (by decide), u_s1, show J (269 + 1) = J 270 from rfl, c1, u_s1, u_mul, nI_add, nI_add, u_rd (show 370 + 8 * cn (J 270) (80 + 24 * m + 11) + 2 < 3580 by omega) (by decide), u_s1, u_s1, u_mul, nI_add, nI_add, u_rd (show 50 + 4 * i + 1 < 3580 by omega) (by decide), u_s1, u_wr (show 370 + 8 * cn (J 270) (80 + 24 * m + 11) + 2 < 3580 by omega) (by decide), u_s1, show (269 + 1 : Nat) = 270 from rfl, g3, u_s1]
      obtain ⟨I', J', k1, k2, k3, k4⟩ := ih' I1 J1 g4.1 (by rw [g4.c (by decide)]; exact hm) (by rw [g4.c (by decide)]; exact hn)
      exact ⟨I', J', k1, k2, g4.tr k3, L0.tr g5 k4⟩
    · rw [if_neg e, if_neg e, if_neg u_one]
      exact ih' I J h hm hn
theorem town_pair {X : qX} {v j m : Nat} {I J : qI} (h : RV X v I (J 270) j) (hv : v ≤ 195) (hm : m < cn (J 270) 2) : ∃ I' J', f_X9_buyInTown v (nI m) I = some I' ∧ (q_b1 (f_X12_lack 269 (nI m) J) fun v5 => if v5 ≤ 0 then b_X12_buys_99 269 (nI m) (nI (80 + 24 * m)) (-1) J else q_b1 (f_X12_cheapest 269 (nI m) J) fun v8 => b_X12_buys_99 269 (nI m) (nI (80 + 24 * m)) v8 J) = b_X12_buys_189 269 (nI m) (nI (80 + 24 * m)) J' ∧ RD X v j I J I' J' ∧ L0 m I J I' J' := by
  have b := h.bd
  have hm12 : m < 12 := by omega
  obtain ⟨n1, -, n2⟩ := h.r_m2 (m := m) hm12
  obtain ⟨b1, -, b2⟩ := h.r_m3 (m := m) hm12
  unfold f_X9_buyInTown
  rw [h.lacksC rfl hm12, u_s1, h.lackJ hm12, u_s1]
  have el : lk (J 270) m = cn (J 270) (80 + 24 * m + 2) - cn (J 270) (80 + 24 * m + 3) := rfl
  have none_ : b_X12_buys_99 269 (nI m) (nI (80 + 24 * m)) (-1) J = b_X12_buys_189 269 (nI m) (nI (80 + 24 * m)) J := by
    unfold b_X12_buys_99
    rw [if_pos (by decide)]
  have noneC : ∀ x, b_X9_buyInTown_23 v (nI m) x (-1) I = some I := by
    intro x
    unfold b_X9_buyInTown_23
    rw [if_neg neg1]
  by_cases c : lk (J 270) m = 0
  · rw [if_pos (nI_sub0 (by omega) (by omega)), c, if_pos (by rw [nI_0]; exact Int32.le_refl _), none_, noneC]
    exact ⟨I, J, rfl, rfl, RD.rf h, L0.rf⟩
  · have e3 : nI (cn (J 270) (80 + 24 * m + 2)) - nI (cn (J 270) (80 + 24 * m + 3)) = nI (lk (J 270) m) := by rw [u_sub (by omega), el]
    rw [e3, if_neg (nI_nle (by omega) (by omega)), if_neg (nI_nle (by omega) (by omega))]
    unfold f_X9_townKnownCheapest f_X12_cheapest
    obtain ⟨s, g1, g2, g3⟩ := ch_lp h hm (cn (J 270) 1) q_fu q_fu 0 (-1) (nI 0) (Nat.zero_add _) (by have := q_fu1; omega) (by have := q_fu1; omega) (Or.inl rfl)
    rw [g1, g2, u_s1, u_s1]
    rcases g3 with rfl | ⟨k, hk, rfl⟩
    · rw [none_, noneC]
      exact ⟨I, J, rfl, rfl, RD.rf h, L0.rf⟩
    · obtain ⟨n', I1, J1, q1, q2, q3, q4, q5⟩ := bt_pair h hv hm hk
      rw [← e3, q1]
      unfold b_X12_buys_99 b_X12_buys_179 f_X12_shopAt
      rw [if_neg (nI_pos (by omega)), nI_add, u_rd (show 80 + 24 * m + 4 < 3580 by omega) (by decide), u_s1, u_s1, u_mul, nI_add, nI_add, u_rd (show 50 + 4 * k + 3 < 3580 by omega) (by decide), u_s1, show J (269 + 1) = J 270 from rfl, q2, u_s1, u_s1, u_s1, nI_add, u_rd (show 50 + 4 * k + 3 < 3580 by omega) (by decide), u_s1, u_s1, nI_add, u_rd (show 50 + 4 * k + 1 < 3580 by omega) (by decide), u_s1, u_wr (show 80 + 24 * m + 4 < 3580 by omega) (by decide), u_s1, u_wr (show 80 + 24 * m + 4 < 3580 by omega) (by decide), u_s1]
      refine ⟨I1, J1, rfl, ?_, q4, q5⟩
      by_cases c2 : nI n' ≤ 0
      · rw [if_pos c2] at q3 ⊢
        rw [show (269 + 1 : Nat) = 270 from rfl, q3, u_s1]
      · rw [if_neg c2] at q3 ⊢
        rw [show (269 + 1 : Nat) = 270 from rfl, q3, u_s1]
theorem buy_pair {X : qX} {v j m : Nat} {I J : qI} (h : RV X v I (J 270) j) (hv : v ≤ 195) (hj : j ≤ 12) (hm : m < cn (J 270) 2) : ∃ I' J', f_X9_buy v (nI m) I = some I' ∧ f_X12_buys 269 (nI m) J = some J' ∧ RD X v j I J I' J' ∧ L0 m I J I' J' := by
  have b := h.bd
  unfold f_X9_buy f_X12_buys f_X12_manAt
  rw [u_s1, u_mul, nI_add]
  obtain ⟨I1, J1, g1, g2, g3, g4⟩ := by_lp1 hv (cn (J 270) 1) (cn (J 270) 1) q_fu q_fu 0 I J (Nat.zero_add _) (by have := q_fu1; omega) (by have := q_fu1; omega) h hm rfl
  obtain ⟨I2, J2, k1, k2, k3, k4⟩ := town_pair g3.1 hv (m := m) (by rw [g3.c (by decide)]; exact hm)
  have d2 := g3.tr k3
  obtain ⟨I3, J3, l1, l2, l3, l4⟩ := by_lp2 hv hj (cn (J 270) 1) (cn (J 270) 1) q_fu q_fu 0 I2 J2 (Nat.zero_add _) (by have := q_fu1; omega) (by have := q_fu1; omega) d2.1 (by rw [d2.c (by decide)]; exact hm) (d2.c (by decide))
  refine ⟨I3, J3, ?_, ?_, d2.tr l3, (L0.tr g4 k4).tr l4⟩
  · rw [g1, k1, u_s1]; exact l1
  · rw [g2, k2]; unfold b_X12_buys_189; exact l2
theorem q_max_nI {a z : Nat} (ha : a < 2 ^ 31) (hz : z < 2 ^ 31) : q_max (nI a) (nI z) = nI (max a z) := by
  unfold q_max
  by_cases h : a < z
  · rw [if_pos (nI_lt h hz), Nat.max_eq_right (by omega)]
  · rw [if_neg (nI_nlt (by omega) ha), Nat.max_eq_left (by omega)]
/-- after the buying: x the bread that is left, y the hunger -/
theorem eat_end {X : qX} {v j m : Nat} {I J : qI} (h : RV X v I (J 270) j) (hv : v ≤ 195) (hm : m < cn (J 270) 2) (hg : J 270 (80 + 24 * m + 9) = 0) {x y : Nat} (hx : x ≤ 99999) (hy : y ≤ 9) : ∃ I' J', b_X9_eat_114 v (nI m) (nI y) (q_up I (v + 16) m (nI x)) = some I' ∧ b_X12_eats_92 269 (nI m) (nI (80 + 24 * m)) (q_up (q_up J 270 (80 + 24 * m + 3) (nI x)) 270 (80 + 24 * m + 6) (nI y)) = some J' ∧ RE X v j I J I' J' := by
  have b := h.bd
  have hm12 : m < 12 := by omega
  have d1 := RD.up h hv (vq_man m hm12 3 (by decide)) (x := nI x) (rgS_i (rg_m3 m hm12) (by omega) hx) (h.dd.up (by simp [dr]; omega) _) (by omega) (by omega) (by omega)
  unfold b_X9_eat_114 b_X12_eats_92 b_X12_eats_119
  rw [u_wr hm12 (by decide), u_s1, u_rd hm12 (by decide), u_s1, u_up_same]
  rw [nI_add, u_rd (show 80 + 24 * m + 6 < 3580 by omega) (by decide), u_s1, show (269 + 1 : Nat) = 270 from rfl, u_up_same, nI_add, u_wr (show 80 + 24 * m + 9 < 3580 by omega) (by decide), u_wr (show 80 + 24 * m + 9 < 3580 by omega) (by decide), u_s1, u_s1]
  by_cases c : y < 9
  · rw [if_pos (nI_lt c (by decide)), if_pos (nI_lt c (by decide))]
    have d2 := RD.up d1.1 hv (vq_man m hm12 6 (by decide)) (x := nI y) (rgS_i (rg_m6 m hm12) (by omega) hy) (d1.1.dd.hung hm12 _ (fun _ => by rw [nI_clamp (by omega)]; omega)) (by omega) (by omega) (by rw [d1.c (by decide)]; omega)
    have d := d1.tr d2
    have nz := RD.noop d.1 (n := 80 + 24 * m + 9) (x := nI 0) (by rw [up270, up270, upd_o (by omega), upd_o (by omega), hg, nI_0])
    exact ⟨_, _, rfl, rfl, (d.tr nz.1).re⟩
  · rw [if_neg (nI_nlt (by omega) (by omega)), if_neg (nI_nlt (by omega) (by omega)), u_wr hm12 (by decide), u_s1]
    have d2 := RE.up d1.1 hv (vq_man m hm12 9 (by decide)) (x := nI 1) (rgS_i (rg_m9 m hm12) (by omega) (by omega)) (d1.1.dd.gone1 hm12 _ (by decide +kernel)) (by omega) (by omega) (by rw [d1.c (by decide)]; omega)
    have d := d1.re.tr d2
    have d3 := RE.up d.1 hv (vq_man m hm12 6 (by decide)) (x := nI y) (rgS_i (rg_m6 m hm12) (by omega) hy) (d.1.dd.hung hm12 _ (fun q => by rw [up270, upd_s] at q; exact absurd q (by decide +kernel))) (by omega) (by omega) (by rw [d.c (by decide)]; omega)
    have eI : q_up (q_up (q_up I (v + 16) m (nI x)) (v + 19) m (nI y)) (v + 22) m (nI 1) = q_up (q_up (q_up I (v + (13 + 3)) m (nI x)) (v + (13 + 9)) m (nI 1)) (v + (13 + 6)) m (nI y) := q_up_comm (by omega)
    have eJ : q_up (q_up (q_up J 270 (80 + 24 * m + 3) (nI x)) 270 (80 + 24 * m + 6) (nI y)) 270 (80 + 24 * m + 9) (nI 1) = q_up (q_up (q_up J 270 (80 + 24 * m + 3) (nI x)) 270 (80 + 24 * m + 9) (nI 1)) 270 (80 + 24 * m + 6) (nI y) := by
      funext a
      by_cases e : a = 270
      · subst e; simp only [up270]; exact upd_comm (by omega)
      · funext z; rw [u_up_a e, u_up_a e, u_up_a e, u_up_a e, u_up_a e, u_up_a e]
    rw [eI, eJ]
    exact ⟨_, _, rfl, rfl, d.tr d3⟩
theorem eat_pair {X : qX} {v j m : Nat} {I J : qI} (h : RV X v I (J 270) j) (hv : v ≤ 195) (hj : j ≤ 12) (hm : m < cn (J 270) 2) (hg : J 270 (80 + 24 * m + 9) = 0) : ∃ I' J', f_X9_eat v (nI m) I = some I' ∧ f_X12_eats 269 (nI m) J = some J' ∧ RE X v j I J I' J' := by
  have b := h.bd
  have hm12 : m < 12 := by omega
  obtain ⟨n1, -, n2⟩ := h.r_m2 (m := m) hm12
  obtain ⟨b1, -, b2⟩ := h.r_m3 (m := m) hm12
  obtain ⟨I1, J1, g1, g2, g3, g4⟩ := buy_pair h hv hj hm
  have key : f_X9_eat v (nI m) I = b_X9_eat_26 v (nI m) (J 270 (80 + 24 * m + 2)) I1 := by
    unfold f_X9_eat
    rw [u_rd hm12 (by decide), u_s1, h.m2 rfl hm12, h.lacksC rfl hm12, u_s1]
    by_cases c : cn (J 270) (80 + 24 * m + 2) ≤ cn (J 270) (80 + 24 * m + 3)
    · rw [if_pos (nI_sub0 c (by omega)), (g4 (by unfold lk; omega)).1]
    · rw [u_sub (by omega), if_neg (nI_nle (by omega) (by omega)), g1, u_s1]
  have h1 := g3.1
  have hm1 : m < cn (J1 270) 2 := by rw [g3.c (by decide)]; exact hm
  have e2 : J1 270 (80 + 24 * m + 2) = J 270 (80 + 24 * m + 2) := g3.2.2.2 _ (by omega)
  have e9 : J1 270 (80 + 24 * m + 9) = 0 := (g3.2.2.2 _ (by omega)).trans hg
  obtain ⟨p1, -, p2⟩ := h1.r_m2 (m := m) hm12
  obtain ⟨q1, -, q2⟩ := h1.r_m3 (m := m) hm12
  obtain ⟨r1, -, r2⟩ := h1.r_m6 (m := m) hm12
  have h8 := (h1.dd.2.1 m hm1).2.2.2.2.2 e9
  rw [key, ← e2]
  unfold b_X9_eat_26 b_X9_eat_44 b_X9_eat_72 f_X12_eats b_X12_eats_90 f_X12_manAt
  rw [u_rd hm12 (by decide), u_s1, h1.m3 rfl hm12]
  simp only [u_s1]
  rw [g2]
  simp only [u_s1]
  rw [h1.lackJ hm12]
  simp only [u_s1]
  rw [u_mul, nI_add]
  have el : lk (J1 270) m = cn (J1 270) (80 + 24 * m + 2) - cn (J1 270) (80 + 24 * m + 3) := rfl
  by_cases c : cn (J1 270) (80 + 24 * m + 2) ≤ cn (J1 270) (80 + 24 * m + 3)
  · rw [if_pos (show J1 270 (80 + 24 * m + 2) ≤ J1 270 (80 + 24 * m + 3) by rw [p1, q1]; exact nI_le c (by omega)), if_pos (show nI (lk (J1 270) m) ≤ 0 by rw [show lk (J1 270) m = 0 by omega, nI_0]; exact Int32.le_refl _), if_pos nI_0]
    rw [u_wr hm12 (by decide), u_s1, if_pos nI_0, u_rd hm12 (by decide), u_s1, u_up_a (by omega), h1.m6 rfl hm12]
    rw [nI_add, u_rd (show 80 + 24 * m + 3 < 3580 by omega) (by decide), u_s1, nI_add, u_rd (show 80 + 24 * m + 2 < 3580 by omega) (by decide), u_s1, u_wr (show 80 + 24 * m + 3 < 3580 by omega) (by decide), u_s1, nI_add, show (269 + 1 : Nat) = 270 from rfl, u_rd (show 80 + 24 * m + 6 < 3580 by omega) (by decide), u_s1, u_s1, u_up_j (by omega)]
    have eb : J1 270 (80 + 24 * m + 3) - J1 270 (80 + 24 * m + 2) = nI (cn (J1 270) (80 + 24 * m + 3) - cn (J1 270) (80 + 24 * m + 2)) := by rw [p1, q1, u_sub c]
    rw [eb]
    obtain ⟨I', J', k1, k2, k3⟩ := eat_end h1 hv hm1 e9 (x := cn (J1 270) (80 + 24 * m + 3) - cn (J1 270) (80 + 24 * m + 2)) (y := cn (J1 270) (80 + 24 * m + 6) - 1) (by omega) (by omega)
    refine ⟨I', J', ?_, ?_, g3.re.tr k3⟩
    · rw [← k1]
      congr 1
      rw [r1]
      rcases Nat.eq_zero_or_pos (cn (J1 270) (80 + 24 * m + 6)) with z | z
      · rw [z]; decide +kernel
      · rw [u_sub z, q_max_nI (by decide) (by omega)]
        congr 1 <;> omega
    · rw [u_wr (show 80 + 24 * m + 6 < 3580 by omega) (by decide), u_s1, u_wr (show 80 + 24 * m + 6 < 3580 by omega) (by decide), u_s1]
      rcases Nat.eq_zero_or_pos (cn (J1 270) (80 + 24 * m + 6)) with z | z
      · rw [if_pos (by rw [r1, z, nI_0]; exact Int32.le_refl _), r1, nI_0, Int32.sub_zero]
        rw [z] at k2 ⊢
        exact k2
      · rw [if_neg (by rw [r1]; exact nI_nle z (by omega)), r1, u_sub z]
        exact k2
  · rw [if_neg (show ¬ J1 270 (80 + 24 * m + 2) ≤ J1 270 (80 + 24 * m + 3) by rw [p1, q1]; exact nI_ge (by omega) (by omega)), if_neg (show ¬ nI (lk (J1 270) m) ≤ 0 from nI_nle (by omega) (by omega)), if_neg (show ¬ nI 1 = 0 by decide +kernel)]
    rw [u_wr hm12 (by decide), u_s1, if_neg (show ¬ nI 1 = 0 by decide +kernel), u_rd hm12 (by decide), u_s1, u_up_a (by omega), h1.m6 rfl hm12]
    rw [nI_add, u_wr (show 80 + 24 * m + 3 < 3580 by omega) (by decide), u_s1, nI_add, show (269 + 1 : Nat) = 270 from rfl, u_rd (show 80 + 24 * m + 6 < 3580 by omega) (by decide), u_s1, u_up_j (by omega), u_wr (show 80 + 24 * m + 6 < 3580 by omega) (by decide), u_s1, r1, nI_add]
    obtain ⟨I', J', k1, k2, k3⟩ := eat_end h1 hv hm1 e9 (x := 0) (y := cn (J1 270) (80 + 24 * m + 6) + 1) (by omega) (by omega)
    exact ⟨I', J', k1, k2, g3.re.tr k3⟩
