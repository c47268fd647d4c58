/-! LEVEL B: a day: buying -/
theorem lkmin {nd br x : Nat} (hn : nd < 2 ^ 31) (hb : br < 2 ^ 31) (hx : x < 2 ^ 31) : (min (nd - br) x = 0 ∧ ¬ 0 < q_min (nI nd - nI br) (nI x)) ∨ (0 < min (nd - br) x ∧ 0 < q_min (nI nd - nI br) (nI x) ∧ q_min (nI nd - nI br) (nI x) = nI (min (nd - br) x)) := by
  by_cases c : nd ≤ br
  · left
    refine ⟨by omega, fun q => ?_⟩
    have h0 := nI_sub0 c hb
    unfold q_min at q
    by_cases e : nI x < nI nd - nI br
    · rw [if_pos e] at q
      exact nI_pos hx (Int32.lt_of_lt_of_le e h0)
    · rw [if_neg e] at q
      exact Int32.lt_irrefl (Int32.lt_of_lt_of_le q h0)
  · rw [u_sub (by omega), q_min_nI (by omega) hx]
    by_cases e : min (nd - br) x = 0
    · left
      rw [e]
      exact ⟨rfl, by rw [nI_0]; exact Int32.lt_irrefl⟩
    · right
      exact ⟨by omega, by rw [← nI_0]; exact nI_lt (by omega) (by omega), rfl⟩
theorem RV.lacksC {X : qX} {v : Nat} {I : qI} {t : Nat → Int32} {j : Nat} (h : RV X v I t j) {a m : Nat} (ha : a = v + 12) (hm : m < 12) : f_X2_lacks a (nI m) I = some (nI (cn t (80 + 24 * m + 2)) - nI (cn t (80 + 24 * m + 3))) := by
  subst ha
  unfold f_X2_lacks
  rw [u_rd hm (by decide), u_s1, u_rd hm (by decide), u_s1, h.m2 rfl hm, h.m3 rfl hm, ← (h.r_m2 hm).1, ← (h.r_m3 hm).1]
theorem lvq_mul (z : Nat) (hz : z < 2 ^ 31) (pn : Nat) : lvq (nI z) pn * pn ≤ z := by
  unfold lvq
  by_cases c : nI z ≤ 0
  · rw [if_pos c, Nat.zero_mul]; exact Nat.zero_le _
  · rw [if_neg c, nI_clamp hz]; exact Nat.div_mul_le_self z pn
theorem mul_le' {a b c z : Nat} (h : a ≤ b) (h2 : b * c ≤ z) : a * c ≤ z := Nat.le_trans (Nat.mul_le_mul_right c h) h2
theorem take0 {J : qI} (m k : Int32) : f_X12_takes 269 m k (nI 0) J = some J := by
  unfold f_X12_takes
  rw [if_pos (by rw [nI_0]; exact Int32.le_refl _)]
theorem z_mul (x : Int32) : nI 0 * x = 0 := by rw [nI_0]; exact Int32.zero_mul
/-- the loaves' part that all three ways of buying share: n loaves, paid at a place -/
theorem bc_pair {X : qX} {v j : Nat} {I J : qI} (h : RV X v I (J 270) j) (hv : v ≤ 195) {m k : Nat} (hm : m < cn (J 270) 2) (hk : k < cn (J 270) 1) : ∃ n I' J', f_X9_buyByChecks v (nI m) (nI k) I = some I' ∧ f_X12_loaves 269 (nI m) (nI k) (J 270 (80 + 24 * m + 5)) J = some (nI n) ∧ f_X12_takes 269 (nI m) (nI k) (nI n) (q_up J 270 (80 + 24 * m + 5) (J 270 (80 + 24 * m + 5) - nI n * J 270 (50 + 4 * k + 1))) = some J' ∧ RD X v j I J I' J' ∧ (lk (J 270) m = 0 → I' = I ∧ J' 270 = J 270) := by
  have b := h.bd
  have hm12 : m < 12 := by omega
  have hk6 : k < 6 := by omega
  obtain ⟨n1, -, n2⟩ := h.r_m2 (m := m) hm12
  obtain ⟨b1, -, b2⟩ := h.r_m3 (m := m) hm12
  obtain ⟨c1, -, c2⟩ := h.r_m5 (m := m) hm12
  obtain ⟨p1, p2, p3⟩ := h.pr hk
  obtain ⟨s1, -, s2⟩ := h.r_s2 (k := k) hk6
  have lq := lvq_le (J 270 (80 + 24 * m + 5)) p2
  have lm := lvq_mul (cn (J 270) (80 + 24 * m + 5)) (by omega) (cn (J 270) (50 + 4 * k + 1))
  rw [← c1] at lm
  refine ⟨min (min (lvq (J 270 (80 + 24 * m + 5)) (cn (J 270) (50 + 4 * k + 1))) (lk (J 270) m)) (cn (J 270) (50 + 4 * k + 2)), ?_⟩
  rw [h.lvJ hm12 hk]
  unfold f_X9_buyByChecks
  rw [h.lacksC rfl hm12, u_s1, u_rd hm12 (by decide), u_s1, h.m5 rfl hm12, h.lvC rfl hk, u_s1]
  have el : lk (J 270) m = cn (J 270) (80 + 24 * m + 2) - cn (J 270) (80 + 24 * m + 3) := rfl
  rcases lkmin (nd := cn (J 270) (80 + 24 * m + 2)) (br := cn (J 270) (80 + 24 * m + 3)) (x := min (cn (J 270) (50 + 4 * k + 2)) (lvq (J 270 (80 + 24 * m + 5)) (cn (J 270) (50 + 4 * k + 1)))) (by omega) (by omega) (by omega) with ⟨e1, e2⟩ | ⟨e1, e2, e3⟩
  · have e0 : min (min (lvq (J 270 (80 + 24 * m + 5)) (cn (J 270) (50 + 4 * k + 1))) (lk (J 270) m)) (cn (J 270) (50 + 4 * k + 2)) = 0 := by omega
    rw [if_neg e2, e0]
    have nz := RD.noop h (n := 80 + 24 * m + 5) (x := J 270 (80 + 24 * m + 5) - nI 0 * J 270 (50 + 4 * k + 1)) (by rw [z_mul, Int32.sub_zero])
    exact ⟨I, _, rfl, rfl, take0 _ _, nz.1, fun _ => ⟨rfl, nz.2⟩⟩
  · have e0 : min (min (lvq (J 270 (80 + 24 * m + 5)) (cn (J 270) (50 + 4 * k + 1))) (lk (J 270) m)) (cn (J 270) (50 + 4 * k + 2)) = min (cn (J 270) (80 + 24 * m + 2) - cn (J 270) (80 + 24 * m + 3)) (min (cn (J 270) (50 + 4 * k + 2)) (lvq (J 270 (80 + 24 * m + 5)) (cn (J 270) (50 + 4 * k + 1)))) := by omega
    rw [if_pos e2, e3, e0]
    generalize hn : min (cn (J 270) (80 + 24 * m + 2) - cn (J 270) (80 + 24 * m + 3)) (min (cn (J 270) (50 + 4 * k + 2)) (lvq (J 270 (80 + 24 * m + 5)) (cn (J 270) (50 + 4 * k + 1)))) = n at e1 ⊢
    have np : n * cn (J 270) (50 + 4 * k + 1) ≤ cn (J 270) (80 + 24 * m + 5) := mul_le' (show n ≤ lvq (J 270 (80 + 24 * m + 5)) (cn (J 270) (50 + 4 * k + 1)) by omega) lm
    rw [u_s1, u_rd hk6 (by decide), u_s1, h.s1 rfl hk6, u_wr hm12 (by decide), u_s1]
    have d1 := RD.up h hv (vq_man m hm12 5 (by decide)) (x := J 270 (80 + 24 * m + 5) - nI n * J 270 (50 + 4 * k + 1)) (by rw [c1, p1, u_mul, u_sub np]; exact rgS_i (rg_m5 m hm12) (by omega) (by omega)) (h.dd.up (by simp [dr]; omega) _) (by omega) (by omega) (by omega)
    have x3 : cn (q_up J 270 (80 + 24 * m + 5) (J 270 (80 + 24 * m + 5) - nI n * J 270 (50 + 4 * k + 1)) 270) (80 + 24 * m + 3) = cn (J 270) (80 + 24 * m + 3) := by rw [up270, cn_o (by omega)]
    have x2 : cn (q_up J 270 (80 + 24 * m + 5) (J 270 (80 + 24 * m + 5) - nI n * J 270 (50 + 4 * k + 1)) 270) (50 + 4 * k + 2) = cn (J 270) (50 + 4 * k + 2) := by rw [up270, cn_o (by omega)]
    obtain ⟨I', J', g1, g2, g3⟩ := tk_pair d1.1 hv (m := m) (k := k) (n := n) (by rw [d1.c (by decide)]; exact hm) (by rw [d1.c (by decide)]; exact hk) (by omega) (by rw [x3]; omega) (by rw [x2]; omega)
    rw [show q_up I (v + 18) m (J 270 (80 + 24 * m + 5) - nI n * J 270 (50 + 4 * k + 1)) = q_up I (v + (13 + 5)) m (J 270 (80 + 24 * m + 5) - nI n * J 270 (50 + 4 * k + 1)) from rfl, g1, u_s1]
    exact ⟨I', J', rfl, rfl, g2, d1.tr g3, fun q => by omega⟩
theorem lvq_sub {a c : Nat} (ha : a < 2 ^ 31) (hc : c < 2 ^ 31) (pn : Nat) : lvq (nI a - nI c) pn * pn ≤ a - c ∧ (a ≤ c → lvq (nI a - nI c) pn = 0) := by
  by_cases e : a ≤ c
  · have : lvq (nI a - nI c) pn = 0 := by unfold lvq; rw [if_pos (nI_sub0 e hc)]
    rw [this, Nat.zero_mul]
    exact ⟨Nat.zero_le _, fun _ => rfl⟩
  · rw [u_sub (by omega)]
    exact ⟨lvq_mul _ (by omega) pn, fun q => absurd q e⟩
theorem bd_pair {X : qX} {v j : Nat} {I J : qI} (h : RV X v I (J 270) j) (hv : v ≤ 195) (hj : j ≤ 12) {m k : Nat} (hm : m < cn (J 270) 2) (hk : k < cn (J 270) 1) : ∃ n I' J', f_X9_buyOnDebt v (nI m) (nI k) I = some I' ∧ f_X12_loaves 269 (nI m) (nI k) (J 270 7 - J 270 (370 + 8 * cn (J 270) (80 + 24 * m + 11) + 2)) J = some (nI n) ∧ f_X12_takes 269 (nI m) (nI k) (nI n) (q_up J 270 (370 + 8 * cn (J 270) (80 + 24 * m + 11) + 2) (J 270 (370 + 8 * cn (J 270) (80 + 24 * m + 11) + 2) + nI n * J 270 (50 + 4 * k + 1))) = some J' ∧ RD X v j I J I' J' ∧ (lk (J 270) m = 0 → I' = I ∧ J' 270 = J 270) := by
  have b := h.bd
  have hm12 : m < 12 := by omega
  have hk6 : k < 6 := by omega
  obtain ⟨n1, -, n2⟩ := h.r_m2 (m := m) hm12
  obtain ⟨b1, -, b2⟩ := h.r_m3 (m := m) hm12
  obtain ⟨p1, p2, p3⟩ := h.pr hk
  obtain ⟨s1, -, s2⟩ := h.r_s2 (k := k) hk6
  obtain ⟨l1, l2⟩ := h.k7
  obtain ⟨c1, c2⟩ := h.db hm
  obtain ⟨a1, a2⟩ := h.am hj c2
  have k0 := h.k0.2
  have ck : J 270 (370 + 8 * cn (J 270) (80 + 24 * m + 11)) = nI 6 := (h.dd.2.1 m hm).2.2.2.2.1
  have lsub := lvq_sub (a := cn (J 270) 7) (c := cn (J 270) (370 + 8 * cn (J 270) (80 + 24 * m + 11) + 2)) (by omega) (by omega) (cn (J 270) (50 + 4 * k + 1))
  rw [← l1, ← a1] at lsub
  unfold f_X9_buyOnDebt
  rw [h.lacksC rfl hm12, u_s1, u_rd (show 0 < 3 by decide) (by decide), u_s1, h.owed rfl hm, u_s1, h.sc7 (a := v + 60) rfl]
  generalize hC : cn (J 270) (80 + 24 * m + 11) = c at *
  have c60 : c < 60 := by omega
  generalize hP : J 270 7 - J 270 (370 + 8 * c + 2) = P at *
  have lq := lvq_le P p2
  refine ⟨min (min (lvq P (cn (J 270) (50 + 4 * k + 1))) (lk (J 270) m)) (cn (J 270) (50 + 4 * k + 2)), ?_⟩
  rw [h.lvJ hm12 hk, h.lvC rfl hk, u_s1]
  have el : lk (J 270) m = cn (J 270) (80 + 24 * m + 2) - cn (J 270) (80 + 24 * m + 3) := rfl
  rcases lkmin (nd := cn (J 270) (80 + 24 * m + 2)) (br := cn (J 270) (80 + 24 * m + 3)) (x := min (cn (J 270) (50 + 4 * k + 2)) (lvq P (cn (J 270) (50 + 4 * k + 1)))) (by omega) (by omega) (by omega) with ⟨e1, e2⟩ | ⟨e1, e2, e3⟩
  · have e0 : min (min (lvq P (cn (J 270) (50 + 4 * k + 1))) (lk (J 270) m)) (cn (J 270) (50 + 4 * k + 2)) = 0 := by omega
    rw [if_neg e2, e0]
    have nz := RD.noop h (n := 370 + 8 * c + 2) (x := J 270 (370 + 8 * c + 2) + nI 0 * J 270 (50 + 4 * k + 1)) (by rw [z_mul, Int32.add_zero])
    exact ⟨I, _, rfl, rfl, take0 _ _, nz.1, fun _ => ⟨rfl, nz.2⟩⟩
  · have e0 : min (min (lvq P (cn (J 270) (50 + 4 * k + 1))) (lk (J 270) m)) (cn (J 270) (50 + 4 * k + 2)) = min (cn (J 270) (80 + 24 * m + 2) - cn (J 270) (80 + 24 * m + 3)) (min (cn (J 270) (50 + 4 * k + 2)) (lvq P (cn (J 270) (50 + 4 * k + 1)))) := by omega
    rw [if_pos e2, e3, e0]
    generalize hn : min (cn (J 270) (80 + 24 * m + 2) - cn (J 270) (80 + 24 * m + 3)) (min (cn (J 270) (50 + 4 * k + 2)) (lvq P (cn (J 270) (50 + 4 * k + 1)))) = n at e1 ⊢
    have np : n * cn (J 270) (50 + 4 * k + 1) ≤ cn (J 270) 7 - cn (J 270) (370 + 8 * c + 2) := mul_le' (show n ≤ lvq P (cn (J 270) (50 + 4 * k + 1)) by omega) lsub.1
    have n1' : n ≤ n * cn (J 270) (50 + 4 * k + 1) := Nat.le_mul_of_pos_right n p2
    rw [u_rd hm12 (by decide), u_s1, h.m11 rfl hm12, c1, u_rd c60 (by decide), u_s1, h.d2 rfl c60, u_rd hk6 (by decide), u_s1, h.s1 rfl hk6, u_wr c60 (by decide), u_s1]
    have d1 := RD.up h hv (vq_due c c60 2 (by decide) (by decide)) (x := J 270 (370 + 8 * c + 2) + nI n * J 270 (50 + 4 * k + 1)) (rgS_n (rn_d2 c c60)) (h.dd.amount c60 _ ⟨cn (J 270) (370 + 8 * c + 2) + n * cn (J 270) (50 + 4 * k + 1), by rw [a1, p1, u_mul, nI_add], by omega, by omega⟩ (Or.inr (Or.inl ck))) (by omega) (by omega) (by omega)
    have x3 : cn (q_up J 270 (370 + 8 * c + 2) (J 270 (370 + 8 * c + 2) + nI n * J 270 (50 + 4 * k + 1)) 270) (80 + 24 * m + 3) = cn (J 270) (80 + 24 * m + 3) := by rw [up270, cn_o (by omega)]
    have x2 : cn (q_up J 270 (370 + 8 * c + 2) (J 270 (370 + 8 * c + 2) + nI n * J 270 (50 + 4 * k + 1)) 270) (50 + 4 * k + 2) = cn (J 270) (50 + 4 * k + 2) := by rw [up270, cn_o (by omega)]
    obtain ⟨I', J', g1, g2, g3⟩ := tk_pair d1.1 hv (m := m) (k := k) (n := n) (by rw [d1.c (by decide)]; exact hm) (by rw [d1.c (by decide)]; exact hk) (by omega) (by rw [x3]; omega) (by rw [x2]; omega)
    rw [show q_up I (v + 30) c (J 270 (370 + 8 * c + 2) + nI n * J 270 (50 + 4 * k + 1)) = q_up I (v + (28 + 2)) c (J 270 (370 + 8 * c + 2) + nI n * J 270 (50 + 4 * k + 1)) from rfl, g1, u_s1]
    exact ⟨I', J', rfl, rfl, g2, d1.tr g3, fun q => by omega⟩
/-- in town, the shop found -/
theorem bt_pair {X : qX} {v j : Nat} {I J : qI} (h : RV X v I (J 270) j) (hv : v ≤ 195) {m k : Nat} (hm : m < cn (J 270) 2) (hk : k < cn (J 270) 1) : ∃ n I' J', b_X9_buyInTown_23 v (nI m) (nI (cn (J 270) (80 + 24 * m + 2)) - nI (cn (J 270) (80 + 24 * m + 3))) (nI k) I = some I' ∧ f_X12_loaves 269 (nI m) (nI k) (J 270 (80 + 24 * m + 4) - J 270 (50 + 4 * k + 3)) J = some (nI n) ∧ f_X12_takes 269 (nI m) (nI k) (nI n) (q_up J 270 (80 + 24 * m + 4) (J 270 (80 + 24 * m + 4) - (if nI n ≤ 0 then nI 0 else J 270 (50 + 4 * k + 3) + nI n * J 270 (50 + 4 * k + 1)))) = some J' ∧ RD X v j I J I' J' ∧ (lk (J 270) m = 0 → I' = I ∧ J' 270 = J 270) := by
  have b := h.bd
  have hm12 : m < 12 := by omega
  have hk6 : k < 6 := by omega
  obtain ⟨n1, -, n2⟩ := h.r_m2 (m := m) hm12
  obtain ⟨b1, -, b2⟩ := h.r_m3 (m := m) hm12
  obtain ⟨c1, -, c2⟩ := h.r_m4 (m := m) hm12
  obtain ⟨p1, p2, p3⟩ := h.pr hk
  obtain ⟨s1, -, s2⟩ := h.r_s2 (k := k) hk6
  obtain ⟨r1, -, r2⟩ := h.r_s3 (k := k) hk6
  have lsub := lvq_sub (a := cn (J 270) (80 + 24 * m + 4)) (c := cn (J 270) (50 + 4 * k + 3)) (by omega) (by omega) (cn (J 270) (50 + 4 * k + 1))
  rw [← c1, ← r1] at lsub
  unfold b_X9_buyInTown_23
  rw [if_pos (nI_pos' (by omega)), u_rd hm12 (by decide), u_s1, h.m4 rfl hm12, u_rd hk6 (by decide), u_s1, h.s3 rfl hk6]
  generalize hP : J 270 (80 + 24 * m + 4) - J 270 (50 + 4 * k + 3) = P at *
  have lq := lvq_le P p2
  refine ⟨min (min (lvq P (cn (J 270) (50 + 4 * k + 1))) (lk (J 270) m)) (cn (J 270) (50 + 4 * k + 2)), ?_⟩
  rw [h.lvJ hm12 hk, h.lvC rfl hk, u_s1]
  have el : lk (J 270) m = cn (J 270) (80 + 24 * m + 2) - cn (J 270) (80 + 24 * m + 3) := rfl
  rcases lkmin (nd := cn (J 270) (80 + 24 * m + 2)) (br := cn (J 270) (80 + 24 * m + 3)) (x := min (cn (J 270) (50 + 4 * k + 2)) (lvq P (cn (J 270) (50 + 4 * k + 1)))) (by omega) (by omega) (by omega) with ⟨e1, e2⟩ | ⟨e1, e2, e3⟩
  · have e0 : min (min (lvq P (cn (J 270) (50 + 4 * k + 1))) (lk (J 270) m)) (cn (J 270) (50 + 4 * k + 2)) = 0 := by omega
    rw [if_neg e2, e0, if_pos (by rw [nI_0]; exact Int32.le_refl _)]
    have nz := RD.noop h (n := 80 + 24 * m + 4) (x := J 270 (80 + 24 * m + 4) - nI 0) (by rw [nI_0, Int32.sub_zero])
    exact ⟨I, _, rfl, rfl, take0 _ _, nz.1, fun _ => ⟨rfl, nz.2⟩⟩
  · have e0 : min (min (lvq P (cn (J 270) (50 + 4 * k + 1))) (lk (J 270) m)) (cn (J 270) (50 + 4 * k + 2)) = min (cn (J 270) (80 + 24 * m + 2) - cn (J 270) (80 + 24 * m + 3)) (min (cn (J 270) (50 + 4 * k + 2)) (lvq P (cn (J 270) (50 + 4 * k + 1)))) := by omega
    rw [if_pos e2, e3, e0]
    generalize hn : min (cn (J 270) (80 + 24 * m + 2) - cn (J 270) (80 + 24 * m + 3)) (min (cn (J 270) (50 + 4 * k + 2)) (lvq P (cn (J 270) (50 + 4 * k + 1)))) = n at e1 ⊢
    have np : n * cn (J 270) (50 + 4 * k + 1) ≤ cn (J 270) (80 + 24 * m + 4) - cn (J 270) (50 + 4 * k + 3) := mul_le' (show n ≤ lvq P (cn (J 270) (50 + 4 * k + 1)) by omega) lsub.1
    have n1' : n ≤ n * cn (J 270) (50 + 4 * k + 1) := Nat.le_mul_of_pos_right n p2
    rw [if_neg (nI_nle e1 (by omega)), u_s1, u_rd hk6 (by decide), u_s1, h.s1 rfl hk6, u_s1, u_wr hm12 (by decide), u_s1, Int32.add_comm (J 270 (50 + 4 * k + 3))]
    have d1 := RD.up h hv (vq_man m hm12 4 (by decide)) (x := J 270 (80 + 24 * m + 4) - (nI n * J 270 (50 + 4 * k + 1) + J 270 (50 + 4 * k + 3))) (by rw [c1, p1, r1, u_mul, nI_add, u_sub (by omega)]; exact rgS_i (rg_m4 m hm12) (by omega) (by omega)) (h.dd.up (by simp [dr]; omega) _) (by omega) (by omega) (by omega)
    have x3 : cn (q_up J 270 (80 + 24 * m + 4) (J 270 (80 + 24 * m + 4) - (nI n * J 270 (50 + 4 * k + 1) + J 270 (50 + 4 * k + 3))) 270) (80 + 24 * m + 3) = cn (J 270) (80 + 24 * m + 3) := by rw [up270, cn_o (by omega)]
    have x2 : cn (q_up J 270 (80 + 24 * m + 4) (J 270 (80 + 24 * m + 4) - (nI n * J 270 (50 + 4 * k + 1) + J 270 (50 + 4 * k + 3))) 270) (50 + 4 * k + 2) = cn (J 270) (50 + 4 * k + 2) := by rw [up270, cn_o (by omega)]
    obtain ⟨I', J', g1, g2, g3⟩ := tk_pair d1.1 hv (m := m) (k := k) (n := n) (by rw [d1.c (by decide)]; exact hm) (by rw [d1.c (by decide)]; exact hk) (by omega) (by rw [x3]; omega) (by rw [x2]; omega)
    rw [show q_up I (v + 17) m (J 270 (80 + 24 * m + 4) - (nI n * J 270 (50 + 4 * k + 1) + J 270 (50 + 4 * k + 3))) = q_up I (v + (13 + 4)) m (J 270 (80 + 24 * m + 4) - (nI n * J 270 (50 + 4 * k + 1) + J 270 (50 + 4 * k + 3))) from rfl, g1, u_s1]
    exact ⟨I', J', rfl, rfl, g2, d1.tr g3, fun q => by omega⟩
