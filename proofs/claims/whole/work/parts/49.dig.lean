/-! LEVEL B: a day: digging -/
def RD (X : qX) (v j : Nat) (I J I' J' : qI) : Prop := RV X v I' (J' 270) j ∧ FC v I I' ∧ GM J J' ∧ ∀ n, (n < 10 ∨ 850 ≤ n ∨ (80 ≤ n ∧ n < 368 ∧ ((n - 80) % 24 = 9 ∨ (n - 80) % 24 = 2))) → J' 270 n = J 270 n
theorem RD.tr {X : qX} {v j j' : Nat} {I J I' J' I'' J'' : qI} (h : RD X v j I J I' J') (h' : RD X v j' I' J' I'' J'') : RD X v j' I J I'' J'' := ⟨h'.1, h.2.1.tr h'.2.1, h.2.2.1.tr h'.2.2.1, fun n hn => (h'.2.2.2 n hn).trans (h.2.2.2 n hn)⟩
theorem RD.c {X : qX} {v j : Nat} {I J I' J' : qI} (h : RD X v j I J I' J') {n : Nat} (hn : n < 10) : cn (J' 270) n = cn (J 270) n := by unfold cn; rw [h.2.2.2 n (Or.inl hn)]
/-- the same, but men may go -/
def RE (X : qX) (v j : Nat) (I J I' J' : qI) : Prop := RV X v I' (J' 270) j ∧ FC v I I' ∧ GM J J' ∧ ∀ n, (n < 10 ∨ 850 ≤ n) → J' 270 n = J 270 n
theorem RE.tr {X : qX} {v j j' : Nat} {I J I' J' I'' J'' : qI} (h : RE X v j I J I' J') (h' : RE X v j' I' J' I'' J'') : RE X v j' I J I'' J'' := ⟨h'.1, h.2.1.tr h'.2.1, h.2.2.1.tr h'.2.2.1, fun n hn => (h'.2.2.2 n hn).trans (h.2.2.2 n hn)⟩
theorem RE.c {X : qX} {v j : Nat} {I J I' J' : qI} (h : RE X v j I J I' J') {n : Nat} (hn : n < 10) : cn (J' 270) n = cn (J 270) n := by unfold cn; rw [h.2.2.2 n (Or.inl hn)]
theorem RD.re {X : qX} {v j : Nat} {I J I' J' : qI} (h : RD X v j I J I' J') : RE X v j I J I' J' := ⟨h.1, h.2.1, h.2.2.1, fun n hn => h.2.2.2 n (hn.imp id Or.inl)⟩
theorem RE.rf {X : qX} {v j : Nat} {I J : qI} (h : RV X v I (J 270) j) : RE X v j I J I J := ⟨h, FC.rfl', GM.rfl', fun _ _ => rfl⟩
theorem RV.slack {X : qX} {v : Nat} {I : qI} {t : Nat → Int32} {j j' : Nat} (h : RV X v I t j) (hj : j ≤ j') : RV X v I t j' := ⟨h.1, h.2.1, h.2.2.1, h.2.2.2.1.slack hj, h.2.2.2.2⟩
theorem RV.am {X : qX} {v : Nat} {I : qI} {t : Nat → Int32} {j : Nat} (h : RV X v I t j) (hj : j ≤ 12) {d : Nat} (hd : d < cn t 3) : t (370 + 8 * d + 2) = nI (cn t (370 + 8 * d + 2)) ∧ cn t (370 + 8 * d + 2) ≤ 100000 + 120000 * cn t 0 + 10000 * j := by
  have k := (h.dd.2.2.2.1 d hd).2.2.1
  have k0 := h.k0.2
  obtain ⟨a, -, c⟩ := k.cv (t := t) (by omega)
  exact ⟨a, c⟩
theorem RV.tb {X : qX} {v : Nat} {I : qI} {t : Nat → Int32} {j : Nat} (h : RV X v I t j) (hj : j ≤ 12) {p : Nat} (hp : p < 8) : t (10 + 5 * p + 4) = nI (cn t (10 + 5 * p + 4)) ∧ cn t (10 + 5 * p + 4) ≤ 108 * cn t 0 + 9 * j := by
  have k := h.dd.2.2.2.2 p hp
  have k0 := h.k0.2
  obtain ⟨a, -, c⟩ := k.cv (t := t) (by omega)
  exact ⟨a, c⟩
theorem dig_pair {X : qX} {v : Nat} {I J : qI} {j m : Nat} (h : RV X v I (J 270) j) (hv : v ≤ 195) (hj : j ≤ 11) (hm : m < cn (J 270) 2) : ∃ I' J', f_X9_dig v (nI m) X I = some I' ∧ f_X12_digs 269 (nI m) J = some J' ∧ RD X v (j + 1) I J I' J' := by
  have b := h.bd
  have hm12 : m < 12 := by omega
  obtain ⟨p1, -, p2⟩ := h.r_m0 (m := m) hm12
  obtain ⟨s1, -, s2⟩ := h.r_m1 (m := m) hm12
  obtain ⟨c1, c2⟩ := h.wg hm
  obtain ⟨a1, a2⟩ := h.am (by omega) c2
  have hp8 : cn (J 270) (80 + 24 * m) < 8 := by omega
  obtain ⟨b1, b2⟩ := h.tb (by omega) hp8
  have k0 := h.k0.2
  unfold f_X9_dig f_X12_digs f_X12_manAt f_X12_dueAt
  rw [u_rd hm12 (by decide), u_s1, h.m0 rfl hm12, u_rd hm12 (by decide), u_s1, h.m1 rfl hm12, p1, u_rd hp8 (by decide), u_s1, h.p0 rfl hp8, u_rd hp8 (by decide), u_s1, h.p1 rfl hp8, h.sc0 (a := v) (by omega)]
  rw [u_s1, u_mul, nI_add, u_rd (show 80 + 24 * m < 3580 by omega) (by decide), u_s1, nI_add, u_rd (show 80 + 24 * m + 1 < 3580 by omega) (by decide), u_s1, show J (269 + 1) (80 + 24 * m) = nI (cn (J 270) (80 + 24 * m)) from p1, u_mul, nI_add, u_rd (show 10 + 5 * cn (J 270) (80 + 24 * m) < 3580 by omega) (by decide), u_s1, nI_add, u_rd (show 10 + 5 * cn (J 270) (80 + 24 * m) + 1 < 3580 by omega) (by decide), u_s1, u_s1]
  generalize hP : cn (J 270) (80 + 24 * m) = p at *
  generalize hC : cn (J 270) (80 + 24 * m + 10) = c at *
  have c60 : c < 60 := by omega
  obtain ⟨w, I1, J1, g1, g2, -, g3, g4, g5⟩ := h.tv.giv0 hv rfl (J 270 (80 + 24 * m + 1) * J 270 (10 + 5 * p) * J 270 (10 + 5 * p + 1) / nI 100) (J 270 (80 + 24 * m + 1)) (nI 0)
  rw [show J (269 + 1) = J 270 from rfl, g1, u_s2, g2, u_s2]
  have hJ1 : J1 270 = J 270 := g5 270 (by decide) (by decide)
  have h1 : RV X v I1 (J1 270) j := by rw [hJ1]; exact h.sc hv g4
  -- the wage
  rw [u_rd hm12 (by decide), u_s1, h1.m10 rfl hm12, hJ1, c1, u_rd c60 (by decide), u_s1, h1.d2 rfl c60, hJ1, u_wr c60 (by decide), u_s1]
  rw [nI_add, u_rd (show 80 + 24 * m + 10 < 3580 by omega) (by decide), u_s1, show J1 (269 + 1) = J 270 from hJ1, c1, u_s1, u_mul, nI_add, nI_add, u_rd (show 370 + 8 * c + 2 < 3580 by omega) (by decide), u_s1, show J1 (269 + 1) = J 270 from hJ1, u_wr (show 370 + 8 * c + 2 < 3580 by omega) (by decide), u_s1]
  have ck : J 270 (370 + 8 * c) = nI 1 := by rw [← hC]; exact (h.dd.2.1 m hm).2.2.2.1
  have h2 : RV X v (q_up I1 (v + 30) c (J 270 (370 + 8 * c + 2) + nI w)) (q_up J1 (269 + 1) (370 + 8 * c + 2) (J 270 (370 + 8 * c + 2) + nI w) 270) (j + 1) := by
    rw [show (269 + 1 : Nat) = 270 from rfl, up270, hJ1]
    rw [hJ1] at h1
    exact h1.up hv (vq_due c c60 2 (by decide) (by decide)) (rgS_n (rn_d2 c c60)) ((h1.dd.slack (Nat.le_succ j)).amount c60 _ ⟨cn (J 270) (370 + 8 * c + 2) + w, by rw [a1, nI_add], by omega, by omega⟩ (Or.inl ck)) (by omega) (by omega) (by omega)
  have t2 : q_up J1 (269 + 1) (370 + 8 * c + 2) (J 270 (370 + 8 * c + 2) + nI w) 270 = upd (J 270) (370 + 8 * c + 2) (J 270 (370 + 8 * c + 2) + nI w) := by rw [show (269 + 1 : Nat) = 270 from rfl, up270, hJ1]
  rw [u_rd hm12 (by decide), u_s1, h2.m8 rfl hm12, h2.sc0 (a := v) (by omega)]
  rw [nI_add (80 + 24 * m) 8, u_rd (show 80 + 24 * m + 8 < 3580 by omega) (by decide), u_s1, u_rd (show 80 + 24 * m + 1 < 3580 by omega) (by decide), u_s1]
  generalize hJ2 : q_up J1 (269 + 1) (370 + 8 * c + 2) (J 270 (370 + 8 * c + 2) + nI w) = J2 at h2 t2 ⊢
  generalize hI2 : q_up I1 (v + 30) c (J 270 (370 + 8 * c + 2) + nI w) = I2 at h2 ⊢
  have fc2 : FC v I I2 := by rw [← hI2]; exact g4.fc.up (by omega) (by omega)
  have gm2 : GM J J2 := by rw [← hJ2]; exact g5.gm.up (by decide)
  obtain ⟨w', I3, J3, q1, q2, -, q3, q4, q5⟩ := h2.tv.giv0 hv rfl (J 270 (80 + 24 * m + 1) * J 270 (10 + 5 * p)) (J 270 (80 + 24 * m + 1)) (nI 0)
  rw [q1, u_s2, show J2 (269 + 1) (80 + 24 * m + 1) = J 270 (80 + 24 * m + 1) by rw [show J2 (269 + 1) = _ from t2, upd_o (by omega)], q2, u_s2]
  have hJ3 : J3 270 = J2 270 := q5 270 (by decide) (by decide)
  have h3 : RV X v I3 (J3 270) (j + 1) := by rw [hJ3]; exact h2.sc hv q4
  -- what is short
  rw [u_wr hm12 (by decide), u_s1, show J2 (269 + 1) = J2 270 from rfl, u_wr (show 80 + 24 * m + 8 < 3580 by omega) (by decide), u_s1]
  have h4 := h3.up hv (vq_man m hm12 8 (by decide)) (x := J2 270 (80 + 24 * m + 8) + (nI w' - nI w)) (rgS_n (rn_m8 m hm12)) (h3.dd.up (by simp [dr]; omega) _) (by omega) (by omega) (by rw [show cn (J3 270) 2 = cn (J 270) 2 by rw [hJ3]; unfold cn; rw [t2, upd_o (by omega)]]; omega)
  rw [← up270] at h4
  have t3 : ∀ n, n ≠ 370 + 8 * c + 2 → J3 270 n = J 270 n := fun n hn => by rw [hJ3, t2, upd_o hn]
  generalize hJ4 : q_up J3 270 (80 + 24 * m + 8) (J2 270 (80 + 24 * m + 8) + (nI w' - nI w)) = J4 at h4
  have t4 : ∀ n, n ≠ 370 + 8 * c + 2 → n ≠ 80 + 24 * m + 8 → J4 270 n = J 270 n := fun n hn hn' => by rw [← hJ4, up270, upd_o hn', t3 n hn]
  try rw [show q_up J3 (269 + 1) (80 + 24 * m + 8) (J2 270 (80 + 24 * m + 8) + (nI w' - nI w)) = J4 from hJ4]
  have gm4 : GM J J4 := by rw [← hJ4]; exact (gm2.tr q5.gm).up (by decide)
  generalize hI4 : q_up I3 (v + (13 + 8)) m (J2 270 (80 + 24 * m + 8) + (nI w' - nI w)) = I4 at h4
  try rw [show q_up I3 (v + 21) m (J2 270 (80 + 24 * m + 8) + (nI w' - nI w)) = I4 from hI4]
  have fc4 : FC v I I4 := by rw [← hI4]; exact (fc2.tr q4.fc).up (by omega) (by omega)
  -- dug, told, tubs
  rw [u_rd hp8 (by decide), u_s1, h4.p2 rfl hp8, u_wr hp8 (by decide), u_s1, nI_add (10 + 5 * p) 2, u_rd (show 10 + 5 * p + 2 < 3580 by omega) (by decide), u_s1, u_wr (show 10 + 5 * p + 2 < 3580 by omega) (by decide), u_s1]
  have h5 := h4.up hv (vq_pit p hp8 2 (by decide)) (x := J4 270 (10 + 5 * p + 2) + J 270 (80 + 24 * m + 1) * J 270 (10 + 5 * p)) (rgS_n (rn_p2 p hp8)) (h4.dd.up (by simp [dr]; omega) _) (by omega) (by omega) (by omega)
  rw [← up270] at h5
  generalize hJ5 : q_up J4 270 (10 + 5 * p + 2) (J4 270 (10 + 5 * p + 2) + J 270 (80 + 24 * m + 1) * J 270 (10 + 5 * p)) = J5 at h5
  have t5 : ∀ n, n ≠ 10 + 5 * p + 2 → J5 270 n = J4 270 n := fun n hn => by rw [← hJ5, up270, upd_o hn]
  try rw [show q_up J4 (269 + 1) (10 + 5 * p + 2) (J4 (269 + 1) (10 + 5 * p + 2) + J 270 (80 + 24 * m + 1) * J 270 (10 + 5 * p)) = J5 from hJ5]
  have gm5 : GM J J5 := by rw [← hJ5]; exact gm4.up (by decide)
  generalize hI5 : q_up I4 (v + (2 + 2)) p (J4 270 (10 + 5 * p + 2) + J 270 (80 + 24 * m + 1) * J 270 (10 + 5 * p)) = I5 at h5
  try rw [show q_up I4 (v + 4) p (J4 270 (10 + 5 * p + 2) + J 270 (80 + 24 * m + 1) * J 270 (10 + 5 * p)) = I5 from hI5]
  have fc5 : FC v I I5 := by rw [← hI5]; exact fc4.up (by omega) (by omega)
  rw [u_rd hp8 (by decide), u_s1, h5.p3 rfl hp8, u_wr hp8 (by decide), u_s1, nI_add (10 + 5 * p) 3, u_rd (show 10 + 5 * p + 3 < 3580 by omega) (by decide), u_s1, u_wr (show 10 + 5 * p + 3 < 3580 by omega) (by decide), u_s1]
  have h6 := h5.up hv (vq_pit p hp8 3 (by decide)) (x := J5 270 (10 + 5 * p + 3) + J 270 (80 + 24 * m + 1) * J 270 (10 + 5 * p) * J 270 (10 + 5 * p + 1) / nI 100) (rgS_n (rn_p3 p hp8)) (h5.dd.up (by simp [dr]; omega) _) (by omega) (by omega) (by omega)
  rw [← up270] at h6
  generalize hJ6 : q_up J5 270 (10 + 5 * p + 3) (J5 270 (10 + 5 * p + 3) + J 270 (80 + 24 * m + 1) * J 270 (10 + 5 * p) * J 270 (10 + 5 * p + 1) / nI 100) = J6 at h6
  have t6 : ∀ n, n ≠ 10 + 5 * p + 3 → J6 270 n = J5 270 n := fun n hn => by rw [← hJ6, up270, upd_o hn]
  try rw [show q_up J5 (269 + 1) (10 + 5 * p + 3) (J5 (269 + 1) (10 + 5 * p + 3) + J 270 (80 + 24 * m + 1) * J 270 (10 + 5 * p) * J 270 (10 + 5 * p + 1) / nI 100) = J6 from hJ6]
  have gm6 : GM J J6 := by rw [← hJ6]; exact gm5.up (by decide)
  generalize hI6 : q_up I5 (v + (2 + 3)) p (J5 270 (10 + 5 * p + 3) + J 270 (80 + 24 * m + 1) * J 270 (10 + 5 * p) * J 270 (10 + 5 * p + 1) / nI 100) = I6 at h6
  try rw [show q_up I5 (v + 5) p (J5 270 (10 + 5 * p + 3) + J 270 (80 + 24 * m + 1) * J 270 (10 + 5 * p) * J 270 (10 + 5 * p + 1) / nI 100) = I6 from hI6]
  have fc6 : FC v I I6 := by rw [← hI6]; exact fc5.up (by omega) (by omega)
  have t6' : ∀ n, n ≠ 370 + 8 * c + 2 → n ≠ 80 + 24 * m + 8 → n ≠ 10 + 5 * p + 2 → n ≠ 10 + 5 * p + 3 → J6 270 n = J 270 n := fun n a b c d => by rw [t6 n d, t5 n c, t4 n a b]
  rw [u_rd hp8 (by decide), u_s1, h6.p4 rfl hp8, u_wr hp8 (by decide), u_s1, nI_add (10 + 5 * p) 4, u_rd (show 10 + 5 * p + 4 < 3580 by omega) (by decide), u_s1, u_rd (show 80 + 24 * m + 1 < 3580 by omega) (by decide), u_s1, u_wr (show 10 + 5 * p + 4 < 3580 by omega) (by decide), u_s1]
  have e1 : J6 270 (80 + 24 * m + 1) = J 270 (80 + 24 * m + 1) := t6' _ (by omega) (by omega) (by omega) (by omega)
  have e4 : J6 270 (10 + 5 * p + 4) = J 270 (10 + 5 * p + 4) := t6' _ (by omega) (by omega) (by omega) (by omega)
  have c0 : cn (J6 270) 0 = cn (J 270) 0 := by unfold cn; rw [t6' _ (by omega) (by omega) (by omega) (by omega)]
  rw [show J6 (269 + 1) (80 + 24 * m + 1) = J 270 (80 + 24 * m + 1) from e1]
  have h7 := h6.up hv (vq_pit p hp8 4 (by decide)) (x := J6 270 (10 + 5 * p + 4) + J 270 (80 + 24 * m + 1)) (rgS_n (rn_p4 p hp8)) (h6.dd.tubs hp8 _ ⟨cn (J 270) (10 + 5 * p + 4) + cn (J 270) (80 + 24 * m + 1), by rw [e4, b1, s1, nI_add], by omega, by omega⟩) (by omega) (by omega) (by omega)
  rw [← up270] at h7
  refine ⟨_, _, rfl, rfl, h7, fc6.up (by omega) (by omega), gm6.up (by decide), fun n hn => ?_⟩
  rw [show (269 + 1 : Nat) = 270 from rfl, up270, upd_o (by omega)]
  exact t6' n (by omega) (by omega) (by omega) (by omega)
