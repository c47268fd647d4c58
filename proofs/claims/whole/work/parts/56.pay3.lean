/-! LEVEL B: a week: the pay of a man -/
theorem hund {L h : Nat} (hL : L < 2 ^ 31) (hh : h ≤ 100) : (((nI L).toInt64 * (nI h).toInt64) / (100 : Int64)).toInt32 = nI (L * h / 100) := by
  have := Nat.mul_le_mul_left L hh
  rw [nI_l hL, nI_l (by omega), lN_mul, show (100 : Int64) = lN 100 by decide, pk_lDiv (by omega) (by decide) (by decide), lN_i]
/-- what was reckoned, in both -/
def PF (v : Nat) (I J : qI) : Prop := ∃ L c, L < 2 ^ 31 ∧ I (v + 61) 0 = nI L ∧ J 269 7 = nI L ∧ c ≤ L ∧ I (v + 61) 1 = nI c ∧ J 269 8 = nI c ∧ I (v + 61) 2 = nI L - nI c ∧ I (v + 61) 3 = J 269 9 ∧ I (v + 61) 4 = J 269 10 ∧ I (v + 61) 5 = J 269 11 ∧ I (v + 61) 6 = J 269 12
/-- the pay is done: D of the debt, c in coin, k in checks -/
theorem out_pair {X : qX} {v j m : Nat} {I J : qI} (h : RV X v I (J 270) j) (hv : v ≤ 195) (hj : j ≤ 12) (hm : m < cn (J 270) 2) {D L c : Nat} (hD : D ≤ cn (J 270) (370 + 8 * cn (J 270) (80 + 24 * m + 11) + 2)) (hc : c ≤ L) (hL : L ≤ 1000000000) (p6 : I (v + 61) 6 = nI D) (p1 : I (v + 61) 1 = nI c) (p2 : I (v + 61) 2 = nI L - nI c) (f12 : J 269 12 = nI D) (f8 : J 269 8 = nI c) (f7 : J 269 7 = nI L) : ∃ I' J', f_X9_payOut v (nI m) I = some I' ∧ (q_b1 (f_X12_manAt 269 (nI m)) fun v19 => q_b1 (q_rd J (269 + 1) 3580 (v19 + (nI 11))) fun v23 => q_b1 (f_X12_dueAt 269 v23) fun v25 => q_b1 (q_rd J (269 + 1) 3580 (v25 + (nI 2))) fun v27 => q_b1 (q_wr J (269 + 1) 3580 (v25 + (nI 2)) (v27 - (J 269 12))) fun I29 => q_b1 (q_rd I29 (269 + 1) 3580 (v19 + (nI 4))) fun v33 => q_b1 (f_X12_least (nI 99999) (v33 + (I29 269 8))) fun v35 => q_b1 (q_wr I29 (269 + 1) 3580 (v19 + (nI 4)) v35) fun I37 => q_b1 (q_rd I37 (269 + 1) 3580 (v19 + (nI 5))) fun v41 => q_b1 (f_X12_least (nI 99999) ((v41 + (I37 269 7)) - (I37 269 8))) fun v43 => q_b1 (q_wr I37 (269 + 1) 3580 (v19 + (nI 5)) v43) fun I45 => q_b1 (q_rd I45 (269 + 1) 3580 (v19 + (nI 10))) fun v49 => q_b1 (f_X12_dueAt 269 v49) fun v51 => q_b1 (q_wr I45 (269 + 1) 3580 (v51 + (nI 2)) (nI 0)) fun I53 => some (I53)) = some J' ∧ RD X v j I J I' J' ∧ I' (v + 61) = I (v + 61) ∧ J' 269 = J 269 := by
  have b := h.bd
  have hm12 : m < 12 := by omega
  obtain ⟨d1, d2⟩ := h.db hm
  obtain ⟨w1, w2⟩ := h.wg hm
  obtain ⟨a1, a2⟩ := h.am hj d2
  have kd6 := (h.dd.2.1 m hm).2.2.2.2.1
  have kw1 := (h.dd.2.1 m hm).2.2.2.1
  obtain ⟨c1, -, c2⟩ := h.r_m4 (m := m) hm12
  obtain ⟨e1, -, e2⟩ := h.r_m5 (m := m) hm12
  have k0 := h.k0.2
  unfold f_X9_payOut f_X12_manAt f_X12_dueAt
  generalize hdx : cn (J 270) (80 + 24 * m + 11) = dx at *
  generalize hwx : cn (J 270) (80 + 24 * m + 10) = wx at *
  have dx6 : dx < 60 := by omega
  have wx6 : wx < 60 := by omega
  have dw : dx ≠ wx := fun q => by rw [q, kw1] at kd6; exact absurd kd6 (by decide +kernel)
  -- the debt
  have dA := RD.up h hv (vq_due dx dx6 2 (by decide) (by decide)) (x := J 270 (370 + 8 * dx + 2) - nI D) (rgS_n (rn_d2 dx dx6)) (h.dd.amount dx6 _ ⟨cn (J 270) (370 + 8 * dx + 2) - D, by rw [a1, u_sub hD], by omega, by omega⟩ (Or.inr (Or.inl kd6))) (by omega) (by omega) (by omega)
  generalize hIA : q_up I (v + (28 + 2)) dx (J 270 (370 + 8 * dx + 2) - nI D) = IA at dA
  generalize hJA : q_up J 270 (370 + 8 * dx + 2) (J 270 (370 + 8 * dx + 2) - nI D) = JA at dA
  have tA : ∀ n, n ≠ 370 + 8 * dx + 2 → JA 270 n = J 270 n := fun n hn => by rw [← hJA, up270, upd_o hn]
  have fA : JA 269 = J 269 := by rw [← hJA]; funext z; rw [u_up_a (by decide)]
  have oA : IA (v + 61) = I (v + 61) := by rw [← hIA]; funext z; rw [u_up_a (by omega)]
  -- the wage
  have dB := RD.up dA.1 hv (vq_due wx wx6 2 (by decide) (by decide)) (x := nI 0) (rgS_n (rn_d2 wx wx6)) (dA.1.dd.amount wx6 _ ⟨0, rfl, by omega, by omega⟩ (Or.inl (by rw [tA _ (by omega)]; exact kw1))) (by omega) (by omega) (by rw [dA.c (by decide)]; omega)
  generalize hIB : q_up IA (v + (28 + 2)) wx (nI 0) = IB at dB
  generalize hJB : q_up JA 270 (370 + 8 * wx + 2) (nI 0) = JB at dB
  have tB : ∀ n, n ≠ 370 + 8 * dx + 2 → n ≠ 370 + 8 * wx + 2 → JB 270 n = J 270 n := fun n hn hn' => by rw [← hJB, up270, upd_o hn', tA n hn]
  have oB : IB (v + 61) = I (v + 61) := by rw [← hIB]; funext z; rw [u_up_a (by omega), oA]
  have c2B : cn (JB 270) 2 = cn (J 270) 2 := (dA.tr dB).c (by decide)
  -- coin, checks
  have dC := RD.up dB.1 hv (vq_man m hm12 4 (by decide)) (x := q_min (nI 99999) (J 270 (80 + 24 * m + 4) + nI c)) (by rw [c1, nI_add, q_min_nI (by decide) (by omega)]; exact rgS_i (rg_m4 m hm12) (by omega) (by omega)) (dB.1.dd.up (by simp [dr]; omega) _) (by omega) (by omega) (by omega)
  have dD := RD.up dC.1 hv (vq_man m hm12 5 (by decide)) (x := q_min (nI 99999) (J 270 (80 + 24 * m + 5) + (nI L - nI c))) (by rw [e1, u_sub hc, nI_add, q_min_nI (by decide) (by omega)]; exact rgS_i (rg_m5 m hm12) (by omega) (by omega)) (dC.1.dd.up (by simp [dr]; omega) _) (by omega) (by omega) (by rw [dC.c (by decide)]; omega)
  have d := ((dA.tr dB).tr dC).tr dD
  rw [u_rd hm12 (by decide), u_s1, h.m11 rfl hm12, d1, u_rd dx6 (by decide), u_s1, h.d2 rfl dx6, u_rd (show 6 < 7 by decide) (by decide), u_s1, p6, u_wr dx6 (by decide), u_s1, show q_up I (v + 30) dx (J 270 (370 + 8 * dx + 2) - nI D) = IA from hIA, u_rd hm12 (by decide), u_s1, dA.1.m10 rfl hm12, tA _ (by omega), w1, u_wr wx6 (by decide), u_s1, show q_up IA (v + 30) wx (nI 0) = IB from hIB, u_rd (show 1 < 7 by decide) (by decide), u_s1, oB, p1, dB.1.getCoin rfl hm12, u_s1, tB _ (by omega) (by omega), u_rd (show 2 < 7 by decide) (by decide), u_s1, u_up_a (by omega), oB, p2]
  have hC' : RV X v (q_up IB (v + 17) m (q_min (nI 99999) (J 270 (80 + 24 * m + 4) + nI c))) (upd (JB 270) (80 + 24 * m + 4) (q_min (nI 99999) (J 270 (80 + 24 * m + 4) + nI c))) j := by
    have := dC.1
    rw [up270] at this
    exact this
  rw [hC'.getChecks rfl hm12, u_s1, upd_o (by omega), tB _ (by omega) (by omega)]
  rw [u_s1, u_mul, nI_add, nI_add, u_rd (show 80 + 24 * m + 11 < 3580 by omega) (by decide), u_s1, show J (269 + 1) = J 270 from rfl, d1, u_s1, u_mul, nI_add, nI_add, u_rd (show 370 + 8 * dx + 2 < 3580 by omega) (by decide), u_s1, show J (269 + 1) = J 270 from rfl, f12, u_wr (show 370 + 8 * dx + 2 < 3580 by omega) (by decide), u_s1, show q_up J (269 + 1) (370 + 8 * dx + 2) (J 270 (370 + 8 * dx + 2) - nI D) = JA from hJA, nI_add, u_rd (show 80 + 24 * m + 4 < 3580 by omega) (by decide), u_s1, fA, f8, show JA (269 + 1) = JA 270 from rfl, tA _ (by omega), q_least, u_s1, u_wr (show 80 + 24 * m + 4 < 3580 by omega) (by decide), u_s1, nI_add, show (269 + 1 : Nat) = 270 from rfl, u_rd (show 80 + 24 * m + 5 < 3580 by omega) (by decide), u_s1, u_up_j (by omega), u_up_a (by decide), u_up_a (by decide), fA, f7, f8, tA _ (by omega), q_least, u_s1, u_wr (show 80 + 24 * m + 5 < 3580 by omega) (by decide), u_s1, nI_add, u_rd (show 80 + 24 * m + 10 < 3580 by omega) (by decide), u_s1, u_up_j (by omega), u_up_j (by omega), tA _ (by omega), w1, u_s1, u_mul, nI_add, nI_add, u_wr (show 370 + 8 * wx + 2 < 3580 by omega) (by decide), u_s1]
  rw [q_up_comm' (I := q_up JA 270 (80 + 24 * m + 4) _) (show 80 + 24 * m + 5 ≠ 370 + 8 * wx + 2 by omega), q_up_comm' (I := JA) (show 80 + 24 * m + 4 ≠ 370 + 8 * wx + 2 by omega), hJB, show J 270 (80 + 24 * m + 5) + nI L - nI c = J 270 (80 + 24 * m + 5) + (nI L - nI c) by rw [Int32.sub_eq_add_neg, Int32.sub_eq_add_neg, Int32.add_assoc]]
  refine ⟨_, _, rfl, rfl, d, ?_, ?_⟩
  · funext z; rw [u_up_a (by omega), u_up_a (by omega), oB]
  · funext z; rw [u_up_a (by decide), u_up_a (by decide), ← hJB, u_up_a (by decide), fA]
theorem reckon_pair {X : qX} {v j m : Nat} {I J : qI} (h : RV X v I (J 270) j) (hv : v ≤ 195) (hj : j ≤ 12) (hm : m < cn (J 270) 2) (g : Bool) {x3 : Int32} (hb : (x3 = 0 ∧ J 269 25 = 0) ∨ (¬ x3 = 0 ∧ ¬ J 269 25 = 0)) : ∃ I' J', f_X9_reckon v (nI m) (ib g) x3 X I = some I' ∧ f_X12_pays 269 (nI m) (ib g) J = some J' ∧ RD X v j I J I' J' ∧ PF v I' J' := by
  have b := h.bd
  have hm12 : m < 12 := by omega
  obtain ⟨w1, w2⟩ := h.wg hm
  obtain ⟨a1, a2⟩ := h.am hj w2
  have k0 := h.k0.2
  unfold f_X9_reckon f_X12_pays f_X1_taken
  rw [h.earned rfl hm, u_s1, h.earnedJ hm, u_s1, u_s1, u_up_same, a1]
  generalize hE : cn (J 270) (370 + 8 * cn (J 270) (80 + 24 * m + 10) + 2) = E at *
  have hE31 : E < 2 ^ 31 := by omega
  have dJ0 := RD.fld h (f := 7) (x := nI E) (by decide)
  generalize hJ0 : q_up J 269 7 (nI E) = J0 at dJ0 ⊢
  have z0 : J0 270 = J 270 := by rw [← hJ0]; funext z; rw [u_up_a (by decide)]
  have y0 : J0 269 7 = nI E := by rw [← hJ0]; exact u_up_same
  -- the rule of stops, as the model asks it
  obtain ⟨C0, I0', J6, s1, s2, -, s3, s4, s5⟩ := dJ0.1.tv.giv1 hv rfl (nI E) (nI 0) (nI 0)
  rw [s2, u_s2, u_s1, u_s1, u_s1]
  have z6 : J6 270 = J 270 := (s5 270 (by decide) (by decide)).trans z0
  have y6 : J6 269 = J0 269 := s5 269 (by decide) (by decide)
  have d6 : RD X v j I J0 I J6 := ⟨by rw [z6]; exact h, FC.rfl', s5.gm, fun n _ => by rw [z6, z0]⟩
  have dx9 := RD.fld d6.1 (f := 9) (x := nI 0) (by decide)
  have dx10 := RD.fld dx9.1 (f := 10) (x := nI 0) (by decide)
  have dx11 := RD.fld dx10.1 (f := 11) (x := nI 0) (by decide)
  have d12 := (((dJ0.tr d6).tr dx9).tr dx10).tr dx11
  generalize hJ12 : q_up (q_up (q_up J6 269 9 (nI 0)) 269 10 (nI 0)) 269 11 (nI 0) = J12 at d12 ⊢
  have z12 : J12 270 = J 270 := by rw [← hJ12]; funext z; rw [u_up_a (by decide), u_up_a (by decide), u_up_a (by decide), z6]
  have y7 : J12 269 7 = nI E := by rw [← hJ12, u_up_j (by decide), u_up_j (by decide), u_up_j (by decide), y6, y0]
  have y9 : J12 269 9 = nI 0 := by rw [← hJ12, u_up_j (by decide), u_up_j (by decide), u_up_same]
  have y10 : J12 269 10 = nI 0 := by rw [← hJ12, u_up_j (by decide), u_up_same]
  have y11 : J12 269 11 = nI 0 := by rw [← hJ12, u_up_same]
  have fu : ∀ {n : Nat}, n ≤ 60 → n < q_fu := fun hn => by have := q_fu1; omega
  -- draws
  obtain ⟨S1, Ia, Ja, t1, t2, t3, t4, t5, t6, t7, t8⟩ := pay1 (m := m) hv hE31 g (nI C0) (cn (J 270) 3) q_fu q_fu 0 0 I J12 (Nat.zero_add _) (fu b.2.2) (fu b.2.2) d12.1 (by rw [z12]) (by rw [y7, Nat.sub_zero]) y9 (Nat.zero_le _) hj
  have da := d12.tr t3
  rw [t1, u_s2, t2, u_wr (show 3 < 7 by decide) (by decide), u_s1, u_rd (show 3 < 7 by decide) (by decide), u_s1, u_up_same, u_sub t6]
  have ob := RD.own (J := Ja) t3.1 hv (o := 61) (i := 3) (x := nI S1) (by decide)
  -- fines
  obtain ⟨S2, Ic, Jc, p1, p2, p3, p4, p5, p6, p7, p8⟩ := pay2 (m := m) (E := E - S1) hv (by omega) g (nI C0) (cn (J 270) 3) q_fu q_fu 0 0 (q_up Ia (v + 61) 3 (nI S1)) Ja (Nat.zero_add _) (fu b.2.2) (fu b.2.2) ob.1 (da.c (by decide)) (by rw [t4, Nat.sub_zero]) (by rw [t7 10 (by decide)]; exact y10) (Nat.zero_le _) hj
  have dc := (da.tr ob).tr p3
  rw [p1, u_s2, p2, u_wr (show 4 < 7 by decide) (by decide), u_s1, u_rd (show 4 < 7 by decide) (by decide), u_s1, u_up_same, u_sub p6]
  have od := RD.own (J := Jc) p3.1 hv (o := 61) (i := 4) (x := nI S2) (by decide)
  have dd := dc.tr od
  -- the rule of stops, as the other side asks it
  have tvd : TV X v (q_up Ic (v + 61) 4 (nI S2)) (J0 270) := od.1.tv.cg (fun n hn => by rw [z0]; exact (dc.2.2.2 n (by omega)).symm)
  obtain ⟨C, Ie, Je, r1, r2, -, r3, r4, r5⟩ := tvd.giv1 hv rfl (nI E) (nI 0) (nI 0)
  rw [r2] at s2
  have eC : nI C = nI C0 := (Prod.mk.inj (Option.some.inj s2)).1
  have eC' : C = C0 := (nI_eq (by omega) (by omega)).mp eC
  subst eC'
  have day : q_up Ic (v + 61) 4 (nI S2) v 13 = J0 270 0 := by rw [od.1.sc0 (a := v) (by omega), dc.2.2.2 0 (by omega), z0]
  rw [day, r1, u_s2, q_min_nI (by omega) (by omega)]
  have he := od.1.sc hv r4
  have oe : Ie (v + 61) = q_up Ic (v + 61) 4 (nI S2) (v + 61) := r4 _ (by omega)
  -- stops
  obtain ⟨S3, If_, Jf, KM, q1, q2, q3, q4, q5, q6, q7, q8⟩ := pay3 (m := m) (L := E - S1 - S2) (C := C) hv (by omega) (by omega) g (cn (J 270) 3) q_fu q_fu 0 0 Ie Jc (Nat.zero_add _) (fu b.2.2) (fu b.2.2) he (dc.c (by decide)) (by rw [p4, Nat.sub_zero]) (by rw [p7 11 (by decide), t7 11 (by decide)]; exact y11) (Nat.zero_le _) hj
  have de : RD X v j (q_up Ic (v + 61) 4 (nI S2)) Jc Ie Jc := ⟨he, r4.fc, GM.rfl', fun _ _ => rfl⟩
  have df := (dd.tr de).tr q3
  rw [q1, u_s2, q2, u_wr (show 5 < 7 by decide) (by decide), u_s1, u_rd (show 5 < 7 by decide) (by decide), u_s1, u_up_same, u_sub (show S3 ≤ E - S1 - S2 by omega)]
  have og := RD.own (J := Jf) q3.1 hv (o := 61) (i := 5) (x := nI S3) (by decide)
  have dg := df.tr og
  have hmf : m < cn (Jf 270) 2 := by rw [df.c (by decide)]; exact hm
  obtain ⟨d1, d2⟩ := og.1.db hmf
  obtain ⟨o1, o2⟩ := og.1.am hj d2
  have k0f := og.1.k0.2
  -- the debt
  rw [og.1.owed rfl hmf, u_s1, o1]
  unfold b_X12_pays_318
  rw [u_rd (show 3 < 3580 by decide) (by decide), u_s1, og.1.k3.1, df.c (n := 3) (by decide), if_pos (Int32.le_refl _), og.1.owedJ hmf, u_s1, o1, q4, q_least, u_s1, u_s1]
  generalize hOw : cn (Jf 270) (370 + 8 * cn (Jf 270) (80 + 24 * m + 11) + 2) = ow at *
  rw [q_min_nI (by omega) (by omega), u_wr (show 6 < 7 by decide) (by decide), u_s1, u_rd (show 6 < 7 by decide) (by decide), u_s1, u_up_same]
  generalize hL3 : E - S1 - S2 - S3 = L3 at *
  generalize hDb : min L3 ow = D
  have hDL : D ≤ L3 := by omega
  rw [u_sub hDL, u_up_j (by decide), q4, u_up_same, u_sub hDL, u_s1, u_up_same]
  have oh := RD.own (J := Jf) og.1 hv (o := 61) (i := 6) (x := nI D) (by decide)
  have m12 := RD.fld oh.1 (f := 12) (x := nI D) (by decide)
  have m7 := RD.fld m12.1 (f := 7) (x := nI (L3 - D)) (by decide)
  have dh := ((dg.tr oh).tr m12).tr m7
  generalize hI40 : q_up (q_up If_ (v + 61) 5 (nI S3)) (v + 61) 6 (nI D) = I40 at dh oh m12 m7 ⊢
  generalize hJ11 : q_up (q_up Jf 269 12 (nI D)) 269 7 (nI (L3 - D)) = J11 at dh m7 ⊢
  generalize hL4 : L3 - D = L4 at *
  have L31 : L4 ≤ 1000000000 := by omega
  have y25 : J11 269 25 = J 269 25 := dh.2.2.1.2 25 (by decide)
  have i3 : I40 (v + 61) 3 = nI S1 := by rw [← hI40, u_up_j (by decide), u_up_j (by decide), q8, oe, u_up_j (by decide), p8, u_up_same]
  have i4 : I40 (v + 61) 4 = nI S2 := by rw [← hI40, u_up_j (by decide), u_up_j (by decide), q8, oe, u_up_same]
  have i5 : I40 (v + 61) 5 = nI S3 := by rw [← hI40, u_up_j (by decide), u_up_same]
  have i6 : I40 (v + 61) 6 = nI D := by rw [← hI40, u_up_same]
  have j9 : J11 269 9 = nI S1 := by rw [← hJ11, u_up_j (by decide), u_up_j (by decide), q7 9 (by decide), p7 9 (by decide), t5]
  have j10 : J11 269 10 = nI S2 := by rw [← hJ11, u_up_j (by decide), u_up_j (by decide), q7 10 (by decide), p5]
  have j11 : J11 269 11 = nI S3 := by rw [← hJ11, u_up_j (by decide), u_up_j (by decide), q5]
  have j12 : J11 269 12 = nI D := by rw [← hJ11, u_up_j (by decide), u_up_same]
  have j7 : J11 269 7 = nI L4 := by rw [← hJ11, u_up_same]
  have t11 : J11 270 = Jf 270 := by rw [← hJ11]; funext z; rw [u_up_a (by decide), u_up_a (by decide)]
  -- the rule of coin
  have coin : ∃ hn I48 J14, hn ≤ 100 ∧ (if x3 = 0 then q_b2 (f_X7_given (v + 36) (nI 3) (I40 v 13) (nI L4) (I40 v 13 / nI 7) (nI 0) X I40) fun v47 I48 => b_X9_reckon_181 v (nI m) (ib g) x3 X (nI L4) v47 I48 else b_X9_reckon_181 v (nI m) (ib g) x3 X (nI L4) (nI 100) I40) = b_X9_reckon_181 v (nI m) (ib g) x3 X (nI L4) (nI hn) I48 ∧ f_X12_coinOf 269 (nI L4) J11 = some (nI hn, J14) ∧ SC v I40 I48 ∧ SJ J11 J14 := by
    unfold f_X12_coinOf f_X12_week
    rw [y25, m7.1.sc0 (a := v) (by omega)]
    rcases hb with ⟨b1, b2⟩ | ⟨b1, b2⟩
    · obtain ⟨hn, I48, J14, g1, g2, -, g3, g4, g5⟩ := m7.1.tv.giv3 hv rfl (nI L4) (J11 270 0 / nI 7) (nI 0)
      rw [if_pos b1, if_pos b2, g1, u_s2, u_rd (show 0 < 3580 by decide) (by decide), u_s1, u_s1, show J11 (269 + 1) = J11 270 from rfl, g2, u_s2]
      exact ⟨hn, I48, J14, g3, rfl, rfl, g4, g5⟩
    · rw [if_neg b1, if_neg b2]
      exact ⟨100, I40, J11, Nat.le_refl _, rfl, rfl, SC.rf, SJ.rf⟩
  obtain ⟨hn, I48, J14, c1, c2, c3, c4, c5⟩ := coin
  rw [c2, c3, u_s2, u_s1]
  unfold b_X9_reckon_181
  rw [hund (by omega) c1, u_wr (show 0 < 7 by decide) (by decide), u_s1, u_wr (show 1 < 7 by decide) (by decide), u_s1, u_rd (show 1 < 7 by decide) (by decide), u_s1, u_up_same, u_wr (show 2 < 7 by decide) (by decide), u_s1, ite_ib', ite_ib']
  generalize hcn : L4 * hn / 100 = cc
  have ccL : cc ≤ L4 := by
    rw [← hcn]
    exact Nat.div_le_of_le_mul (by have := Nat.mul_le_mul_left L4 c1; omega)
  have t14 : J14 270 = J11 270 := c5 270 (by decide) (by decide)
  have d14 : RD X v j I40 J11 I48 J14 := ⟨by rw [t14]; exact m7.1.sc hv c4, c4.fc, c5.gm, fun n _ => by rw [t14]⟩
  have e0 := RD.own (J := J14) d14.1 hv (o := 61) (i := 0) (x := nI L4) (by decide)
  have e1 := RD.own (J := J14) e0.1 hv (o := 61) (i := 1) (x := nI cc) (by decide)
  have e2 := RD.own (J := J14) e1.1 hv (o := 61) (i := 2) (x := nI L4 - nI cc) (by decide)
  have m8 := RD.fld e2.1 (f := 8) (x := nI cc) (by decide)
  have dn := (((d14.tr e0).tr e1).tr e2).tr m8
  generalize hI11 : q_up (q_up (q_up I48 (v + 61) 0 (nI L4)) (v + 61) 1 (nI cc)) (v + 61) 2 (nI L4 - nI cc) = I11 at dn m8 ⊢
  generalize hJ16 : q_up J14 269 8 (nI cc) = J16 at dn m8 ⊢
  have o48 : I48 (v + 61) = I40 (v + 61) := c4 _ (by omega)
  have f14 : J14 269 = J11 269 := c5 269 (by decide) (by decide)
  have pf : ∀ I' J' : qI, I' (v + 61) = I11 (v + 61) → J' 269 = J16 269 → PF v I' J' := by
    intro I' J' hI' hJ'
    refine ⟨L4, cc, by omega, ?_, ?_, ccL, ?_, ?_, ?_, ?_, ?_, ?_, ?_⟩
    · rw [hI', ← hI11, u_up_j (by decide), u_up_j (by decide), u_up_same]
    · rw [hJ', ← hJ16, u_up_j (by decide), f14, j7]
    · rw [hI', ← hI11, u_up_j (by decide), u_up_same]
    · rw [hJ', ← hJ16, u_up_same]
    · rw [hI', ← hI11, u_up_same]
    · rw [hI', hJ', ← hI11, ← hJ16, u_up_j (by decide), u_up_j (by decide), u_up_j (by decide), u_up_j (by decide), o48, f14, i3, j9]
    · rw [hI', hJ', ← hI11, ← hJ16, u_up_j (by decide), u_up_j (by decide), u_up_j (by decide), u_up_j (by decide), o48, f14, i4, j10]
    · rw [hI', hJ', ← hI11, ← hJ16, u_up_j (by decide), u_up_j (by decide), u_up_j (by decide), u_up_j (by decide), o48, f14, i5, j11]
    · rw [hI', hJ', ← hI11, ← hJ16, u_up_j (by decide), u_up_j (by decide), u_up_j (by decide), u_up_j (by decide), o48, f14, i6, j12]
  have dall := dh.tr dn
  have t16 : J16 270 = Jf 270 := by rw [← hJ16]; funext z; rw [u_up_a (by decide), t14, t11]
  cases g with
  | false =>
    simp only [Bool.false_eq_true, if_false]
    exact ⟨I11, J16, rfl, rfl, dall, pf _ _ rfl rfl⟩
  | true =>
    simp only [if_true]
    obtain ⟨I', J', v1, v2, v3, v4, v5⟩ := out_pair m8.1 hv hj (m := m) (D := D) (L := L4) (c := cc) (by rw [t16]; exact hmf) (by rw [t16, hOw]; omega) ccL L31 (by rw [← hI11, u_up_j (by decide), u_up_j (by decide), u_up_j (by decide), o48, i6]) (by rw [← hI11, u_up_j (by decide), u_up_same]) (by rw [← hI11, u_up_same]) (by rw [← hJ16, u_up_j (by decide), f14, j12]) (by rw [← hJ16, u_up_same]) (by rw [← hJ16, u_up_j (by decide), f14, j7])
    rw [v1, v2, u_s1]
    exact ⟨I', J', rfl, rfl, dall.tr v3, pf _ _ v4 v5⟩
