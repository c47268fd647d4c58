/-! LEVEL B: texts: a whole tape read -/
def FA (A : Nat) (I J I' J' : qI) : Prop := (∀ a, a ≠ 260 → a ≠ 262 → I' a = I a) ∧ (∀ a, a ≠ 269 → a ≠ 270 → J' a = J a) ∧ (∀ k, (k < 14 ∨ 24 < k) → J' 269 k = J 269 k) ∧ J' 269 14 = nI 0 ∧ ∀ m, (m < A ∨ A + 192 ≤ m) → J' 270 m = J 270 m
def spA (cc : Nat) : Nat := if 12 ≤ cc then 3380 else 850 + 200 * cc + 4
theorem ps {I J : qI} {c cc : Nat} (hc : c ≤ 96) (t6 : I 260 6 = nI c) (t14 : J 269 14 = nI c) (tt : ∀ i, i < c → I 261 i = J 276 i) (h4 : J 270 4 = nI cc) (hcc : cc ≤ 12) : ∃ v I' J', f_X5_firstFault 260 I = some (v, I') ∧ FA (spA cc) I J I' J' ∧ ((∃ p, p ≤ 96 ∧ v = nI p ∧ J' 269 15 = nI p ∧ f_X12_parse 269 J = some (-1, J')) ∨ (∃ key L dd, v = -1 ∧ f_X12_parse 269 J = some (nI key, J') ∧ key < 7 ∧ I' 260 7 = nI key ∧ L ≤ 96 ∧ I' 260 2 = nI L ∧ J' 269 22 = nI L ∧ I' 260 8 = J' 269 24 ∧ wfc key L (I' 262) (fun m => J' 270 (spA cc + m)) dd ∧ dd L = 1)) := by
  have hA : spA cc + 192 ≤ 3580 := by unfold spA; split <;> omega
  have eP : f_X12_parse 269 J = b_X12_parse_60 269 (nI (spA cc)) (q_up (q_up (q_up (q_up (q_up (q_up J 269 16 (nI 0)) 269 17 (nI 3)) 269 20 (nI 0)) 269 21 (nI 0)) 269 22 (nI 0)) 269 24 (nI 0)) := by
    unfold f_X12_parse f_X12_textAt spA
    rw [u_s1, u_s1, u_s1, u_s1, u_s1, u_s1, u_rd (show 4 < 3580 by decide) (by decide), u_s1, u_s1, u_s1, show (q_up (q_up (q_up (q_up (q_up (q_up J 269 16 (nI 0)) 269 17 (nI 3)) 269 20 (nI 0)) 269 21 (nI 0)) 269 22 (nI 0)) 269 24 (nI 0)) (269 + 1) 4 = nI cc by rw [u_up_a (by decide), u_up_a (by decide), u_up_a (by decide), u_up_a (by decide), u_up_a (by decide), u_up_a (by decide)]; exact h4]
    by_cases z : 12 ≤ cc
    · rw [if_pos (nI_le z (by omega)), if_pos z]
    · rw [if_neg (nI_ge (by omega) (by decide)), if_neg z, u_mul, nI_add, nI_add]
  rw [eP]
  unfold f_X5_firstFault b_X12_parse_60
  rw [u_s1, u_s1, u_s1, u_s1, u_s1]
  generalize hAA : spA cc = A at *
  generalize hI0 : q_up (q_up (q_up (q_up I 260 2 (nI 0)) 260 8 (nI 0)) 260 3 (nI 0)) 260 5 (nI 0) = I0
  generalize hJ0 : q_up (q_up (q_up (q_up (q_up (q_up (q_up J 269 16 (nI 0)) 269 17 (nI 3)) 269 20 (nI 0)) 269 21 (nI 0)) 269 22 (nI 0)) 269 24 (nI 0)) 269 23 (nI A) = J0
  have oI : ∀ a, a ≠ 260 → I0 a = I a := fun a ha => by subst hI0; funext k; rw [u_up_a ha, u_up_a ha, u_up_a ha, u_up_a ha]
  have oJ : ∀ a, a ≠ 269 → J0 a = J a := fun a ha => by subst hJ0; funext k; rw [u_up_a ha, u_up_a ha, u_up_a ha, u_up_a ha, u_up_a ha, u_up_a ha, u_up_a ha]
  have fJ : ∀ k, (k < 16 ∨ 24 < k) → J0 269 k = J 269 k := fun k hk => by subst hJ0; rw [u_up_j (by omega), u_up_j (by omega), u_up_j (by omega), u_up_j (by omega), u_up_j (by omega), u_up_j (by omega), u_up_j (by omega)]
  have i2 : I0 260 2 = nI 0 := by subst hI0; rw [u_up_j (by decide), u_up_j (by decide), u_up_j (by decide), u_up_same]
  have i8 : I0 260 8 = nI 0 := by subst hI0; rw [u_up_j (by decide), u_up_j (by decide), u_up_same]
  have i3 : I0 260 3 = nI 0 := by subst hI0; rw [u_up_j (by decide), u_up_same]
  have i5 : I0 260 5 = nI 0 := by subst hI0; rw [u_up_same]
  have i6 : I0 260 6 = nI c := by subst hI0; rw [u_up_j (by decide), u_up_j (by decide), u_up_j (by decide), u_up_j (by decide), t6]
  have j16 : J0 269 16 = nI 0 := by subst hJ0; rw [u_up_j (by decide), u_up_j (by decide), u_up_j (by decide), u_up_j (by decide), u_up_j (by decide), u_up_j (by decide), u_up_same]
  have j17 : J0 269 17 = nI 3 := by subst hJ0; rw [u_up_j (by decide), u_up_j (by decide), u_up_j (by decide), u_up_j (by decide), u_up_j (by decide), u_up_same]
  have j20 : J0 269 20 = nI 0 := by subst hJ0; rw [u_up_j (by decide), u_up_j (by decide), u_up_j (by decide), u_up_j (by decide), u_up_same]
  have j21 : J0 269 21 = nI 0 := by subst hJ0; rw [u_up_j (by decide), u_up_j (by decide), u_up_j (by decide), u_up_same]
  have j22 : J0 269 22 = nI 0 := by subst hJ0; rw [u_up_j (by decide), u_up_j (by decide), u_up_same]
  have j24 : J0 269 24 = nI 0 := by subst hJ0; rw [u_up_j (by decide), u_up_same]
  have j23 : J0 269 23 = nI A := by subst hJ0; rw [u_up_same]
  clear hI0 hJ0
  have hT0 : TT (I 261) c I0 J0 := ⟨hc, i6, (fJ 14 (by decide)).trans t14, fun i hi => ⟨by rw [oI 261 (by decide)], by rw [oJ 276 (by decide)]; exact (tt i hi).symm⟩⟩
  obtain ⟨I1, J1, p, e, k, a1, a2, a3, -, a4, a5⟩ := nx0 hT0 (Nat.zero_le c) i5 i3 j16 j17 (by decide) (by decide) (by decide) (by decide)
  have hT1 : TT (I 261) c I1 J1 := hT0.cg (a4.2 6 (by decide)) (a5.2 14 (by decide)) (a4.1 261 (by decide)) (a5.1 276 (by decide))
  obtain ⟨v, v1, v2, v3⟩ := key_ev a3 hT1
  have hp96 := a3.1
  rw [a1, a2, u_s1, u_s1, v1, v2, u_s1, u_s1, u_s1, u_up_same]
  have x4 : q_up I1 260 7 v 260 4 = nI p := by rw [u_up_j (by decide)]; exact a3.2.1.1
  rcases v3 with rfl | ⟨key, hkey, rfl⟩
  · rw [if_neg (by decide), if_pos (by decide), x4]
    unfold b_X12_parse_81 b_X12_parse_111
    rw [if_pos nI_0, u_s1, if_pos nI_0]
    refine ⟨_, _, _, rfl, ⟨fun a h1 h2 => ?_, fun a h1 h2 => ?_, fun q hq => ?_, u_up_same, fun m hm => ?_⟩, Or.inl ⟨p, by omega, rfl, ?_, rfl⟩⟩
    · funext z; rw [u_up_a h1, a4.1 a h1, oI a h1]
    · funext z; rw [u_up_a h1, a5.1 a h1, oJ a h1]
    · rw [u_up_j (by omega), a5.2 q (by omega), fJ q (by omega)]
    · rw [u_up_a (by decide), a5.1 270 (by decide), oJ 270 (by decide)]
    · rw [u_up_j (by decide)]; exact a3.2.2.1.1
  rw [if_pos (nI_pos' (by omega)), if_neg (nI_pos (by omega))]
  have cI2 : ∀ a, a ≠ 260 → q_up I1 260 7 (nI key) a = I a := fun a ha => by funext z; rw [u_up_a ha, a4.1 a ha, oI a ha]
  have fI2 : ∀ q, q ≠ 7 → q_up I1 260 7 (nI key) 260 q = I1 260 q := fun q hq => u_up_j hq
  have x7 : q_up I1 260 7 (nI key) 260 7 = nI key := u_up_same
  generalize q_up I1 260 7 (nI key) = I2 at *
  have hC : CX key A (I 261) c I2 J1 := ⟨hkey, hA, hT1.cg (fI2 6 (by decide)) rfl (by rw [cI2 261 (by decide), a4.1 261 (by decide), oI 261 (by decide)]) rfl, x7, by rw [a5.2 23 (by decide)]; exact j23⟩
  have hq : PQ key A (I 261) c I2 J1 0 0 0 0 p e k I2 J1 := by
    refine ⟨⟨⟨fun _ _ _ => rfl, fun _ _ => rfl⟩, fun _ _ _ => rfl, fun _ _ => rfl, fun _ _ => rfl⟩, ⟨a3.1, ⟨by rw [fI2 4 (by decide)]; exact a3.2.1.1, by rw [fI2 5 (by decide)]; exact a3.2.1.2.1, by rw [fI2 3 (by decide)]; exact a3.2.1.2.2⟩, a3.2.2⟩, ⟨by rw [fI2 2 (by decide), a4.2 2 (by decide)]; exact i2, by rw [a5.2 22 (by decide)]; exact j22⟩, by rw [fI2 8 (by decide), a4.2 8 (by decide), a5.2 24 (by decide), i8, j24], ⟨by rw [a5.2 20 (by decide)]; exact j20, by rw [a5.2 21 (by decide)]; exact j21⟩, fun _ => 0, ⟨rfl, fun q hq => absurd hq (Nat.not_lt_zero _)⟩, rfl⟩
  obtain ⟨I3, J3, p3, e3, k3, b1, b2, b3, b4⟩ := hq.nx hC
  obtain ⟨I4, J4, z⟩ := exp_GP hC (all_GP hC 16 0 0 94 95 (by decide) (by decide) rfl (by decide) (by decide)) I3 J3 0 0 p3 ⟨_, _, b3, Nat.zero_le _⟩
  have eC : f_X5_expression (94 + 6) 260 (nI 0) (nI 0) (nI 0) I3 = f_X5_expression q_rd0 260 (nI 0) (nI 0) (nI 0) I3 := rfl
  have eM : f_X12_either (95 + 5) 269 (nI key) J3 = f_X12_either q_rd0 269 (nI key) J3 := rfl
  rw [eC, eM] at z
  unfold b_X12_parse_81
  rw [if_neg nI1, b1, b2, u_s1, u_s1]
  have fr : PZ A I2 J1 I4 J4 → FA A I J I4 (q_up J4 269 14 (nI 0)) := by
    rintro ⟨⟨f1, f2⟩, f3, f4, f5⟩
    refine ⟨fun a h1 h2 => ?_, fun a h1 h2 => ?_, fun q hq => ?_, u_up_same, fun m hm => ?_⟩
    · rw [f1 a h1 h2, cI2 a h1]
    · funext y; rw [u_up_a h1, f3 a h1 h2, a5.1 a h1, oJ a h1]
    · rw [u_up_j (by omega), f4 q (by omega), a5.2 q (by omega), fJ q (by omega)]
    · rw [u_up_a (by decide), f5 m hm, a5.1 270 (by decide), oJ 270 (by decide)]
  rcases z with ⟨z1, z2, z3, q, q1, q2, q3⟩ | ⟨z1, z2, L, p4, ⟨e4, k4, z3, z4⟩, z5⟩
  · rw [z1, z2, u_s2, u_s2, if_pos nI_0, if_pos nI_0]
    unfold b_X12_parse_109 b_X12_parse_110 b_X12_parse_111
    rw [u_s1, if_pos nI_0, q2]
    exact ⟨_, _, _, rfl, fr z3, Or.inl ⟨q, q1, rfl, by rw [u_up_j (by decide)]; exact q3, rfl⟩⟩
  rw [z1, z2, u_s2, u_s2, if_neg nI1, if_neg nI1, show I4 260 3 = nI k4 from z3.2.1.2.1.2.2, show J4 269 17 = nI k4 from z3.2.1.2.2.1.2.2]
  have l4 := z3.2.1.1
  unfold b_X12_parse_109 b_X12_parse_110 b_X12_parse_111
  rw [u_s1]
  by_cases k0 : k4 = 0
  · have e0 : nI k4 = (0 : Int32) := by rw [k0]; exact nI_0
    rw [if_pos e0, if_pos e0, if_neg nI1]
    obtain ⟨w1, w2, ⟨w3, w4⟩, w5, w6, dd, w7, w8⟩ := z3
    refine ⟨_, _, _, rfl, fr w1, Or.inr ⟨key, L, dd, rfl, rfl, hkey, (w1.1.2 7 (by decide)).trans x7, by omega, w3, by rw [u_up_j (by decide)]; exact w4, by rw [u_up_j (by decide)]; exact w5, ?_, w8⟩⟩
    rw [show q_up J4 269 14 (nI 0) 270 = J4 270 by funext m; exact u_up_a (by decide)]
    exact w7
  · have e0 : ¬ nI k4 = (0 : Int32) := fun q => k0 ((nI_eq (by omega) (by omega)).mp (q.trans nI_0.symm))
    rw [if_neg e0, if_neg e0, u_s1, if_pos nI_0, show I4 260 4 = nI p4 from z3.2.1.2.1.1]
    exact ⟨_, _, _, rfl, fr z3.1, Or.inl ⟨p4, by omega, rfl, by rw [u_up_j (by decide)]; exact z3.2.1.2.2.1.1, rfl⟩⟩
