/-! LEVEL B: texts: levels -/
def vL (l : Nat) (S : qI → Option (Int32 × qI)) (k : qI → Option (Int32 × qI)) (J : qI) : Option (Int32 × qI) := if J 269 17 = nI 3 ∧ jn l (J 269 19) = true then q_b1 (f_X12_next 269 J) fun J1 => q_b2 (S J1) fun v J2 => if v = 0 then some (nI 0, J2) else q_b1 (f_X12_step 269 (nI 2) (J 269 19) J2) k else some (nI 1, J)
def vB (l : Nat) (S : qI → Option (Int32 × qI)) (J : qI) : Option (Int32 × qI) := q_b2 (S J) fun v J2 => if v = 0 then some (nI 0, J2) else if l = 2 then vL l S (fun J => some (nI 1, J)) J2 else q_fix (fun _ => none) (vL l S) q_fu J2
theorem it {key A : Nat} {T : Nat → Int32} {n : Nat} {I0 J0 : qI} (hC : CX key A T n I0 J0) {dp tn l : Nat} (hl : l < 5) {C M : qI → Option (Int32 × qI)} (hs : GP key A T n I0 J0 dp tn C M) {L d p : Nat} {I J : qI} (h : PP key A T n I0 J0 dp tn L (d + 1) p I J) : (f_X5_joinsAt 260 (nI l) I = some (nI 0) ∧ ¬ (J 269 17 = nI 3 ∧ jn l (J 269 19) = true)) ∨ (f_X5_joinsAt 260 (nI l) I = some (nI 1) ∧ (J 269 17 = nI 3 ∧ jn l (J 269 19) = true) ∧ q_rd I 261 96 (I 260 4) = some (J 269 19) ∧ ∃ I1 J1 I2 J2, f_X5_goOn 260 I = some I1 ∧ f_X12_next 269 J = some J1 ∧ ((C I1 = some (nI 0, I2) ∧ M J1 = some (nI 0, J2) ∧ FF A I0 J0 I2 J2) ∨ (C I1 = some (nI 1, I2) ∧ M J1 = some (nI 1, J2) ∧ ∃ I3 J3 L' p', f_X5_emit 260 (- J 269 19) I2 = some I3 ∧ f_X12_step 269 (nI 2) (J 269 19) J2 = some J3 ∧ PP key A T n I0 J0 dp tn L' (d + 1) p' I3 J3 ∧ (L' + p ≤ L + p' ∧ p + 1 ≤ p')))) := by
  obtain ⟨e, k, hq, hL⟩ := h
  have hT := hq.tt hC
  have hn := hC.2.2.1.1
  have hle := hq.2.1.1
  have k17 : J 269 17 = nI k := hq.2.1.2.2.1.2.2
  rw [joins_ev hq.2.1 hT hl, k17]
  by_cases k3 : k = 3
  rotate_left
  · left
    rw [if_neg (fun q => k3 q.1)]
    exact ⟨rfl, fun q => k3 ((nI_eq (by omega) (by omega)).mp q.1)⟩
  have k19 : J 269 19 = T p := hq.2.1.2.2.2.1 k3
  rw [k19]
  by_cases c : jn l (T p) = true
  rotate_left
  · left
    rw [if_neg (fun q => c q.2)]
    exact ⟨rfl, fun q => c q.2⟩
  right
  have pe := hle.2.2.2 (show k ≠ 0 by omega)
  rw [if_pos ⟨k3, c⟩, hq.2.1.2.1.1, u_rd (show p < 96 by omega) (by decide), (hT.2.2.2 p (by omega)).1]
  obtain ⟨I1, J1, p1, e1, k1, a1, a2, a3, a4⟩ := hq.nx hC
  obtain ⟨I2, J2, b⟩ := hs I1 J1 L (d + 1) p1 ⟨_, _, a3, by omega⟩
  refine ⟨rfl, ⟨by rw [k3], c⟩, rfl, I1, J1, I2, J2, a1, a2, ?_⟩
  rcases b with b | ⟨b1, b2, L2, p2, ⟨e2, k2, b3, b4⟩, b5⟩
  · exact Or.inl b
  right
  obtain ⟨s, s1, s2⟩ := jn_op hl c
  have hl2 := b3.2.1.1
  obtain ⟨I3, J3, d1, d2, d3, -, -⟩ := b3.emit hC (by omega) (x := - T p) (w := nI 2) (y := T p) (d' := d + 1) (Or.inr (Or.inr (Or.inr ⟨s, s1, by rw [s2], rfl, s2, by omega, rfl⟩)))
  exact ⟨b1, b2, I3, J3, L2 + 1, p2, d1, d2, ⟨_, _, d3, by omega⟩, by omega⟩
theorem lp_GP {key A : Nat} {T : Nat → Int32} {n : Nat} {I0 J0 : qI} (hC : CX key A T n I0 J0) {dp tn l : Nat} (hl : l < 5) {Fe : Nat → Int32 → Int32 → Int32 → qI → Option (Int32 × qI)} {Fp : Nat → Int32 → Int32 → qI → Option (Int32 × qI)} {M : qI → Option (Int32 × qI)} (hs : GP key A T n I0 J0 dp tn (Fe 260 (nI (l + 1)) (nI dp) (nI tn)) M) (d : Nat) : ∀ r f g i I J L p, 96 < p + r → r ≤ f → r ≤ g → i ≤ p → PP key A T n I0 J0 dp tn L (d + 1) p I J → ∃ I' J', (q_fix (fun _ _ _ => none) (b_X5_expression_42 260 (nI l) (nI dp) (nI tn) Fe Fp) f (nI 96) (nI i) I = some (nI 0, I') ∧ q_fix (fun _ => none) (vL l M) g J = some (nI 0, J') ∧ FF A I0 J0 I' J') ∨ (q_fix (fun _ _ _ => none) (b_X5_expression_42 260 (nI l) (nI dp) (nI tn) Fe Fp) f (nI 96) (nI i) I = some (nI 1, I') ∧ q_fix (fun _ => none) (vL l M) g J = some (nI 1, J') ∧ ∃ L' p', PP key A T n I0 J0 dp tn L' (d + 1) p' I' J' ∧ (L' + p ≤ L + p' ∧ p ≤ p')) := by
  intro r
  induction r with
  | zero =>
    intro f g i I J L p h1 h2 h3 h4 h
    have := h.le hC
    omega
  | succ r ih =>
    intro f g i I J L p h1 h2 h3 h4 h
    have hle := h.le hC
    obtain ⟨f, rfl⟩ : ∃ z, f = z + 1 := ⟨f - 1, by omega⟩
    obtain ⟨g, rfl⟩ : ∃ z, g = z + 1 := ⟨g - 1, by omega⟩
    have ih' := fun I J L p => ih f g (i + 1) I J L p
    show ∃ I' J', (b_X5_expression_42 260 (nI l) (nI dp) (nI tn) Fe Fp (q_fix (fun _ _ _ => none) (b_X5_expression_42 260 (nI l) (nI dp) (nI tn) Fe Fp) f) (nI 96) (nI i) I = some (nI 0, I') ∧ vL l M (q_fix (fun _ => none) (vL l M) g) J = some (nI 0, J') ∧ FF A I0 J0 I' J') ∨ (b_X5_expression_42 260 (nI l) (nI dp) (nI tn) Fe Fp (q_fix (fun _ _ _ => none) (b_X5_expression_42 260 (nI l) (nI dp) (nI tn) Fe Fp) f) (nI 96) (nI i) I = some (nI 1, I') ∧ vL l M (q_fix (fun _ => none) (vL l M) g) J = some (nI 1, J') ∧ ∃ L' p', PP key A T n I0 J0 dp tn L' (d + 1) p' I' J' ∧ (L' + p ≤ L + p' ∧ p ≤ p'))
    generalize q_fix (fun _ _ _ => none) (b_X5_expression_42 260 (nI l) (nI dp) (nI tn) Fe Fp) f = KC at ih' ⊢
    generalize q_fix (fun _ => none) (vL l M) g = KM at ih' ⊢
    unfold b_X5_expression_42 vL
    by_cases c96 : 96 ≤ i
    · obtain ⟨e, k, hq, hL⟩ := h
      have hq1 := hq.2.1.1
      have k0 : k = 0 := by
        by_cases z : k = 0
        · exact z
        · have := hq1.2.2.2 z; omega
      rw [if_pos (nI_le c96 (by omega)), if_neg (fun q => by
        have : J 269 17 = nI k := hq.2.1.2.2.1.2.2
        rw [this, k0] at q
        exact absurd q.1 (by decide +kernel))]
      exact ⟨I, J, Or.inr ⟨rfl, rfl, L, p, ⟨e, k, hq, hL⟩, by omega⟩⟩
    rw [if_neg (nI_ge (by omega) (by decide))]
    rcases it hC hl hs h with ⟨a1, a2⟩ | ⟨a1, a2, a3, I1, J1, I2, J2, a4, a5, a6⟩
    · rw [a1, u_s1, if_pos nI_0, if_neg a2]
      exact ⟨I, J, Or.inr ⟨rfl, rfl, L, p, h, by omega⟩⟩
    rw [a1, u_s1, if_neg nI1, if_pos a2, show (260 + 1 : Nat) = 261 from rfl, a3, u_s1, a4, a5, u_s1, u_s1, nI_add, nI_add]
    rcases a6 with ⟨b1, b2, b3⟩ | ⟨b1, b2, I3, J3, L', p', b3, b4, b5, b6⟩
    · rw [b1, b2, u_s2, u_s2, if_pos nI_0, if_pos nI_0]
      exact ⟨I2, J2, Or.inl ⟨rfl, rfl, b3⟩⟩
    rw [b1, b2, u_s2, u_s2, if_neg nI1, if_neg nI1, b3, b4, u_s1, u_s1]
    obtain ⟨I', J', z⟩ := ih' I3 J3 L' p' (by omega) (by omega) (by omega) (by omega) b5
    refine ⟨I', J', z.imp id fun w => ⟨w.1, w.2.1, ?_⟩⟩
    obtain ⟨L'', p'', w1, w2⟩ := w.2.2
    exact ⟨L'', p'', w1, by omega⟩
theorem lev_GP {key A : Nat} {T : Nat → Int32} {n : Nat} {I0 J0 : qI} (hC : CX key A T n I0 J0) {dp tn l : Nat} (hl : l < 5) {Fe : Nat → Int32 → Int32 → Int32 → qI → Option (Int32 × qI)} {Fp : Nat → Int32 → Int32 → qI → Option (Int32 × qI)} {M : qI → Option (Int32 × qI)} (hs : GP key A T n I0 J0 dp tn (Fe 260 (nI (l + 1)) (nI dp) (nI tn)) M) : GP key A T n I0 J0 dp tn (B_X5_expression Fe Fp 260 (nI l) (nI dp) (nI tn)) (vB l M) := by
  intro I J L d p h
  unfold B_X5_expression vB
  rw [if_pos (nI_lt hl (by decide)), nI_add]
  obtain ⟨I1, J1, z⟩ := hs I J L d p h
  rcases z with ⟨a1, a2, a3⟩ | ⟨a1, a2, L1, p1, a3, a4⟩
  · rw [a1, a2, u_s2, u_s2, if_pos nI_0, if_pos nI_0]
    exact ⟨I1, J1, Or.inl ⟨rfl, rfl, a3⟩⟩
  rw [a1, a2, u_s2, u_s2, if_neg nI1, if_neg nI1]
  unfold b_X5_expression_37
  have fu := q_fu1
  by_cases c2 : l = 2
  rotate_left
  · rw [if_neg (fun q => c2 ((nI_eq (by omega) (by omega)).mp q)), if_neg c2]
    obtain ⟨I', J', w⟩ := lp_GP (Fe := Fe) (Fp := Fp) hC hl hs d 97 q_fu q_fu 0 I1 J1 L1 p1 (by omega) (by omega) (by omega) (Nat.zero_le _) a3
    refine ⟨I', J', w.imp id fun v => ⟨v.1, v.2.1, ?_⟩⟩
    obtain ⟨L'', p'', w1, w2⟩ := v.2.2
    exact ⟨L'', p'', w1, by omega⟩
  rw [if_pos (by rw [c2]), if_pos c2]
  obtain ⟨f, hf⟩ : ∃ f, q_fu = f + 2 := ⟨q_fu - 2, by omega⟩
  rw [hf]
  show ∃ I' J', (b_X5_expression_42 260 (nI l) (nI dp) (nI tn) Fe Fp (b_X5_expression_42 260 (nI l) (nI dp) (nI tn) Fe Fp (q_fix (fun _ _ _ => none) (b_X5_expression_42 260 (nI l) (nI dp) (nI tn) Fe Fp) f)) (nI 1) (nI 0) I1 = some (nI 0, I') ∧ vL l M (fun J => some (nI 1, J)) J1 = some (nI 0, J') ∧ FF A I0 J0 I' J') ∨ (b_X5_expression_42 260 (nI l) (nI dp) (nI tn) Fe Fp (b_X5_expression_42 260 (nI l) (nI dp) (nI tn) Fe Fp (q_fix (fun _ _ _ => none) (b_X5_expression_42 260 (nI l) (nI dp) (nI tn) Fe Fp) f)) (nI 1) (nI 0) I1 = some (nI 1, I') ∧ vL l M (fun J => some (nI 1, J)) J1 = some (nI 1, J') ∧ ∃ L' p', PP key A T n I0 J0 dp tn L' (d + 1) p' I' J' ∧ (L' + p ≤ L + p' ∧ p ≤ p'))
  have snd : ∀ I3, b_X5_expression_42 260 (nI l) (nI dp) (nI tn) Fe Fp (q_fix (fun _ _ _ => none) (b_X5_expression_42 260 (nI l) (nI dp) (nI tn) Fe Fp) f) (nI 1) (nI 1) I3 = some (nI 1, I3) := by
    intro I3
    unfold b_X5_expression_42
    rw [if_pos (Int32.le_refl _)]
  generalize b_X5_expression_42 260 (nI l) (nI dp) (nI tn) Fe Fp (q_fix (fun _ _ _ => none) (b_X5_expression_42 260 (nI l) (nI dp) (nI tn) Fe Fp) f) = KC at snd ⊢
  unfold b_X5_expression_42 vL
  rw [if_neg (nI_ge (by decide) (by decide))]
  rcases it hC hl hs a3 with ⟨b1, b2⟩ | ⟨b1, b2, b3, I2, J2, I3, J3, b4, b5, b6⟩
  · rw [b1, u_s1, if_pos nI_0, if_neg b2]
    exact ⟨I1, J1, Or.inr ⟨rfl, rfl, L1, p1, a3, by omega⟩⟩
  rw [b1, u_s1, if_neg nI1, if_pos b2, show (260 + 1 : Nat) = 261 from rfl, b3, u_s1, b4, b5, u_s1, u_s1, nI_add, nI_add]
  rcases b6 with ⟨e1, e2, e3⟩ | ⟨e1, e2, I4, J4, L', p', e3, e4, e5, e6⟩
  · rw [e1, e2, u_s2, u_s2, if_pos nI_0, if_pos nI_0]
    exact ⟨I3, J3, Or.inl ⟨rfl, rfl, e3⟩⟩
  rw [e1, e2, u_s2, u_s2, if_neg nI1, if_neg nI1, e3, e4, u_s1, u_s1, show (0 + 1 : Nat) = 1 from rfl, snd]
  exact ⟨I4, J4, Or.inr ⟨rfl, rfl, L', p', e5, by omega⟩⟩
theorem lev5_GP {key A : Nat} {T : Nat → Int32} {n : Nat} {I0 J0 : qI} {dp tn : Nat} {Fe : Nat → Int32 → Int32 → Int32 → qI → Option (Int32 × qI)} {Fp : Nat → Int32 → Int32 → qI → Option (Int32 × qI)} {M : qI → Option (Int32 × qI)} (hs : GP key A T n I0 J0 dp tn (Fp 260 (nI dp) (nI tn)) M) : GP key A T n I0 J0 dp tn (B_X5_expression Fe Fp 260 (nI 5) (nI dp) (nI tn)) M := by
  intro I J L d p h
  unfold B_X5_expression
  rw [if_neg (by decide +kernel)]
  obtain ⟨I1, J1, z⟩ := hs I J L d p h
  rcases z with ⟨a1, a2, a3⟩ | ⟨a1, a2, a3⟩
  · rw [a1, u_s2, bz0, u_s1]; exact ⟨I1, J1, Or.inl ⟨rfl, a2, a3⟩⟩
  · rw [a1, u_s2, bz1, u_s1]; exact ⟨I1, J1, Or.inr ⟨rfl, a2, a3⟩⟩
/-- the model's levels are of one kind -/
theorem vS (J : qI) (c : Nat) : f_X12_isSign 269 (nI c) J = some (if J 269 17 = nI 3 ∧ J 269 19 = nI c then nI 1 else nI 0) := by
  unfold f_X12_isSign
  by_cases a : J 269 17 = nI 3
  · by_cases b : J 269 19 = nI c
    · rw [if_pos a, if_pos b, if_pos ⟨a, b⟩]
    · rw [if_pos a, if_neg b, if_neg (fun q => b q.2)]
  · rw [if_neg a, if_neg (fun q => a q.1)]
theorem jn_2 (x : Int32) : jn 2 x = (decide (x = nI 60) || decide (x = nI 61) || decide (x = nI 62)) := rfl
theorem jn_3 (x : Int32) : jn 3 x = (decide (x = nI 43) || decide (x = nI 45)) := rfl
theorem jn_4 (x : Int32) : jn 4 x = (decide (x = nI 42) || decide (x = nI 47)) := rfl
theorem vB_0 {M1 M2 M3 M4 M5 M6 : Nat → Int32 → qI → Option (Int32 × qI)} {x : Int32} : B_X12_either M1 M2 M3 M4 M5 M6 269 x = vB 0 (M1 269 x) := by
  have e : b_X12_either_10 269 x M1 M2 M3 M4 M5 M6 = vL 0 (M1 269 x) := by
    funext k J
    unfold b_X12_either_10 vL jn
    rw [vS, u_s1]
    by_cases c : J 269 17 = nI 3 ∧ J 269 19 = nI 124
    · rw [if_pos c, if_neg nI1, if_pos ⟨c.1, decide_eq_true c.2⟩, c.2]
    · rw [if_neg c, if_pos nI_0, if_neg (fun q => c ⟨q.1, of_decide_eq_true q.2⟩)]
  funext J
  unfold B_X12_either vB
  rw [e]
  simp only [show ¬ (0 = 2) by decide, if_false]
theorem vB_1 {M1 M2 M3 M4 M5 M6 : Nat → Int32 → qI → Option (Int32 × qI)} {x : Int32} : B_X12_both M1 M2 M3 M4 M5 M6 269 x = vB 1 (M6 269 x) := by
  have e : b_X12_both_10 269 x M1 M2 M3 M4 M5 M6 = vL 1 (M6 269 x) := by
    funext k J
    unfold b_X12_both_10 vL jn
    rw [vS, u_s1]
    by_cases c : J 269 17 = nI 3 ∧ J 269 19 = nI 38
    · rw [if_pos c, if_neg nI1, if_pos ⟨c.1, decide_eq_true c.2⟩, c.2]
    · rw [if_neg c, if_pos nI_0, if_neg (fun q => c ⟨q.1, of_decide_eq_true q.2⟩)]
  funext J
  unfold B_X12_both vB
  rw [e]
  simp only [show ¬ (1 = 2) by decide, if_false]
theorem vB_3 {M1 M2 M3 M4 M5 M6 : Nat → Int32 → qI → Option (Int32 × qI)} {x : Int32} : B_X12_sum M1 M2 M3 M4 M5 M6 269 x = vB 3 (M5 269 x) := by
  have e : b_X12_sum_10 269 x M1 M2 M3 M4 M5 M6 = vL 3 (M5 269 x) := by
    funext k J
    unfold b_X12_sum_10 b_X12_sum_28 vL
    rw [vS, vS, u_s1, u_s1, jn_3]
    by_cases c : J 269 17 = nI 3 ∧ J 269 19 = nI 43
    · rw [if_pos c, if_neg nI1, if_pos ⟨c.1, by rw [decide_eq_true c.2]; rfl⟩]
    rw [if_neg c, if_pos nI_0]
    by_cases c' : J 269 17 = nI 3 ∧ J 269 19 = nI 45
    · rw [if_pos c', if_neg nI1, if_pos ⟨c'.1, by rw [decide_eq_true c'.2, Bool.or_true]⟩]
    rw [if_neg c', if_pos nI_0, if_neg (fun q => by
      have := q.2
      rw [decide_eq_false (fun z => c ⟨q.1, z⟩), decide_eq_false (fun z => c' ⟨q.1, z⟩)] at this
      cases this)]
  funext J
  unfold B_X12_sum vB
  rw [e]
  simp only [show ¬ (3 = 2) by decide, if_false]
theorem vB_4 {M1 M2 M3 M4 M5 M6 : Nat → Int32 → qI → Option (Int32 × qI)} {x : Int32} : B_X12_term M1 M2 M3 M4 M5 M6 269 x = vB 4 (M3 269 x) := by
  have e : b_X12_term_10 269 x M1 M2 M3 M4 M5 M6 = vL 4 (M3 269 x) := by
    funext k J
    unfold b_X12_term_10 b_X12_term_28 vL
    rw [vS, vS, u_s1, u_s1, jn_4]
    by_cases c : J 269 17 = nI 3 ∧ J 269 19 = nI 42
    · rw [if_pos c, if_neg nI1, if_pos ⟨c.1, by rw [decide_eq_true c.2]; rfl⟩]
    rw [if_neg c, if_pos nI_0]
    by_cases c' : J 269 17 = nI 3 ∧ J 269 19 = nI 47
    · rw [if_pos c', if_neg nI1, if_pos ⟨c'.1, by rw [decide_eq_true c'.2, Bool.or_true]⟩]
    rw [if_neg c', if_pos nI_0, if_neg (fun q => by
      have := q.2
      rw [decide_eq_false (fun z => c ⟨q.1, z⟩), decide_eq_false (fun z => c' ⟨q.1, z⟩)] at this
      cases this)]
  funext J
  unfold B_X12_term vB
  rw [e]
  simp only [show ¬ (4 = 2) by decide, if_false]
theorem vB_2 {M1 M2 M3 M4 M5 M6 : Nat → Int32 → qI → Option (Int32 × qI)} {x : Int32} : B_X12_test M1 M2 M3 M4 M5 M6 269 x = vB 2 (M4 269 x) := by
  funext J
  unfold B_X12_test vB
  congr 1
  funext v J2
  by_cases v0 : v = 0
  · rw [if_pos v0, if_pos v0]
  rw [if_neg v0, if_neg v0, if_pos rfl]
  unfold b_X12_test_37 vL
  rw [vS, vS, vS, u_s1, u_s1, u_s1, jn_2]
  by_cases c : J2 269 17 = nI 3 ∧ J2 269 19 = nI 60
  · rw [if_pos c, if_neg nI1, if_pos ⟨c.1, by rw [decide_eq_true c.2]; rfl⟩]
  rw [if_neg c, if_pos nI_0]
  by_cases c' : J2 269 17 = nI 3 ∧ J2 269 19 = nI 61
  · rw [if_pos c', if_neg nI1, if_pos ⟨c'.1, by rw [decide_eq_true c'.2, Bool.or_true]; rfl⟩]
  rw [if_neg c', if_pos nI_0]
  by_cases c'' : J2 269 17 = nI 3 ∧ J2 269 19 = nI 62
  · rw [if_pos c'', if_neg nI1, if_pos ⟨c''.1, by rw [decide_eq_true c''.2, Bool.or_true]⟩]
  rw [if_neg c'', if_pos nI_0, if_neg (fun q => by
    have := q.2
    rw [decide_eq_false (fun z => c ⟨q.1, z⟩), decide_eq_false (fun z => c' ⟨q.1, z⟩), decide_eq_false (fun z => c'' ⟨q.1, z⟩)] at this
    cases this)]
theorem exp_GP {key A : Nat} {T : Nat → Int32} {n : Nat} {I0 J0 : qI} (hC : CX key A T n I0 J0) {dp tn a b : Nat} (hP : GP key A T n I0 J0 dp tn (f_X5_part a 260 (nI dp) (nI tn)) (f_X12_part0 b 269 (nI key))) : GP key A T n I0 J0 dp tn (f_X5_expression (a + 6) 260 (nI 0) (nI dp) (nI tn)) (f_X12_either (b + 5) 269 (nI key)) := by
  have e5 : GP key A T n I0 J0 dp tn (f_X5_expression (a + 1) 260 (nI 5) (nI dp) (nI tn)) (f_X12_part0 b 269 (nI key)) := lev5_GP (Fe := f_X5_expression a) (Fp := f_X5_part a) hP
  have e4 : GP key A T n I0 J0 dp tn (f_X5_expression (a + 2) 260 (nI 4) (nI dp) (nI tn)) (f_X12_term (b + 1) 269 (nI key)) := by
    have := lev_GP (l := 4) (Fe := f_X5_expression (a + 1)) (Fp := f_X5_part (a + 1)) hC (by decide) e5
    rw [← vB_4 (M1 := f_X12_both b) (M2 := f_X12_either b) (M3 := f_X12_part0 b) (M4 := f_X12_sum b) (M5 := f_X12_term b) (M6 := f_X12_test b)] at this
    exact this
  have e3 : GP key A T n I0 J0 dp tn (f_X5_expression (a + 3) 260 (nI 3) (nI dp) (nI tn)) (f_X12_sum (b + 2) 269 (nI key)) := by
    have := lev_GP (l := 3) (Fe := f_X5_expression (a + 2)) (Fp := f_X5_part (a + 2)) hC (by decide) e4
    rw [← vB_3 (M1 := f_X12_both (b + 1)) (M2 := f_X12_either (b + 1)) (M3 := f_X12_part0 (b + 1)) (M4 := f_X12_sum (b + 1)) (M5 := f_X12_term (b + 1)) (M6 := f_X12_test (b + 1))] at this
    exact this
  have e2 : GP key A T n I0 J0 dp tn (f_X5_expression (a + 4) 260 (nI 2) (nI dp) (nI tn)) (f_X12_test (b + 3) 269 (nI key)) := by
    have := lev_GP (l := 2) (Fe := f_X5_expression (a + 3)) (Fp := f_X5_part (a + 3)) hC (by decide) e3
    rw [← vB_2 (M1 := f_X12_both (b + 2)) (M2 := f_X12_either (b + 2)) (M3 := f_X12_part0 (b + 2)) (M4 := f_X12_sum (b + 2)) (M5 := f_X12_term (b + 2)) (M6 := f_X12_test (b + 2))] at this
    exact this
  have e1 : GP key A T n I0 J0 dp tn (f_X5_expression (a + 5) 260 (nI 1) (nI dp) (nI tn)) (f_X12_both (b + 4) 269 (nI key)) := by
    have := lev_GP (l := 1) (Fe := f_X5_expression (a + 4)) (Fp := f_X5_part (a + 4)) hC (by decide) e2
    rw [← vB_1 (M1 := f_X12_both (b + 3)) (M2 := f_X12_either (b + 3)) (M3 := f_X12_part0 (b + 3)) (M4 := f_X12_sum (b + 3)) (M5 := f_X12_term (b + 3)) (M6 := f_X12_test (b + 3))] at this
    exact this
  have := lev_GP (l := 0) (Fe := f_X5_expression (a + 5)) (Fp := f_X5_part (a + 5)) hC (by decide) e1
  rw [← vB_0 (M1 := f_X12_both (b + 4)) (M2 := f_X12_either (b + 4)) (M3 := f_X12_part0 (b + 4)) (M4 := f_X12_sum (b + 4)) (M5 := f_X12_term (b + 4)) (M6 := f_X12_test (b + 4))] at this
  exact this
theorem all_GP {key A : Nat} {T : Nat → Int32} {n : Nat} {I0 J0 : qI} (hC : CX key A T n I0 J0) : ∀ m dp tn a b, dp ≤ 8 → tn ≤ 8 → (8 - dp) + (8 - tn) = m → 7 * (8 - dp) + (8 - tn) + 1 ≤ a → 6 * (8 - dp) + (8 - tn) + 1 ≤ b → GP key A T n I0 J0 dp tn (f_X5_part a 260 (nI dp) (nI tn)) (f_X12_part0 b 269 (nI key)) := by
  intro m
  induction m with
  | zero =>
    intro dp tn a b h1 h2 h3 h4 h5
    obtain ⟨a, rfl⟩ : ∃ z, a = z + 1 := ⟨a - 1, by omega⟩
    obtain ⟨b, rfl⟩ : ∃ z, b = z + 1 := ⟨b - 1, by omega⟩
    exact part_GP (Fe := f_X5_expression a) (Fp := f_X5_part a) (M1 := f_X12_both b) (M2 := f_X12_either b) (M3 := f_X12_part0 b) (M4 := f_X12_sum b) (M5 := f_X12_term b) (M6 := f_X12_test b) hC h1 h2 (fun z => absurd z (by omega)) (fun z => absurd z (by omega))
  | succ m ih =>
    intro dp tn a b h1 h2 h3 h4 h5
    obtain ⟨a, rfl⟩ : ∃ z, a = z + 1 := ⟨a - 1, by omega⟩
    obtain ⟨b, rfl⟩ : ∃ z, b = z + 1 := ⟨b - 1, by omega⟩
    refine part_GP (Fe := f_X5_expression a) (Fp := f_X5_part a) (M1 := f_X12_both b) (M2 := f_X12_either b) (M3 := f_X12_part0 b) (M4 := f_X12_sum b) (M5 := f_X12_term b) (M6 := f_X12_test b) hC h1 h2 (fun z => ?_) (fun z => ?_)
    · obtain ⟨a, rfl⟩ : ∃ z, a = z + 6 := ⟨a - 6, by omega⟩
      obtain ⟨b, rfl⟩ : ∃ z, b = z + 5 := ⟨b - 5, by omega⟩
      exact exp_GP hC (ih (dp + 1) tn a b (by omega) h2 (by omega) (by omega) (by omega))
    · exact ih dp (tn + 1) a b h1 (by omega) (by omega) (by omega) (by omega)
