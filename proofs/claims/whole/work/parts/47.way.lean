/-! LEVEL B: round, way, would -/
def ib (b : Bool) : Int32 := if b = true then nI 1 else nI 0
theorem ite_ib' {α : Type} (b : Bool) (A B : α) : (if ib b = 0 then A else B) = if b = true then B else A := ite_ib _ A B
theorem opn {X : qX} {v : Nat} {I J : qI} {j : Nat} (h : RV X v I (J 270) j) (hv : v ≤ 195) {w : Nat} (hw : w < 48) : ∃ b I' J', f_X10_isOpen (v + 42) (v + 36) (J 270 0) (nI w) X I = some (ib b, I') ∧ f_X12_isRound 269 (nI w) J = some (ib b, J') ∧ SC v I I' ∧ SJ J J' := by
  unfold f_X10_isOpen f_X12_isRound f_X12_bars f_X10_m f_X10_p f_X10_t
  obtain ⟨r, I', J', g1, g2, g3, g4⟩ := h.tv.giv6 hv rfl (nI w / nI 12) (q_rem (nI w / nI 3) (nI 4)) (q_rem (nI w) (nI 3))
  rw [u_rd hw (by decide), u_s1, h.w0 (by omega) hw, nI_add, u_rd (show 3250 + w < 3580 by omega) (by decide), u_s1, u_s1, u_s1, u_s1, g1, u_s2, h.tv.counts (nI 6), u_s1, g2, u_s2]
  rcases h.is01 (rg_w w hw) with e | e
  · rw [e, if_pos rfl, if_neg (show ¬ (0 : Int32) = nI 1 by decide +kernel)]
    exact ⟨false, _, _, rfl, rfl, SC.rf, SJ.rf⟩
  · rw [e, if_neg (show ¬ (1 : Int32) = 0 by decide), if_pos (show (1 : Int32) = nI 1 by decide +kernel)]
    by_cases c : r = 0
    · rw [if_pos c, if_pos c, u_s2, if_pos nI_0]
      exact ⟨true, _, _, rfl, rfl, g3, g4⟩
    · rw [if_neg c, if_neg c, u_s2, if_neg (by decide +kernel)]
      exact ⟨false, _, _, rfl, rfl, g3, g4⟩
theorem bar {X : qX} {v : Nat} {I J : qI} (h : TV X v I (J 270)) (hv : v ≤ 195) {i : Nat} (hi : i < cn (J 270) 4) (hk : cn (J 270) (850 + 200 * i) = 6) (w : Nat) : ∃ b I' J', f_X10_isBarred (v + 36) (nI i) (nI w) X I = some (ib b, I') ∧ f_X12_bars 269 (nI i) (nI w) J = some (ib b, J') ∧ SC v I I' ∧ SJ J J' := by
  have c4 := h.k4
  unfold f_X10_isBarred f_X12_bars f_X10_m f_X10_p f_X10_t f_X12_actBy
  rw [u_s1, u_s1, u_s1, u_wr (show 109 < 128 by decide) (by decide), u_s1, u_wr (show 112 < 128 by decide) (by decide), u_s1, u_wr (show 116 < 128 by decide) (by decide), u_s1, if_pos (nI_pos' (by omega))]
  generalize nI w / nI 12 = A
  generalize q_rem (nI w / nI 3) (nI 4) = B
  generalize q_rem (nI w) (nI 3) = C
  have hS : SJ J (q_up (q_up (q_up J (269 + 8) 109 A) (269 + 8) 112 B) (269 + 8) 116 C) := ((SJ.rf.up (Or.inl rfl)).up (Or.inl rfl)).up (Or.inl rfl)
  obtain ⟨x, I', J', g1, g2, g3, g4⟩ := h.val hv hi hk (by decide) (J := q_up (q_up (q_up J (269 + 8) 109 A) (269 + 8) 112 B) (269 + 8) 116 C) (hS 270 (by decide) (by decide)) (A := A) (B := B) (C := C) (fun q hq => by
    rcases (show q = 0 ∨ q = 1 ∨ q = 2 by have : nmN 6 = 3 := rfl; omega) with rfl | rfl | rfl
    · rw [show (277 : Nat) = 269 + 8 from rfl, u_up_j (show nmL 6 0 ≠ 116 by decide), u_up_j (show nmL 6 0 ≠ 112 by decide)]; exact u_up_same
    · rw [show (277 : Nat) = 269 + 8 from rfl, u_up_j (show nmL 6 1 ≠ 116 by decide)]; exact u_up_same
    · rw [show (277 : Nat) = 269 + 8 from rfl]; exact u_up_same)
  rw [g1, u_s2, g2, u_s2, u_s2]
  by_cases c : x = 0
  · rw [if_pos c, if_pos c]; exact ⟨false, _, _, rfl, rfl, g3, hS.tr g4⟩
  · rw [if_neg c, if_neg c]; exact ⟨true, _, _, rfl, rfl, g3, hS.tr g4⟩
theorem rnd_lp {X : qX} {v : Nat} {j : Nat} (hv : v ≤ 195) (d : Int32) : ∀ r fC fM i x (I J : qI), i + r = 48 → r < fC → r < fM → RV X v I (J 270) j → J 270 0 = d → ∃ s I' J', q_fix (fun _ _ _ => none) (b_X10_open_5 (v + 42) (v + 36) d X) fC x (nI i) I = some (s, I') ∧ q_fix (fun _ _ _ => none) (b_X12_round_4 269) fM x (nI i) J = some (s, J') ∧ SC v I I' ∧ SJ J J' := by
  intro r
  induction r with
  | zero =>
    intro fC fM i x I J h1 h2 h3 h hd
    obtain ⟨fC, rfl⟩ : ∃ z, fC = z + 1 := ⟨fC - 1, by omega⟩
    obtain ⟨fM, rfl⟩ : ∃ z, fM = z + 1 := ⟨fM - 1, by omega⟩
    have e : i = 48 := by omega
    subst e
    refine ⟨x, I, J, ?_, ?_, SC.rf, SJ.rf⟩
    · show b_X10_open_5 (v + 42) (v + 36) d X (q_fix _ _ fC) x (nI 48) I = _
      unfold b_X10_open_5
      rw [if_pos (Int32.le_refl _)]
    · show b_X12_round_4 269 (q_fix _ _ fM) x (nI 48) J = _
      unfold b_X12_round_4
      rw [if_pos (Int32.le_refl _)]
  | succ r ih =>
    intro fC fM i x I J h1 h2 h3 h hd
    obtain ⟨fC, rfl⟩ : ∃ z, fC = z + 1 := ⟨fC - 1, by omega⟩
    obtain ⟨fM, rfl⟩ : ∃ z, fM = z + 1 := ⟨fM - 1, by omega⟩
    have hi : i < 48 := by omega
    obtain ⟨b, I1, J1, o1, o2, o3, o4⟩ := opn h hv hi
    rw [hd] at o1
    have hJ1 : J1 270 = J 270 := o4 270 (by decide) (by decide)
    have ih' := fun x => ih fC fM (i + 1) x I1 J1 (by omega) (by omega) (by omega) (by rw [hJ1]; exact h.sc hv o3) (by rw [hJ1]; exact hd)
    show ∃ s I' J', b_X10_open_5 (v + 42) (v + 36) d X (q_fix (fun _ _ _ => none) (b_X10_open_5 (v + 42) (v + 36) d X) fC) x (nI i) I = some (s, I') ∧ b_X12_round_4 269 (q_fix (fun _ _ _ => none) (b_X12_round_4 269) fM) x (nI i) J = some (s, J') ∧ _ ∧ _
    generalize q_fix (fun _ _ _ => none) (b_X10_open_5 (v + 42) (v + 36) d X) fC = KC at ih' ⊢
    generalize q_fix (fun _ _ _ => none) (b_X12_round_4 269) fM = KM at ih' ⊢
    unfold b_X10_open_5 b_X10_open_26 b_X12_round_4 b_X12_round_24
    rw [if_neg (nI_ge hi (by decide)), if_neg (nI_ge hi (by decide)), o1, o2, u_s2, u_s2, ite_ib', ite_ib', nI_add, show x + nI 0 = x by rw [nI_0, Int32.add_zero]]
    cases b with
    | true =>
      simp only [if_true]
      obtain ⟨s, I', J', g1, g2, g3, g4⟩ := ih' (x + nI 1)
      exact ⟨s, I', J', g1, g2, o3.tr g3, o4.tr g4⟩
    | false =>
      simp only [Bool.false_eq_true, if_false]
      obtain ⟨s, I', J', g1, g2, g3, g4⟩ := ih' x
      exact ⟨s, I', J', g1, g2, o3.tr g3, o4.tr g4⟩
theorem W_round {X : qX} : P2 X (f_X11_round 64 X) (f_X12_round 269) := by
  intro I J h
  show G2 X I J (f_X11_round 64 X I) (f_X12_round 269 J)
  have hR := h.rv
  unfold f_X11_round f_X12_round f_X10_open
  rw [hR.sc0 (a := 64 + 1) rfl]
  obtain ⟨s, I', J', g1, g2, g3, g4⟩ := rnd_lp (X := X) (v := 65) (j := 0) (by decide) (J 270 0) 48 q_fu q_fu 0 (nI 0) I J (by decide) (by decide) (by decide) hR rfl
  rw [show (64 + 43 : Nat) = 65 + 42 from rfl, show (64 + 37 : Nat) = 65 + 36 from rfl, g1, g2, u_s2]
  exact h.scr g3 g4 rfl
theorem u_rem {a b : Nat} (ha : a < 2 ^ 31) (hb : b < 2 ^ 31) (h0 : 0 < b) : q_rem (nI a) (nI b) = nI (a % b) := by
  unfold q_rem
  have h1 := Nat.div_mul_le_self a b
  rw [u_div ha hb, u_mul, u_sub h1]
  congr 1
  have := Nat.mod_add_div a b
  have e : b * (a / b) = a / b * b := Nat.mul_comm _ _
  omega
theorem way_lp {X : qX} {v : Nat} {j : Nat} (hv : v ≤ 195) (d y : Int32) : ∀ r fC fM i x (I J : qI), i + r = 48 → r < fC → r < fM → RV X v I (J 270) j → J 270 0 = d → ∃ s s' I' J', q_fix (fun _ _ _ => none) (b_X10_openWay_6 (v + 42) (v + 36) d y X) fC x (nI i) I = some (s, I') ∧ q_fix (fun _ _ _ => none) (b_X12_way_11 269 y) fM x (nI i) J = some (s', J') ∧ ((s = -1 ∧ s' = -1000000005) ∨ (0 ≤ s ∧ s' = s)) ∧ SC v I I' ∧ SJ J J' := by
  intro r
  induction r with
  | zero =>
    intro fC fM i x I J h1 h2 h3 h hd
    obtain ⟨fC, rfl⟩ : ∃ z, fC = z + 1 := ⟨fC - 1, by omega⟩
    obtain ⟨fM, rfl⟩ : ∃ z, fM = z + 1 := ⟨fM - 1, by omega⟩
    have e : i = 48 := by omega
    subst e
    refine ⟨-1, -1000000005, I, J, ?_, ?_, Or.inl ⟨rfl, rfl⟩, SC.rf, SJ.rf⟩
    · show b_X10_openWay_6 (v + 42) (v + 36) d y X (q_fix _ _ fC) x (nI 48) I = _
      unfold b_X10_openWay_6
      rw [if_pos (Int32.le_refl _)]
    · show b_X12_way_11 269 y (q_fix _ _ fM) x (nI 48) J = _
      unfold b_X12_way_11
      rw [if_pos (Int32.le_refl _)]
  | succ r ih =>
    intro fC fM i x I J h1 h2 h3 h hd
    obtain ⟨fC, rfl⟩ : ∃ z, fC = z + 1 := ⟨fC - 1, by omega⟩
    obtain ⟨fM, rfl⟩ : ∃ z, fM = z + 1 := ⟨fM - 1, by omega⟩
    have hi : i < 48 := by omega
    obtain ⟨b, I1, J1, o1, o2, o3, o4⟩ := opn h hv hi
    rw [hd] at o1
    have hJ1 : J1 270 = J 270 := o4 270 (by decide) (by decide)
    have ih' := fun x => ih fC fM (i + 1) x I1 J1 (by omega) (by omega) (by omega) (by rw [hJ1]; exact h.sc hv o3) (by rw [hJ1]; exact hd)
    show ∃ s s' I' J', b_X10_openWay_6 (v + 42) (v + 36) d y X (q_fix (fun _ _ _ => none) (b_X10_openWay_6 (v + 42) (v + 36) d y X) fC) x (nI i) I = some (s, I') ∧ b_X12_way_11 269 y (q_fix (fun _ _ _ => none) (b_X12_way_11 269 y) fM) x (nI i) J = some (s', J') ∧ _ ∧ _ ∧ _
    generalize q_fix (fun _ _ _ => none) (b_X10_openWay_6 (v + 42) (v + 36) d y X) fC = KC at ih' ⊢
    generalize q_fix (fun _ _ _ => none) (b_X12_way_11 269 y) fM = KM at ih' ⊢
    unfold b_X10_openWay_6 b_X10_openWay_60 b_X12_way_11 b_X12_way_54 f_X10_m f_X10_p f_X10_t
    rw [if_neg (nI_ge hi (by decide)), if_neg (nI_ge hi (by decide)), o1, o2, u_s2, u_s2, ite_ib', ite_ib', nI_add, u_s1, u_s1, u_s1]
    cases b with
    | false =>
      simp only [Bool.false_eq_true, if_false]
      obtain ⟨s, s', I', J', g1, g2, g3, g4, g5⟩ := ih' x
      exact ⟨s, s', I', J', g1, g2, g3, o3.tr g4, o4.tr g5⟩
    | true =>
      simp only [if_true]
      by_cases c : x = y
      · rw [if_pos c, if_pos c]
        refine ⟨_, _, _, _, rfl, rfl, Or.inr ⟨?_, rfl⟩, o3, o4⟩
        rw [u_div (by omega) (by decide), u_div (by omega) (by decide), u_rem (by omega) (by decide) (by decide), u_rem (by omega) (by decide) (by decide), u_mul, u_mul, nI_add, nI_add]
        exact nI_pos' (by omega)
      · rw [if_neg c, if_neg c]
        obtain ⟨s, s', I', J', g1, g2, g3, g4, g5⟩ := ih' (x + nI 1)
        exact ⟨s, s', I', J', g1, g2, g3, o3.tr g4, o4.tr g5⟩
theorem W_way {X : qX} (y1 : Int32) : P2 X (f_X11_way 64 y1 X) (f_X12_way 269 y1) := by
  intro I J h
  show G2 X I J (f_X11_way 64 y1 X I) (f_X12_way 269 y1 J)
  have hR := h.rv
  unfold f_X11_way f_X12_way f_X10_openWay
  refine G2.ite (fun c => ?_) (fun _ => h.same _)
  rw [hR.sc0 (a := 64 + 1) rfl]
  obtain ⟨s, s', I', J', g1, g2, g3, g4, g5⟩ := way_lp (X := X) (v := 65) (j := 0) (by decide) (J 270 0) y1 48 q_fu q_fu 0 (nI 0) I J (by decide) (by decide) (by decide) hR rfl
  rw [show (64 + 43 : Nat) = 65 + 42 from rfl, show (64 + 37 : Nat) = 65 + 36 from rfl, g1, g2, u_s2]
  rcases g3 with ⟨q1, q2⟩ | ⟨q1, q2⟩
  · rw [q1, q2, if_neg neg1]; exact h.scr g4 g5 rfl
  · rw [if_pos q1, q2]; exact h.scr g4 g5 rfl
theorem wld_lp {X : qX} {v : Nat} {j : Nat} (hv : v ≤ 195) (d : Int32) {k : Nat} : ∀ r fC fM i x (I J : qI), i + r = 48 → r < fC → r < fM → RV X v I (J 270) j → J 270 0 = d → k < cn (J 270) 4 → cn (J 270) (850 + 200 * k) = 6 → ∃ s I' J', q_fix (fun _ _ _ => none) (b_X10_openBarred_6 (v + 42) (v + 36) d (nI k) X) fC x (nI i) I = some (s, I') ∧ q_fix (fun _ _ _ => none) (b_X12_would_47 269 (nI k) (nI 0)) fM x (nI i) J = some (s, J') ∧ SC v I I' ∧ SJ J J' := by
  intro r
  induction r with
  | zero =>
    intro fC fM i x I J h1 h2 h3 h hd hk hk6
    obtain ⟨fC, rfl⟩ : ∃ z, fC = z + 1 := ⟨fC - 1, by omega⟩
    obtain ⟨fM, rfl⟩ : ∃ z, fM = z + 1 := ⟨fM - 1, by omega⟩
    have e : i = 48 := by omega
    subst e
    refine ⟨x, I, J, ?_, ?_, SC.rf, SJ.rf⟩
    · show b_X10_openBarred_6 (v + 42) (v + 36) d (nI k) X (q_fix _ _ fC) x (nI 48) I = _
      unfold b_X10_openBarred_6
      rw [if_pos (Int32.le_refl _)]
    · show b_X12_would_47 269 (nI k) (nI 0) (q_fix _ _ fM) x (nI 48) J = _
      unfold b_X12_would_47
      rw [if_pos (Int32.le_refl _)]
  | succ r ih =>
    intro fC fM i x I J h1 h2 h3 h hd hk hk6
    obtain ⟨fC, rfl⟩ : ∃ z, fC = z + 1 := ⟨fC - 1, by omega⟩
    obtain ⟨fM, rfl⟩ : ∃ z, fM = z + 1 := ⟨fM - 1, by omega⟩
    have hi : i < 48 := by omega
    obtain ⟨b, I1, J1, o1, o2, o3, o4⟩ := opn h hv hi
    rw [hd] at o1
    have hJ1 : J1 270 = J 270 := o4 270 (by decide) (by decide)
    have hR1 : RV X v I1 (J1 270) j := by rw [hJ1]; exact h.sc hv o3
    obtain ⟨c, I2, J2, p1, p2, p3, p4⟩ := bar hR1.tv hv (i := k) (by rw [hJ1]; exact hk) (by rw [hJ1]; exact hk6) i
    have hJ2 : J2 270 = J 270 := (p4 270 (by decide) (by decide)).trans hJ1
    have ih1 := fun x => ih fC fM (i + 1) x I1 J1 (by omega) (by omega) (by omega) hR1 (by rw [hJ1]; exact hd) (by rw [hJ1]; exact hk) (by rw [hJ1]; exact hk6)
    have ih2 := fun x => ih fC fM (i + 1) x I2 J2 (by omega) (by omega) (by omega) (by rw [hJ2, ← hJ1]; exact hR1.sc hv p3) (by rw [hJ2]; exact hd) (by rw [hJ2]; exact hk) (by rw [hJ2]; exact hk6)
    show ∃ s I' J', b_X10_openBarred_6 (v + 42) (v + 36) d (nI k) X (q_fix (fun _ _ _ => none) (b_X10_openBarred_6 (v + 42) (v + 36) d (nI k) X) fC) x (nI i) I = some (s, I') ∧ b_X12_would_47 269 (nI k) (nI 0) (q_fix (fun _ _ _ => none) (b_X12_would_47 269 (nI k) (nI 0)) fM) x (nI i) J = some (s, J') ∧ _ ∧ _
    generalize q_fix (fun _ _ _ => none) (b_X10_openBarred_6 (v + 42) (v + 36) d (nI k) X) fC = KC at ih1 ih2 ⊢
    generalize q_fix (fun _ _ _ => none) (b_X12_would_47 269 (nI k) (nI 0)) fM = KM at ih1 ih2 ⊢
    unfold b_X10_openBarred_6 b_X10_openBarred_37 b_X12_would_47 b_X12_would_86 b_X12_would_108 b_X12_would_109
    rw [if_neg (nI_ge hi (by decide)), if_neg (nI_ge hi (by decide)), if_pos nI_0, o1, o2, u_s2, u_s2, ite_ib', ite_ib', p1, p2, u_s2, u_s2, ite_ib', ite_ib', nI_add, show x + nI 0 = x by rw [nI_0, Int32.add_zero]]
    cases b with
    | false =>
      simp only [Bool.false_eq_true, if_false]
      obtain ⟨s, I', J', g1, g2, g3, g4⟩ := ih1 x
      exact ⟨s, I', J', g1, g2, o3.tr g3, o4.tr g4⟩
    | true =>
      cases c with
      | true =>
        simp only [if_true]
        obtain ⟨s, I', J', g1, g2, g3, g4⟩ := ih2 (x + nI 1)
        exact ⟨s, I', J', g1, g2, (o3.tr p3).tr g3, (o4.tr p4).tr g4⟩
      | false =>
        simp only [Bool.false_eq_true, if_false, if_true]
        obtain ⟨s, I', J', g1, g2, g3, g4⟩ := ih2 x
        exact ⟨s, I', J', g1, g2, (o3.tr p3).tr g3, (o4.tr p4).tr g4⟩
theorem oth_lp {X : qX} {v : Nat} {j : Nat} (hv : v ≤ 195) {k : Nat} : ∀ r fC fM i x (I J : qI), i + r = 48 → r < fC → r < fM → RV X v I (J 270) j → k < cn (J 270) 4 → cn (J 270) (850 + 200 * k) = 6 → ∃ s I' J', q_fix (fun _ _ _ => none) (b_X10_othersBarred_5 (v + 42) (v + 36) (nI k) X) fC x (nI i) I = some (s, I') ∧ q_fix (fun _ _ _ => none) (b_X12_would_47 269 (nI k) (nI 1)) fM x (nI i) J = some (s, J') ∧ SC v I I' ∧ SJ J J' := by
  intro r
  induction r with
  | zero =>
    intro fC fM i x I J h1 h2 h3 h hk hk6
    obtain ⟨fC, rfl⟩ : ∃ z, fC = z + 1 := ⟨fC - 1, by omega⟩
    obtain ⟨fM, rfl⟩ : ∃ z, fM = z + 1 := ⟨fM - 1, by omega⟩
    have e : i = 48 := by omega
    subst e
    refine ⟨x, I, J, ?_, ?_, SC.rf, SJ.rf⟩
    · show b_X10_othersBarred_5 (v + 42) (v + 36) (nI k) X (q_fix _ _ fC) x (nI 48) I = _
      unfold b_X10_othersBarred_5
      rw [if_pos (Int32.le_refl _)]
    · show b_X12_would_47 269 (nI k) (nI 1) (q_fix _ _ fM) x (nI 48) J = _
      unfold b_X12_would_47
      rw [if_pos (Int32.le_refl _)]
  | succ r ih =>
    intro fC fM i x I J h1 h2 h3 h hk hk6
    obtain ⟨fC, rfl⟩ : ∃ z, fC = z + 1 := ⟨fC - 1, by omega⟩
    obtain ⟨fM, rfl⟩ : ∃ z, fM = z + 1 := ⟨fM - 1, by omega⟩
    have hi : i < 48 := by omega
    obtain ⟨c, I2, J2, p1, p2, p3, p4⟩ := bar h.tv hv hk hk6 i
    have hJ2 : J2 270 = J 270 := p4 270 (by decide) (by decide)
    have ih1 := fun x => ih fC fM (i + 1) x I J (by omega) (by omega) (by omega) h hk hk6
    have ih2 := fun x => ih fC fM (i + 1) x I2 J2 (by omega) (by omega) (by omega) (by rw [hJ2]; exact h.sc hv p3) (by rw [hJ2]; exact hk) (by rw [hJ2]; exact hk6)
    show ∃ s I' J', b_X10_othersBarred_5 (v + 42) (v + 36) (nI k) X (q_fix (fun _ _ _ => none) (b_X10_othersBarred_5 (v + 42) (v + 36) (nI k) X) fC) x (nI i) I = some (s, I') ∧ b_X12_would_47 269 (nI k) (nI 1) (q_fix (fun _ _ _ => none) (b_X12_would_47 269 (nI k) (nI 1)) fM) x (nI i) J = some (s, J') ∧ _ ∧ _
    generalize q_fix (fun _ _ _ => none) (b_X10_othersBarred_5 (v + 42) (v + 36) (nI k) X) fC = KC at ih1 ih2 ⊢
    generalize q_fix (fun _ _ _ => none) (b_X12_would_47 269 (nI k) (nI 1)) fM = KM at ih1 ih2 ⊢
    unfold b_X10_othersBarred_5 b_X10_othersBarred_35 b_X12_would_47 b_X12_would_86 b_X12_would_108 b_X12_would_109
    rw [if_neg (nI_ge hi (by decide)), if_neg (nI_ge hi (by decide)), if_neg (show ¬ nI 1 = 0 by decide +kernel), u_rd hi (by decide), u_s1, h.w0 (a := v + 42 + 1) rfl hi, nI_add, nI_add, u_rd (show 3250 + i < 3580 by omega) (by decide), u_s1, p1, p2, u_s2, u_s2, ite_ib', ite_ib', show x + nI 0 = x by rw [nI_0, Int32.add_zero]]
    by_cases e : J 270 (3250 + i) = 0
    · rw [show J (269 + 1) = J 270 from rfl, if_pos e, if_pos e, if_neg (show ¬ nI 1 = 0 by decide +kernel)]
      cases c with
      | true =>
        simp only [if_true]
        obtain ⟨s, I', J', g1, g2, g3, g4⟩ := ih2 (x + nI 1)
        exact ⟨s, I', J', g1, g2, p3.tr g3, p4.tr g4⟩
      | false =>
        simp only [Bool.false_eq_true, if_false]
        obtain ⟨s, I', J', g1, g2, g3, g4⟩ := ih2 x
        exact ⟨s, I', J', g1, g2, p3.tr g3, p4.tr g4⟩
    · rw [show J (269 + 1) = J 270 from rfl, if_neg e, if_neg e, if_pos nI_0]
      obtain ⟨s, I', J', g1, g2, g3, g4⟩ := ih1 x
      exact ⟨s, I', J', g1, g2, g3, g4⟩
theorem W_would {X : qX} (y1 y2 : Int32) : P2 X (f_X11_would 64 y1 y2 X) (f_X12_would 269 y1 y2) := by
  intro I J h
  show G2 X I J (f_X11_would 64 y1 y2 X I) (f_X12_would 269 y1 y2 J)
  have hR := h.rv
  have c4 := hR.k4
  unfold f_X11_would f_X12_would f_X12_textAt f_X10_openBarred f_X10_othersBarred
  simp only [hR.hasT (a := 64 + 37) rfl, hR.isText, u_within, ii_0_1, u_s1, u_ib, ite_not]
  refine G2.ite (fun c1 => ?_) (fun _ => h.same _)
  refine G2.ite (fun c2 => ?_) (fun _ => h.same _)
  obtain ⟨k, rfl, hk⟩ := u_idx c1 (by omega)
  obtain ⟨w, rfl, -, hw⟩ := u_range (by decide) c2.1 c2.2 (by decide)
  rw [u_rd (show k < 12 by omega) (by decide), u_s1, hR.t0 (a := 64 + 38) rfl (by omega), u_mul, nI_add, nI_add, u_rd (show 850 + 200 * k + 0 < 3580 by omega) (by decide), u_s1]
  refine G2.ite (fun c3 => ?_) (fun _ => h.same _)
  have k6 : cn (J 270) (850 + 200 * k) = 6 := by unfold cn; rw [c3]; exact nI_clamp (by decide)
  rw [hR.sc0 (a := 64 + 1) rfl]
  rcases (show w = 0 ∨ w = 1 by omega) with rfl | rfl
  · obtain ⟨s, I', J', g1, g2, g3, g4⟩ := wld_lp (X := X) (v := 65) (j := 0) (by decide) (J 270 0) (k := k) 48 q_fu q_fu 0 (nI 0) I J (by decide) (by decide) (by decide) hR rfl hk k6
    rw [show (64 + 43 : Nat) = 65 + 42 from rfl, show (64 + 37 : Nat) = 65 + 36 from rfl, if_pos nI_0, g1, g2, u_s2]
    exact h.scr g3 g4 rfl
  · obtain ⟨s, I', J', g1, g2, g3, g4⟩ := oth_lp (X := X) (v := 65) (j := 0) (by decide) (k := k) 48 q_fu q_fu 0 (nI 0) I J (by decide) (by decide) (by decide) hR hk k6
    rw [show (64 + 43 : Nat) = 65 + 42 from rfl, show (64 + 37 : Nat) = 65 + 36 from rfl, if_neg (show ¬ nI 1 = 0 by decide +kernel), g1, g2, u_s2]
    exact h.scr g3 g4 rfl
