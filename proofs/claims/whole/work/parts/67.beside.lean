/-! LEVEL B: beside -/
theorem std {X : qX} {I : qI} {t : Nat → Int32} {n w : Nat} {fl : Int32} (hX : VX X) (hA : AX X) (hR : RV X 65 I t 0) (hd : cn t 0 + n ≤ 6999) (hn : n ≤ 60) (hw : w ≤ 2) : ∃ s I' X', f_X11_standing 64 (nI n) (nI w) fl X I = some (s, I', X') ∧ (VX X' ∧ AX X' ∧ X'.2 = X.2 ∧ ∀ a, a ≠ 235 → X'.1 a = X.1 a) ∧ (∀ a, (a < 195 ∨ 260 ≤ a) → I' a = I a) ∧ ∀ J : qI, (∀ k, k < 3580 → J 270 k = t k) → ((fl = 0 ∧ J 269 25 = 0) ∨ (¬ fl = 0 ∧ ¬ J 269 25 = 0)) → ∃ J', oD n J = some J' ∧ f_X12_stands 269 (nI w) J' = some s ∧ GM J J' := by
  obtain ⟨I1, X1, g1, g2, g3, g4, g5, g6⟩ := become_ev hX hA (v := 195) (w := 65) (by decide) (by decide) (by decide) I
  have hX1 := hX.ref (v := 195) (by decide) g6 g4
  have r1 : RV X1 195 I1 t 0 := hR.copy g2 (fun a ha => g3 a (by omega)) g5 (fun a => q_kd2 g4 a)
  have run : ∀ J : qI, (∀ k, k < 3580 → J 270 k = t k) → ((fl = 0 ∧ J 269 25 = 0) ∨ (¬ fl = 0 ∧ ¬ J 269 25 = 0)) → ∃ I' J', q_fix (fun _ _ => none) (b_X9_goBy_2 195 (nI n) fl X1) q_fu (nI 0) I1 = some I' ∧ oD n J = some J' ∧ RF X1 195 (cn (J 270) 0 + n) I1 J I' J' := by
    intro J hJ hf
    exact go_lp (n := n) (by omega) (by decide) n q_fu 0 I1 J (Nat.zero_add _) (by have := q_fu1; omega) (r1.tcg hJ) (by rw [show cn (J 270) 0 = cn t 0 by unfold cn; rw [hJ 0 (by decide)]]; exact Or.inl hd) hf
  -- one row to go by
  obtain ⟨J0, j1, j2⟩ : ∃ J0 : qI, (∀ k, k < 3580 → J0 270 k = t k) ∧ ((fl = 0 ∧ J0 269 25 = 0) ∨ (¬ fl = 0 ∧ ¬ J0 269 25 = 0)) := by
    refine ⟨fun a => if a = 270 then t else fun _ => fl, fun k _ => rfl, ?_⟩
    by_cases e : fl = 0
    · exact Or.inl ⟨e, e⟩
    · exact Or.inr ⟨e, e⟩
  obtain ⟨I2, J2, a1, a2, a3⟩ := run J0 j1 j2
  have val : ∀ J' : qI, RV X1 195 I2 (J' 270) 0 → ∃ s, f_X12_stands 269 (nI w) J' = some s ∧ (if nI w = 0 then q_b1 (f_X9_allOwed 195 I2) fun v28 => some (v28, I2, X1) else if nI w = nI 1 then q_b1 (f_X2_sum 207 (some 211) X1 I2) fun v25 => some (v25, I2, X1) else q_b1 (f_X2_sum 207 (some 217) X1 I2) fun v18 => some (v18, I2, X1)) = some (s, I2, X1) := by
    intro J' hJ'
    rcases (show w = 0 ∨ w = 1 ∨ w = 2 by omega) with rfl | rfl | rfl
    · exact ⟨_, hJ'.st0, by rw [if_pos nI_0, hJ'.allO rfl, u_s1]⟩
    · exact ⟨_, hJ'.st1, by rw [if_neg (show ¬ nI 1 = 0 by decide +kernel), if_pos rfl, hJ'.sumC (a := 207) (c := 211) (w := 3) rfl rfl (by decide) (hX1.k (k := 147) rfl rfl), u_s1]⟩
    · exact ⟨_, hJ'.st2, by rw [if_neg (show ¬ nI 2 = 0 by decide +kernel), if_neg (show ¬ nI 2 = nI 1 by decide +kernel), hJ'.sumC (a := 207) (c := 217) (w := 9) rfl rfl (by decide) (hX1.k (k := 153) rfl rfl), u_s1]⟩
  obtain ⟨s, s1, s2⟩ := val J2 a3.1
  refine ⟨s, I2, X1, ?_, ⟨hX1, hA.ref (w := 65) (by decide) g6 g4 g5, g4, fun a ha => g6 a ha⟩, fun a ha => (a3.2.1 a (by omega)).trans (g3 a (by omega)), fun J hJ hf => ?_⟩
  · unfold f_X11_standing f_X9_goBy
    rw [show (64 + 131 : Nat) = 195 from rfl, show (64 + 1 : Nat) = 65 from rfl, g1, u_s2, a1, u_s1]
    exact s2
  · obtain ⟨I3, J3, b1, b2, b3⟩ := run J hJ hf
    rw [a1] at b1
    cases b1
    obtain ⟨s', q1, q2⟩ := val J3 b3.1
    rw [s2] at q2
    cases q2
    exact ⟨J3, b2, q1, b3.2.2.1⟩
theorem bs58 {X : qX} {n : Nat} {y : Int32} (hn : n < 2 ^ 31) : ∀ r f i (J J' : qI), i + r = n → r < f → oD r J = some J' → ∃ K, q_fix (fun _ _ => none) (b_X12_beside_58 269 (nI n) y X) f (nI i) J = b_X12_beside_58 269 (nI n) y X K (nI n) J' := by
  intro r
  induction r with
  | zero =>
    intro f i J J' h1 h2 h
    obtain ⟨f, rfl⟩ : ∃ z, f = z + 1 := ⟨f - 1, by omega⟩
    have e : i = n := by omega
    subst e
    cases h
    exact ⟨_, rfl⟩
  | succ r ih =>
    intro f i J J' h1 h2 h
    obtain ⟨f, rfl⟩ : ∃ z, f = z + 1 := ⟨f - 1, by omega⟩
    obtain ⟨J1, e1, e2⟩ := q_b1_some h
    obtain ⟨K, k1⟩ := ih f (i + 1) J1 J' (by omega) (by omega) e2
    refine ⟨K, ?_⟩
    rw [← k1]
    show b_X12_beside_58 269 (nI n) y X (q_fix (fun _ _ => none) (b_X12_beside_58 269 (nI n) y X) f) (nI i) J = _
    generalize q_fix (fun _ _ => none) (b_X12_beside_58 269 (nI n) y X) f = KM
    unfold b_X12_beside_58
    rw [if_neg (nI_ge (by omega) hn), e1, u_s1, nI_add]
theorem bs99 {X : qX} {n : Nat} {y s : Int32} (hn : n < 2 ^ 31) : ∀ r f i (J J' : qI), i + r = n → r < f → oD r J = some J' → ∃ K, q_fix (fun _ _ _ => none) (b_X12_beside_99 269 (nI n) y X) f s (nI i) J = b_X12_beside_99 269 (nI n) y X K s (nI n) J' := by
  intro r
  induction r with
  | zero =>
    intro f i J J' h1 h2 h
    obtain ⟨f, rfl⟩ : ∃ z, f = z + 1 := ⟨f - 1, by omega⟩
    have e : i = n := by omega
    subst e
    cases h
    exact ⟨_, rfl⟩
  | succ r ih =>
    intro f i J J' h1 h2 h
    obtain ⟨f, rfl⟩ : ∃ z, f = z + 1 := ⟨f - 1, by omega⟩
    obtain ⟨J1, e1, e2⟩ := q_b1_some h
    obtain ⟨K, k1⟩ := ih f (i + 1) J1 J' (by omega) (by omega) e2
    refine ⟨K, ?_⟩
    rw [← k1]
    show b_X12_beside_99 269 (nI n) y X (q_fix (fun _ _ _ => none) (b_X12_beside_99 269 (nI n) y X) f) s (nI i) J = _
    generalize q_fix (fun _ _ _ => none) (b_X12_beside_99 269 (nI n) y X) f = KM
    unfold b_X12_beside_99
    rw [if_neg (nI_ge (by omega) hn), e1, u_s1, nI_add]
theorem st_25 {J : qI} {x : Int32} (w : Int32) : f_X12_stands 269 w (q_up J 269 25 x) = f_X12_stands 269 w J := by
  have e : ∀ k, q_up J 269 25 x 270 k = J 270 k := fun k => u_up_a (by decide)
  unfold f_X12_stands b_X12_stands_4 b_X12_stands_47 b_X12_stands_49 f_X12_owedBy q_rd
  simp only [show (269 + 1 : Nat) = 270 from rfl, e]
theorem W_beside {X : qX} (y1 y2 : Int32) : PX X (f_X11_beside 64 y1 y2 X) (fun X' => f_X12_beside 269 y1 y2 X') := by
  intro I J h
  have hR := h.rv
  have k0 := hR.k0
  show ∃ r I' X' J', f_X11_beside 64 y1 y2 X I = some (r, I', X') ∧ f_X12_beside 269 y1 y2 X' J = some (r, J') ∧ _
  unfold f_X11_beside f_X12_beside
  simp only [u_within, ii_1_60, ii_0_2, u_s1, u_ib, ite_not]
  by_cases c1 : nI 1 ≤ y1 ∧ y1 ≤ nI 60
  rotate_left
  · simp only [if_neg c1]; exact ⟨_, I, X, J, rfl, rfl, h, fun _ _ _ => rfl, fun _ _ => rfl⟩
  by_cases c2 : nI 0 ≤ y2 ∧ y2 ≤ nI 2
  rotate_left
  · simp only [if_pos c1, if_neg c2]; exact ⟨_, I, X, J, rfl, rfl, h, fun _ _ _ => rfl, fun _ _ => rfl⟩
  simp only [if_pos c1, if_pos c2]
  obtain ⟨n, rfl, hn1, hn2⟩ := u_range (by decide) c1.1 c1.2 (by decide)
  obtain ⟨w, rfl, -, hw⟩ := u_range (by decide) c2.1 c2.2 (by decide)
  rw [hR.sc0 (a := 64 + 1) rfl]
  by_cases c3 : J 270 0 + nI n ≤ nI 6999
  rotate_left
  · rw [if_neg c3]
    refine ⟨_, I, X, J, rfl, ?_, h, fun _ _ _ => rfl, fun _ _ => rfl⟩
    rw [u_rd (show 0 < 3580 by decide) (by decide), u_s1, if_neg c3]
  have c4 : cn (J 270) 0 + n ≤ 6999 := by
    rw [k0.1, nI_add] at c3
    exact (nI_leI (by omega) (by decide)).mp c3
  obtain ⟨sT, IT, XT, a1, ⟨a2, a3, a4, a5⟩, a6, a7⟩ := std (n := n) (w := w) (fl := nI 1) h.1 h.ax hR c4 hn2 hw
  have hRT : RV XT 65 IT (J 270) 0 := (hR.keepC (fun o ho => a6 _ (by omega)) (fun a ha => a6 a (by omega))).xcg (a5 _ (by decide)) a4
  obtain ⟨sF, IF_, XF, b1, ⟨b2, b3, b4, b5⟩, b6, b7⟩ := std (n := n) (w := w) (fl := nI 0) a2 a3 hRT c4 hn2 hw
  -- the model's rows
  have kd0 : q_kd XF 270 = some (0, 3580) := b2.k (k := 206) rfl rfl
  have kd2 : q_kd XF 272 = some (0, 3580) := b2.k (k := 208) rfl rfl
  obtain ⟨J1, l1, l2, l3⟩ := sa (X := XF) (a := 270) (b := 272) kd0 kd2 (by decide) J
  obtain ⟨J2, m1, m2, m3⟩ := b7 J1 (fun k _ => by rw [l3 270 (by decide)]) (Or.inl ⟨nI_0, by rw [l3 269 (by decide)]; exact h.bs⟩)
  obtain ⟨J3, n1, n2, n3⟩ := sa (X := XF) (a := 272) (b := 270) kd2 kd0 (by decide) J2
  have t3 : ∀ k, k < 3580 → J3 270 k = J 270 k := fun k hk => by rw [n2 k hk, m3.1 272 (by decide), l2 k hk]
  obtain ⟨J5, o1, o2, o3⟩ := a7 (q_up J3 269 25 (nI 1)) (fun k hk => by rw [u_up_a (by decide)]; exact t3 k hk) (Or.inr ⟨by decide +kernel, by rw [u_up_same]; decide +kernel⟩)
  obtain ⟨J7, p1, p2, p3⟩ := sa (X := XF) (a := 272) (b := 270) kd2 kd0 (by decide) (q_up J5 269 25 (nI 0))
  obtain ⟨K1, q1⟩ := bs58 (X := XF) (y := nI w) (n := n) (by omega) n q_fu 0 J1 J2 (Nat.zero_add _) (by have := q_fu1; omega) m1
  obtain ⟨K2, q2⟩ := bs99 (X := XF) (y := nI w) (s := sF) (n := n) (by omega) n q_fu 0 (q_up J3 269 25 (nI 1)) J5 (Nat.zero_add _) (by have := q_fu1; omega) o1
  have cellI : ∀ a, (a < 195 ∨ 260 ≤ a) → IF_ a = I a := fun a ha => (b6 a ha).trans (a6 a ha)
  have cellJ : ∀ a, a ≠ 269 → a ≠ 270 → a ≠ 272 → a ≠ 277 → a ≠ 278 → J7 a = J a := fun a h1 h2 h3 h4 h5 => by
    rw [p3 a h2]
    funext z
    rw [u_up_a h1, o3.1 a (by omega), u_up_a h1, n3 a h2, m3.1 a (by omega), l3 a h3]
  have fldJ : ∀ k, (k < 7 ∨ 13 ≤ k) → k ≠ 25 → J7 269 k = J 269 k := fun k h1 h2 => by
    rw [p3 269 (by decide), u_up_j h2, o3.2 k h1, u_up_j h2, n3 269 (by decide), m3.2 k h1, l3 269 (by decide)]
  have rowJ : ∀ k, k < 3580 → J7 270 k = J 270 k := fun k hk => by
    rw [p2 k hk, u_up_a (by decide), o3.1 272 (by decide), u_up_a (by decide), n3 272 (by decide), m3.1 272 (by decide), l2 k hk]
  refine ⟨sT - sF, IF_, XF, J7, ?_, ?_, ⟨b2, ?_, ⟨?_, ?_⟩, ?_, ?_, ?_, ?_, b3⟩, fun a h1 h2 => cellI a (by omega), fun a ha => cellJ a (by omega) (by omega) (by omega) (by omega) (by omega)⟩
  · rw [if_pos c3, a1, u_s3, b1, u_s3]
  · rw [u_rd (show 0 < 3580 by decide) (by decide), u_s1, if_pos c3, show (269 + 1 : Nat) = 270 from rfl, show (269 + 3 : Nat) = 272 from rfl, l1, u_s1, q1]
    unfold b_X12_beside_58
    rw [if_pos (Int32.le_refl _), m2, u_s1, show (269 + 1 : Nat) = 270 from rfl, show (269 + 3 : Nat) = 272 from rfl, n1, u_s1, u_s1, q2]
    unfold b_X12_beside_99
    rw [if_pos (Int32.le_refl _), u_s1, st_25, o2, u_s1, show (269 + 1 : Nat) = 270 from rfl, show (269 + 3 : Nat) = 272 from rfl, p1, u_s1]
  · exact ((hR.keepC (fun o ho => cellI _ (by omega)) (fun a ha => cellI a (by omega))).xcg ((b5 _ (by decide)).trans (a5 _ (by decide))) (b4.trans a4)).tcg rowJ
  · rw [cellI 64 (by decide), fldJ 3 (by decide) (by decide)]; exact h.kp.1
  · rw [fldJ 3 (by decide) (by decide), cellJ 271 (by decide) (by decide) (by decide) (by decide) (by decide)]
    exact h.kp.2.imp id fun q => ⟨q.1, (q.2.keepC (fun o ho => cellI _ (by omega)) (fun a ha => cellI a (by omega))).xcg ((b5 _ (by decide)).trans (a5 _ (by decide))) (b4.trans a4)⟩
  · unfold BK
    rw [cellI 264 (by decide), cellI 265 (by decide), cellI 266 (by decide), cellJ 273 (by decide) (by decide) (by decide) (by decide) (by decide), cellJ 274 (by decide) (by decide) (by decide) (by decide) (by decide), cellJ 275 (by decide) (by decide) (by decide) (by decide) (by decide)]
    exact h.bk
  · unfold WT
    rw [cellI 64 (by decide), cellI 267 (by decide), fldJ 39 (by decide) (by decide), cellJ 285 (by decide) (by decide) (by decide) (by decide) (by decide)]
    exact h.wt
  · unfold TP
    rw [cellI 260 (by decide), cellI 261 (by decide), fldJ 14 (by decide) (by decide), cellJ 276 (by decide) (by decide) (by decide) (by decide) (by decide)]
    exact h.tp
  · rw [p3 269 (by decide), u_up_same]; exact nI_0
