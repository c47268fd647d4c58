/-! LEVEL B: a Valley becomes another, all of it -/
theorem row2 {a : Nat} : ∀ k, k < 10 → f_X2_row a (nI k) = some (some (a + (k + 1))) := by
  intro k hk
  unfold f_X2_row
  rcases (show k = 0 ∨ k = 1 ∨ k = 2 ∨ k = 3 ∨ k = 4 ∨ k = 5 ∨ k = 6 ∨ k = 7 ∨ k = 8 ∨ k = 9 by omega) with rfl | rfl | rfl | rfl | rfl | rfl | rfl | rfl | rfl | rfl
  · rw [if_pos rfl]
  · rw [if_neg (show ¬ nI 1 = nI 0 by decide +kernel), if_pos rfl]
  · rw [if_neg (show ¬ nI 2 = nI 0 by decide +kernel), if_neg (show ¬ nI 2 = nI 1 by decide +kernel), if_pos rfl]
  · rw [if_neg (show ¬ nI 3 = nI 0 by decide +kernel), if_neg (show ¬ nI 3 = nI 1 by decide +kernel), if_neg (show ¬ nI 3 = nI 2 by decide +kernel), if_pos rfl]
  · rw [if_neg (show ¬ nI 4 = nI 0 by decide +kernel), if_neg (show ¬ nI 4 = nI 1 by decide +kernel), if_neg (show ¬ nI 4 = nI 2 by decide +kernel), if_neg (show ¬ nI 4 = nI 3 by decide +kernel), if_pos rfl]
  · rw [if_neg (show ¬ nI 5 = nI 0 by decide +kernel), if_neg (show ¬ nI 5 = nI 1 by decide +kernel), if_neg (show ¬ nI 5 = nI 2 by decide +kernel), if_neg (show ¬ nI 5 = nI 3 by decide +kernel), if_neg (show ¬ nI 5 = nI 4 by decide +kernel), if_pos rfl]
  · rw [if_neg (show ¬ nI 6 = nI 0 by decide +kernel), if_neg (show ¬ nI 6 = nI 1 by decide +kernel), if_neg (show ¬ nI 6 = nI 2 by decide +kernel), if_neg (show ¬ nI 6 = nI 3 by decide +kernel), if_neg (show ¬ nI 6 = nI 4 by decide +kernel), if_neg (show ¬ nI 6 = nI 5 by decide +kernel), if_pos rfl]
  · rw [if_neg (show ¬ nI 7 = nI 0 by decide +kernel), if_neg (show ¬ nI 7 = nI 1 by decide +kernel), if_neg (show ¬ nI 7 = nI 2 by decide +kernel), if_neg (show ¬ nI 7 = nI 3 by decide +kernel), if_neg (show ¬ nI 7 = nI 4 by decide +kernel), if_neg (show ¬ nI 7 = nI 5 by decide +kernel), if_neg (show ¬ nI 7 = nI 6 by decide +kernel), if_pos rfl]
  · rw [if_neg (show ¬ nI 8 = nI 0 by decide +kernel), if_neg (show ¬ nI 8 = nI 1 by decide +kernel), if_neg (show ¬ nI 8 = nI 2 by decide +kernel), if_neg (show ¬ nI 8 = nI 3 by decide +kernel), if_neg (show ¬ nI 8 = nI 4 by decide +kernel), if_neg (show ¬ nI 8 = nI 5 by decide +kernel), if_neg (show ¬ nI 8 = nI 6 by decide +kernel), if_neg (show ¬ nI 8 = nI 7 by decide +kernel), if_pos rfl]
  · rw [if_neg (show ¬ nI 9 = nI 0 by decide +kernel), if_neg (show ¬ nI 9 = nI 1 by decide +kernel), if_neg (show ¬ nI 9 = nI 2 by decide +kernel), if_neg (show ¬ nI 9 = nI 3 by decide +kernel), if_neg (show ¬ nI 9 = nI 4 by decide +kernel), if_neg (show ¬ nI 9 = nI 5 by decide +kernel), if_neg (show ¬ nI 9 = nI 6 by decide +kernel), if_neg (show ¬ nI 9 = nI 7 by decide +kernel), if_neg (show ¬ nI 9 = nI 8 by decide +kernel), if_pos rfl]
theorem row2_10 {a : Nat} : f_X2_row a (nI 10) = some none := by
  unfold f_X2_row
  rw [if_neg (show ¬ nI 10 = nI 0 by decide +kernel), if_neg (show ¬ nI 10 = nI 1 by decide +kernel), if_neg (show ¬ nI 10 = nI 2 by decide +kernel), if_neg (show ¬ nI 10 = nI 3 by decide +kernel), if_neg (show ¬ nI 10 = nI 4 by decide +kernel), if_neg (show ¬ nI 10 = nI 5 by decide +kernel), if_neg (show ¬ nI 10 = nI 6 by decide +kernel), if_neg (show ¬ nI 10 = nI 7 by decide +kernel), if_neg (show ¬ nI 10 = nI 8 by decide +kernel), if_neg (show ¬ nI 10 = nI 9 by decide +kernel), if_neg (show ¬ nI 10 = nI 12 by decide +kernel), if_neg (show ¬ nI 10 = nI 13 by decide +kernel)]
theorem row2_11 {a : Nat} : f_X2_row a (nI 11) = some none := by
  unfold f_X2_row
  rw [if_neg (show ¬ nI 11 = nI 0 by decide +kernel), if_neg (show ¬ nI 11 = nI 1 by decide +kernel), if_neg (show ¬ nI 11 = nI 2 by decide +kernel), if_neg (show ¬ nI 11 = nI 3 by decide +kernel), if_neg (show ¬ nI 11 = nI 4 by decide +kernel), if_neg (show ¬ nI 11 = nI 5 by decide +kernel), if_neg (show ¬ nI 11 = nI 6 by decide +kernel), if_neg (show ¬ nI 11 = nI 7 by decide +kernel), if_neg (show ¬ nI 11 = nI 8 by decide +kernel), if_neg (show ¬ nI 11 = nI 9 by decide +kernel), if_neg (show ¬ nI 11 = nI 12 by decide +kernel), if_neg (show ¬ nI 11 = nI 13 by decide +kernel)]
theorem row2_12 {a : Nat} : f_X2_row a (nI 12) = some (some (a + 11)) := by
  unfold f_X2_row
  rw [if_neg (show ¬ nI 12 = nI 0 by decide +kernel), if_neg (show ¬ nI 12 = nI 1 by decide +kernel), if_neg (show ¬ nI 12 = nI 2 by decide +kernel), if_neg (show ¬ nI 12 = nI 3 by decide +kernel), if_neg (show ¬ nI 12 = nI 4 by decide +kernel), if_neg (show ¬ nI 12 = nI 5 by decide +kernel), if_neg (show ¬ nI 12 = nI 6 by decide +kernel), if_neg (show ¬ nI 12 = nI 7 by decide +kernel), if_neg (show ¬ nI 12 = nI 8 by decide +kernel), if_neg (show ¬ nI 12 = nI 9 by decide +kernel), if_pos rfl]
theorem row2_13 {a : Nat} : f_X2_row a (nI 13) = some (some (a + 12)) := by
  unfold f_X2_row
  rw [if_neg (show ¬ nI 13 = nI 0 by decide +kernel), if_neg (show ¬ nI 13 = nI 1 by decide +kernel), if_neg (show ¬ nI 13 = nI 2 by decide +kernel), if_neg (show ¬ nI 13 = nI 3 by decide +kernel), if_neg (show ¬ nI 13 = nI 4 by decide +kernel), if_neg (show ¬ nI 13 = nI 5 by decide +kernel), if_neg (show ¬ nI 13 = nI 6 by decide +kernel), if_neg (show ¬ nI 13 = nI 7 by decide +kernel), if_neg (show ¬ nI 13 = nI 8 by decide +kernel), if_neg (show ¬ nI 13 = nI 9 by decide +kernel), if_neg (show ¬ nI 13 = nI 12 by decide +kernel), if_pos rfl]
theorem row1 {a : Nat} : ∀ k, k < 8 → f_X1_row a (nI k) = some (some (a + (k + 1))) := by
  intro k hk
  unfold f_X1_row
  rcases (show k = 0 ∨ k = 1 ∨ k = 2 ∨ k = 3 ∨ k = 4 ∨ k = 5 ∨ k = 6 ∨ k = 7 by omega) with rfl | rfl | rfl | rfl | rfl | rfl | rfl | rfl
  · rw [if_pos rfl]
  · rw [if_neg (show ¬ nI 1 = nI 0 by decide +kernel), if_pos rfl]
  · rw [if_neg (show ¬ nI 2 = nI 0 by decide +kernel), if_neg (show ¬ nI 2 = nI 1 by decide +kernel), if_pos rfl]
  · rw [if_neg (show ¬ nI 3 = nI 0 by decide +kernel), if_neg (show ¬ nI 3 = nI 1 by decide +kernel), if_neg (show ¬ nI 3 = nI 2 by decide +kernel), if_pos rfl]
  · rw [if_neg (show ¬ nI 4 = nI 0 by decide +kernel), if_neg (show ¬ nI 4 = nI 1 by decide +kernel), if_neg (show ¬ nI 4 = nI 2 by decide +kernel), if_neg (show ¬ nI 4 = nI 3 by decide +kernel), if_pos rfl]
  · rw [if_neg (show ¬ nI 5 = nI 0 by decide +kernel), if_neg (show ¬ nI 5 = nI 1 by decide +kernel), if_neg (show ¬ nI 5 = nI 2 by decide +kernel), if_neg (show ¬ nI 5 = nI 3 by decide +kernel), if_neg (show ¬ nI 5 = nI 4 by decide +kernel), if_pos rfl]
  · rw [if_neg (show ¬ nI 6 = nI 0 by decide +kernel), if_neg (show ¬ nI 6 = nI 1 by decide +kernel), if_neg (show ¬ nI 6 = nI 2 by decide +kernel), if_neg (show ¬ nI 6 = nI 3 by decide +kernel), if_neg (show ¬ nI 6 = nI 4 by decide +kernel), if_neg (show ¬ nI 6 = nI 5 by decide +kernel), if_pos rfl]
  · rw [if_neg (show ¬ nI 7 = nI 0 by decide +kernel), if_neg (show ¬ nI 7 = nI 1 by decide +kernel), if_neg (show ¬ nI 7 = nI 2 by decide +kernel), if_neg (show ¬ nI 7 = nI 3 by decide +kernel), if_neg (show ¬ nI 7 = nI 4 by decide +kernel), if_neg (show ¬ nI 7 = nI 5 by decide +kernel), if_neg (show ¬ nI 7 = nI 6 by decide +kernel), if_pos rfl]
theorem kz_a : ∀ v ∈ ([65, 130, 195] : List Nat), (∀ k, k < 12 → q_kz[v - 64 + 13 + k]? = some (0, 12)) ∧ (∀ k, k < 8 → q_kz[v - 64 + 28 + k]? = some (0, 60)) := by decide +kernel
theorem VX.rows {X : qX} (h : VX X) {v : Nat} (hv : v = 65 ∨ v = 130 ∨ v = 195) : (∀ k, k < 12 → q_kd X (v + (13 + k)) = some (0, 12)) ∧ (∀ k, k < 8 → q_kd X (v + (28 + k)) = some (0, 60)) := by
  have hm : v ∈ ([65, 130, 195] : List Nat) := by rcases hv with rfl | rfl | rfl <;> decide
  obtain ⟨a, b⟩ := kz_a v hm
  refine ⟨fun k hk => ?_, fun k hk => ?_⟩
  · have := h.2 _ _ (a k hk)
    rw [show v - 64 + 13 + k + 64 = v + (13 + k) by omega] at this
    exact this
  · have := h.2 _ _ (b k hk)
    rw [show v - 64 + 28 + k + 64 = v + (28 + k) by omega] at this
    exact this
theorem men_b {X : qX} (hX : VX X) {v w : Nat} (hv : v = 65 ∨ v = 130 ∨ v = 195) (hw : w = 65 ∨ w = 130 ∨ w = 195) (hvw : w + 65 ≤ v ∨ v + 65 ≤ w) {D : Nat → Prop} {I I0 : qI} (h : Bc v w D I I0) : ∃ I', f_X2_become (v + 12) (w + 12) X I0 = some I' ∧ Bc v w (fun p => D p ∨ (12 ≤ p ∧ p ≤ 26)) I I' := by
  have rv := (hX.rows hv).1
  have rw_ := (hX.rows hw).1
  have step : ∀ (K : Int32 → qI → Option qI) (k o : Nat) (E : Nat → Prop) (I1 : qI), o < 12 → Bc v w E I I1 → ¬ nI 13 < nI k → f_X2_row (v + 12) (nI k) = some (some (v + 12 + (o + 1))) → f_X2_row (w + 12) (nI k) = some (some (w + 12 + (o + 1))) → ∃ I2, b_X2_become_2 (v + 12) (w + 12) X K (nI k) I1 = K (nI (k + 1)) I2 ∧ Bc v w (fun p => E p ∨ p = 13 + o) I I2 := by
    intro K k o E I1 ho hb hk r1 r2
    obtain ⟨I2, c1, c2⟩ := hb.cp hvw (o := 13 + o) (N := 12) (by omega) (by unfold cpL; rw [if_neg (by omega), if_neg (by omega), if_neg (by omega), if_neg (by omega), if_neg (by omega), if_pos (by omega)]) (by unfold cpF; rw [if_neg (by omega), if_neg (by omega), if_neg (by omega), if_neg (by omega), if_neg (by omega), if_neg (by omega), if_neg (by omega)]) (by decide) (a := w + 12 + (o + 1)) (b := v + 12 + (o + 1)) (by omega) (by omega)
    refine ⟨I2, ?_, c2⟩
    unfold b_X2_become_2 b_X2_become_40
    rw [if_neg hk, r1, u_s1, r2, u_s1, u_on, u_on, u_arr (show q_kd X (w + 12 + (o + 1)) = some (0, 12) by rw [show w + 12 + (o + 1) = w + (13 + o) by omega]; exact rw_ o ho), u_s2, u_arr (show q_kd X (v + 12 + (o + 1)) = some (0, 12) by rw [show v + 12 + (o + 1) = v + (13 + o) by omega]; exact rv o ho), u_s2, c1, u_s1, nI_add]
  have skip : ∀ (K : Int32 → qI → Option qI) (k : Nat) (I1 : qI), ¬ nI 13 < nI k → f_X2_row (v + 12) (nI k) = some none → f_X2_row (w + 12) (nI k) = some none → b_X2_become_2 (v + 12) (w + 12) X K (nI k) I1 = K (nI (k + 1)) I1 := by
    intro K k I1 hk r1 r2
    unfold b_X2_become_2 b_X2_become_40
    rw [if_neg hk, r1, u_s1, r2, u_s1, nI_add]
    rfl
  unfold f_X2_become
  rw [show q_fu = 99985 + 15 from rfl]
  generalize hb : b_X2_become_2 (v + 12) (w + 12) X = b at step skip ⊢
  obtain ⟨J0, s0, t0⟩ := step (q_fix (fun _ _ => none) b (99985 + 14)) 0 0 _ I0 (by decide) h (by decide +kernel) (row2 0 (by decide)) (row2 0 (by decide))
  obtain ⟨J1, s1, t1⟩ := step (q_fix (fun _ _ => none) b (99985 + 13)) 1 1 _ J0 (by decide) t0 (by decide +kernel) (row2 1 (by decide)) (row2 1 (by decide))
  obtain ⟨J2, s2, t2⟩ := step (q_fix (fun _ _ => none) b (99985 + 12)) 2 2 _ J1 (by decide) t1 (by decide +kernel) (row2 2 (by decide)) (row2 2 (by decide))
  obtain ⟨J3, s3, t3⟩ := step (q_fix (fun _ _ => none) b (99985 + 11)) 3 3 _ J2 (by decide) t2 (by decide +kernel) (row2 3 (by decide)) (row2 3 (by decide))
  obtain ⟨J4, s4, t4⟩ := step (q_fix (fun _ _ => none) b (99985 + 10)) 4 4 _ J3 (by decide) t3 (by decide +kernel) (row2 4 (by decide)) (row2 4 (by decide))
  obtain ⟨J5, s5, t5⟩ := step (q_fix (fun _ _ => none) b (99985 + 9)) 5 5 _ J4 (by decide) t4 (by decide +kernel) (row2 5 (by decide)) (row2 5 (by decide))
  obtain ⟨J6, s6, t6⟩ := step (q_fix (fun _ _ => none) b (99985 + 8)) 6 6 _ J5 (by decide) t5 (by decide +kernel) (row2 6 (by decide)) (row2 6 (by decide))
  obtain ⟨J7, s7, t7⟩ := step (q_fix (fun _ _ => none) b (99985 + 7)) 7 7 _ J6 (by decide) t6 (by decide +kernel) (row2 7 (by decide)) (row2 7 (by decide))
  obtain ⟨J8, s8, t8⟩ := step (q_fix (fun _ _ => none) b (99985 + 6)) 8 8 _ J7 (by decide) t7 (by decide +kernel) (row2 8 (by decide)) (row2 8 (by decide))
  obtain ⟨J9, s9, t9⟩ := step (q_fix (fun _ _ => none) b (99985 + 5)) 9 9 _ J8 (by decide) t8 (by decide +kernel) (row2 9 (by decide)) (row2 9 (by decide))
  have s10 := skip (q_fix (fun _ _ => none) b (99985 + 4)) 10 J9 (by decide +kernel) row2_10 row2_10
  have s11 := skip (q_fix (fun _ _ => none) b (99985 + 3)) 11 J9 (by decide +kernel) row2_11 row2_11
  obtain ⟨J12, s12, t12⟩ := step (q_fix (fun _ _ => none) b (99985 + 2)) 12 10 _ J9 (by decide) t9 (by decide +kernel) row2_12 row2_12
  obtain ⟨J13, s13, t13⟩ := step (q_fix (fun _ _ => none) b (99985 + 1)) 13 11 _ J12 (by decide) t12 (by decide +kernel) row2_13 row2_13
  have e14 : b (q_fix (fun _ _ => none) b 99985) (nI 14) J13 = (q_b1 (q_cp J13 (w + 12 + 13) 72 (nI 0) (v + 12 + 13) 72 (nI 0) (nI 72)) fun I5 => q_b1 (q_cp I5 (w + 12 + 14) 72 (nI 0) (v + 12 + 14) 72 (nI 0) (nI 72)) fun I15 => q_b1 (some (q_up I15 (v + 12) 14 (I15 (w + 12) 14))) fun I22 => some I22) := by
    rw [← hb]
    unfold b_X2_become_2
    rw [if_pos (show nI 13 < nI 14 by decide +kernel)]
  obtain ⟨K1, a1, a2⟩ := t13.cp hvw (o := 25) (N := 72) (by decide) rfl rfl (by decide) (a := w + 12 + 13) (b := v + 12 + 13) rfl rfl
  obtain ⟨K2, b1, b2⟩ := a2.cp hvw (o := 26) (N := 72) (by decide) rfl rfl (by decide) (a := w + 12 + 14) (b := v + 12 + 14) rfl rfl
  have b3 := b2.fl hvw (o := 12) (f := 14) (by decide) rfl rfl (a := w + 12) (b := v + 12) rfl rfl
  refine ⟨q_up K2 (v + 12) 14 (K2 (w + 12) 14), ?_, b3.mono (fun p hp => ?_)⟩
  · show b (q_fix (fun _ _ => none) b (99985 + 14)) (nI 0) I0 = _
    rw [s0]
    show b (q_fix (fun _ _ => none) b (99985 + 13)) (nI 1) J0 = _
    rw [s1]
    show b (q_fix (fun _ _ => none) b (99985 + 12)) (nI 2) J1 = _
    rw [s2]
    show b (q_fix (fun _ _ => none) b (99985 + 11)) (nI 3) J2 = _
    rw [s3]
    show b (q_fix (fun _ _ => none) b (99985 + 10)) (nI 4) J3 = _
    rw [s4]
    show b (q_fix (fun _ _ => none) b (99985 + 9)) (nI 5) J4 = _
    rw [s5]
    show b (q_fix (fun _ _ => none) b (99985 + 8)) (nI 6) J5 = _
    rw [s6]
    show b (q_fix (fun _ _ => none) b (99985 + 7)) (nI 7) J6 = _
    rw [s7]
    show b (q_fix (fun _ _ => none) b (99985 + 6)) (nI 8) J7 = _
    rw [s8]
    show b (q_fix (fun _ _ => none) b (99985 + 5)) (nI 9) J8 = _
    rw [s9]
    show b (q_fix (fun _ _ => none) b (99985 + 4)) (nI 10) J9 = _
    rw [s10]
    show b (q_fix (fun _ _ => none) b (99985 + 3)) (nI 11) J9 = _
    rw [s11]
    show b (q_fix (fun _ _ => none) b (99985 + 2)) (nI 12) J9 = _
    rw [s12]
    show b (q_fix (fun _ _ => none) b (99985 + 1)) (nI 13) J12 = _
    rw [s13]
    show b (q_fix (fun _ _ => none) b 99985) (nI 14) J13 = _
    rw [e14, a1, u_s1, b1, u_s1, u_s1]
  · rcases hp with hp | hp
    · simp only [hp, true_or]
    · rcases (show p = 12 ∨ p = 13 ∨ p = 14 ∨ p = 15 ∨ p = 16 ∨ p = 17 ∨ p = 18 ∨ p = 19 ∨ p = 20 ∨ p = 21 ∨ p = 22 ∨ p = 23 ∨ p = 24 ∨ p = 25 ∨ p = 26 by omega) with rfl | rfl | rfl | rfl | rfl | rfl | rfl | rfl | rfl | rfl | rfl | rfl | rfl | rfl | rfl <;> simp
theorem due_b {X : qX} (hX : VX X) {v w : Nat} (hv : v = 65 ∨ v = 130 ∨ v = 195) (hw : w = 65 ∨ w = 130 ∨ w = 195) (hvw : w + 65 ≤ v ∨ v + 65 ≤ w) {D : Nat → Prop} {I I0 : qI} (h : Bc v w D I I0) : ∃ I', f_X1_become (v + 27) (w + 27) X I0 = some I' ∧ Bc v w (fun p => D p ∨ (27 ≤ p ∧ p ≤ 35)) I I' := by
  have rv := (hX.rows hv).2
  have rw_ := (hX.rows hw).2
  have step : ∀ (K : Int32 → qI → Option qI) (k : Nat) (E : Nat → Prop) (I1 : qI), k < 8 → Bc v w E I I1 → ∃ I2, b_X1_become_2 (v + 27) (w + 27) X K (nI k) I1 = K (nI (k + 1)) I2 ∧ Bc v w (fun p => E p ∨ p = 28 + k) I I2 := by
    intro K k E I1 ho hb
    obtain ⟨I2, c1, c2⟩ := hb.cp hvw (o := 28 + k) (N := 60) (by omega) (by unfold cpL; rw [if_neg (by omega), if_neg (by omega), if_neg (by omega), if_neg (by omega), if_neg (by omega), if_neg (by omega), if_neg (by omega), if_neg (by omega), if_pos (by omega)]) (by unfold cpF; rw [if_neg (by omega), if_neg (by omega), if_neg (by omega), if_neg (by omega), if_neg (by omega), if_neg (by omega), if_neg (by omega)]) (by decide) (a := w + 27 + (k + 1)) (b := v + 27 + (k + 1)) (by omega) (by omega)
    refine ⟨I2, ?_, c2⟩
    unfold b_X1_become_2 b_X1_become_40
    rw [if_neg (nI_nlt (by omega) (by decide)), row1 k ho, u_s1, row1 k ho, u_s1, u_on, u_on, u_arr (show q_kd X (w + 27 + (k + 1)) = some (0, 60) by rw [show w + 27 + (k + 1) = w + (28 + k) by omega]; exact rw_ k ho), u_s2, u_arr (show q_kd X (v + 27 + (k + 1)) = some (0, 60) by rw [show v + 27 + (k + 1) = v + (28 + k) by omega]; exact rv k ho), u_s2, c1, u_s1, nI_add]
  unfold f_X1_become
  rw [show q_fu = 99991 + 9 from rfl]
  generalize hb : b_X1_become_2 (v + 27) (w + 27) X = b at step ⊢
  obtain ⟨J0, s0, t0⟩ := step (q_fix (fun _ _ => none) b (99991 + 8)) 0 _ I0 (by decide) h
  obtain ⟨J1, s1, t1⟩ := step (q_fix (fun _ _ => none) b (99991 + 7)) 1 _ J0 (by decide) t0
  obtain ⟨J2, s2, t2⟩ := step (q_fix (fun _ _ => none) b (99991 + 6)) 2 _ J1 (by decide) t1
  obtain ⟨J3, s3, t3⟩ := step (q_fix (fun _ _ => none) b (99991 + 5)) 3 _ J2 (by decide) t2
  obtain ⟨J4, s4, t4⟩ := step (q_fix (fun _ _ => none) b (99991 + 4)) 4 _ J3 (by decide) t3
  obtain ⟨J5, s5, t5⟩ := step (q_fix (fun _ _ => none) b (99991 + 3)) 5 _ J4 (by decide) t4
  obtain ⟨J6, s6, t6⟩ := step (q_fix (fun _ _ => none) b (99991 + 2)) 6 _ J5 (by decide) t5
  obtain ⟨J7, s7, t7⟩ := step (q_fix (fun _ _ => none) b (99991 + 1)) 7 _ J6 (by decide) t6
  have e8 : b (q_fix (fun _ _ => none) b 99991) (nI 8) J7 = some (q_up J7 (v + 27) 8 (J7 (w + 27) 8)) := by
    rw [← hb]
    unfold b_X1_become_2
    rw [if_pos (show nI 7 < nI 8 by decide +kernel), u_s1]
  have b3 := t7.fl hvw (o := 27) (f := 8) (by decide) rfl rfl (a := w + 27) (b := v + 27) rfl rfl
  refine ⟨_, ?_, b3.mono (fun p hp => ?_)⟩
  · show b (q_fix (fun _ _ => none) b (99991 + 8)) (nI 0) I0 = _
    rw [s0]
    show b (q_fix (fun _ _ => none) b (99991 + 7)) (nI 1) J0 = _
    rw [s1]
    show b (q_fix (fun _ _ => none) b (99991 + 6)) (nI 2) J1 = _
    rw [s2]
    show b (q_fix (fun _ _ => none) b (99991 + 5)) (nI 3) J2 = _
    rw [s3]
    show b (q_fix (fun _ _ => none) b (99991 + 4)) (nI 4) J3 = _
    rw [s4]
    show b (q_fix (fun _ _ => none) b (99991 + 3)) (nI 5) J4 = _
    rw [s5]
    show b (q_fix (fun _ _ => none) b (99991 + 2)) (nI 6) J5 = _
    rw [s6]
    show b (q_fix (fun _ _ => none) b (99991 + 1)) (nI 7) J6 = _
    rw [s7]
    show b (q_fix (fun _ _ => none) b 99991) (nI 8) J7 = _
    rw [e8]
  · rcases hp with hp | hp
    · simp only [hp, true_or]
    · rcases (show p = 27 ∨ p = 28 ∨ p = 29 ∨ p = 30 ∨ p = 31 ∨ p = 32 ∨ p = 33 ∨ p = 34 ∨ p = 35 by omega) with rfl | rfl | rfl | rfl | rfl | rfl | rfl | rfl | rfl <;> simp
theorem q_kd2 {X Y : qX} (h : X.2 = Y.2) (a : Nat) : q_kd X a = q_kd Y a := by unfold q_kd; rw [h]
/-- the texts' rows are shared -/
theorem ref_b {X0 : qX} (hA : AX X0) {v w : Nat} (hw : w = 65 ∨ w = 130 ∨ w = 195) (hvw : w + 65 ≤ v ∨ v + 65 ≤ w) {I : qI} : ∀ r f i (X : qX), i + r = 12 → r < f → X.2 = X0.2 → (∀ k, k < i → X.1 (v + 40) k = X0.1 (w + 40) k) → (∀ a, a ≠ v + 40 → X.1 a = X0.1 a) → ∃ X', q_fix (fun _ _ _ => none) (b_X7_become_47 (v + 36) (w + 36)) f (nI i) X I = some (q_up I (v + 36) 5 (I (w + 36) 5), X') ∧ X'.2 = X0.2 ∧ (∀ k, k < 12 → X'.1 (v + 40) k = X0.1 (w + 40) k) ∧ (∀ a, a ≠ v + 40 → X'.1 a = X0.1 a) := by
  intro r
  induction r with
  | zero =>
    intro f i X h1 h2 hK hk ha
    obtain ⟨f, rfl⟩ : ∃ z, f = z + 1 := ⟨f - 1, by omega⟩
    have e : i = 12 := by omega
    subst e
    refine ⟨X, ?_, hK, hk, ha⟩
    show b_X7_become_47 (v + 36) (w + 36) (q_fix _ _ f) (nI 12) X I = _
    unfold b_X7_become_47
    rw [if_pos (Int32.le_refl _), u_s1]
  | succ r ih =>
    intro f i X h1 h2 hK hk ha
    obtain ⟨f, rfl⟩ : ∃ z, f = z + 1 := ⟨f - 1, by omega⟩
    have hi : i < 12 := by omega
    obtain ⟨X', g1, g2, g3, g4⟩ := ih f (i + 1) (q_upR X.1 (v + 40) i (X0.1 (w + 40) i), X.2) (by omega) (by omega) hK (fun k hk' => by
      show (if v + 40 = v + 40 then va_up (X.1 (v + 40)) i (X0.1 (w + 40) i) else _) k = _
      rw [if_pos rfl]
      unfold va_up
      by_cases e : k = i
      · subst e; simp
      · simp [e]; exact hk k (by omega)) (fun a ha' => by
      show (if a = v + 40 then _ else X.1 a) = _
      rw [if_neg ha']; exact ha a ha')
    refine ⟨X', ?_, g2, g3, g4⟩
    show b_X7_become_47 (v + 36) (w + 36) (q_fix (fun _ _ _ => none) (b_X7_become_47 (v + 36) (w + 36)) f) (nI i) X I = _
    generalize q_fix (fun _ _ _ => none) (b_X7_become_47 (v + 36) (w + 36)) f = KC at g1 ⊢
    unfold b_X7_become_47
    rw [if_neg (nI_ge hi (by decide)), u_rdR hi (by decide), u_s1, show X.1 (w + 36 + 4) i = X0.1 (w + 40) i by rw [show w + 36 + 4 = w + 40 from rfl, ha (w + 40) (by omega)]]
    have ew : q_wrR X (v + 36 + 4) 12 (nI i) (X0.1 (w + 40) i) = some (q_upR X.1 (v + 40) i (X0.1 (w + 40) i), X.2) := by
      unfold q_wrR
      rw [if_neg, nI_clamp (by omega)]
      rintro (q | ⟨q1, q2⟩)
      · exact nI_in hi (by decide) q
      · rcases hA w hw i hi with e | ⟨a, L, e1, e2⟩
        · exact q1 e
        · rw [e1, u_arr (show q_kd X a = some (0, L) by rw [q_kd2 hK]; exact e2)] at q2
          cases q2
    rw [ew, u_s1, nI_add]
    exact g1
def cplB (o : Nat) : Bool := (decide (cpL o = 0) && decide (cpF o = 99)) || (decide (2 ≤ o) && decide (o ≤ 39)) || (decide (43 ≤ o) && decide (o ≤ 47)) || (decide (52 ≤ o) && decide (o ≤ 55)) || decide (o = 60) || decide (o = 0)
theorem cplB_a : (List.range 65).all cplB = true := by decide +kernel
theorem cpl_D {o : Nat} (ho : o < 65) (h : cpL o ≠ 0 ∨ cpF o ≠ 99) : (2 ≤ o ∧ o ≤ 39) ∨ (43 ≤ o ∧ o ≤ 47) ∨ (52 ≤ o ∧ o ≤ 55) ∨ o = 60 ∨ o = 0 := by
  have h1 := List.all_eq_true.mp cplB_a o (List.mem_range.mpr ho)
  unfold cplB at h1
  simp only [Bool.or_eq_true, Bool.and_eq_true, decide_eq_true_eq] at h1
  omega
theorem cpl_o {o i : Nat} (h : cpl o i = true) : o < 65 ∧ (cpL o ≠ 0 ∨ cpF o ≠ 99) := by
  unfold cpl at h
  have h2 : i < cpL o ∨ (i = cpF o ∧ cpF o ≠ 99) := by simpa using h
  refine ⟨?_, ?_⟩
  · by_cases c : o < 65
    · exact c
    · exfalso
      have e1 : cpL o = 0 := by unfold cpL; rw [if_neg (by omega), if_neg (by omega), if_neg (by omega), if_neg (by omega), if_neg (by omega), if_neg (by omega), if_neg (by omega), if_neg (by omega), if_neg (by omega), if_neg (by omega), if_neg (by omega), if_neg (by omega), if_neg (by omega), if_neg (by omega), if_neg (by omega), if_neg (by omega), if_neg (by omega), if_neg (by omega)]
      have e2 : cpF o = 99 := by unfold cpF; rw [if_neg (by omega), if_neg (by omega), if_neg (by omega), if_neg (by omega), if_neg (by omega), if_neg (by omega), if_neg (by omega)]
      rw [e1, e2] at h2
      omega
  · rcases h2 with h2 | h2
    · left; omega
    · right; exact h2.2
theorem become_ev {X : qX} (hX : VX X) (hA : AX X) {v w : Nat} (hv : v = 65 ∨ v = 130 ∨ v = 195) (hw : w = 65 ∨ w = 130 ∨ w = 195) (hvw : w + 65 ≤ v ∨ v + 65 ≤ w) (I : qI) : ∃ I' X', f_X9_become v w X I = some (I', X') ∧ (∀ o i, cpl o i = true → I' (v + o) i = I (w + o) i) ∧ (∀ a, (a < v ∨ v + 65 ≤ a) → I' a = I a) ∧ X'.2 = X.2 ∧ (∀ k, k < 12 → X'.1 (v + 40) k = X.1 (w + 40) k) ∧ (∀ a, a ≠ v + 40 → X'.1 a = X.1 a) := by
  have b0 : Bc v w (fun _ => False) I I := ⟨fun _ _ q => q.elim, fun _ _ => rfl⟩
  unfold f_X9_become f_X3_become f_X8_become f_X7_become f_X10_become f_X6_become f_X4_become
  obtain ⟨A0, p0, q0⟩ := b0.cp hvw (o := 2) (N := 8) (by decide) rfl rfl (by decide) (a := w + 1 + 1) (b := v + 1 + 1) rfl rfl
  obtain ⟨A1, p1, q1⟩ := q0.cp hvw (o := 3) (N := 8) (by decide) rfl rfl (by decide) (a := w + 1 + 2) (b := v + 1 + 2) rfl rfl
  obtain ⟨A2, p2, q2⟩ := q1.cp hvw (o := 4) (N := 8) (by decide) rfl rfl (by decide) (a := w + 1 + 3) (b := v + 1 + 3) rfl rfl
  obtain ⟨A3, p3, q3⟩ := q2.cp hvw (o := 5) (N := 8) (by decide) rfl rfl (by decide) (a := w + 1 + 4) (b := v + 1 + 4) rfl rfl
  obtain ⟨A4, p4, q4⟩ := q3.cp hvw (o := 6) (N := 8) (by decide) rfl rfl (by decide) (a := w + 1 + 5) (b := v + 1 + 5) rfl rfl
  obtain ⟨A5, p5, q5⟩ := q4.cp hvw (o := 8) (N := 6) (by decide) rfl rfl (by decide) (a := w + 7 + 1) (b := v + 7 + 1) rfl rfl
  obtain ⟨A6, p6, q6⟩ := q5.cp hvw (o := 9) (N := 6) (by decide) rfl rfl (by decide) (a := w + 7 + 2) (b := v + 7 + 2) rfl rfl
  obtain ⟨A7, p7, q7⟩ := q6.cp hvw (o := 10) (N := 6) (by decide) rfl rfl (by decide) (a := w + 7 + 3) (b := v + 7 + 3) rfl rfl
  obtain ⟨A8, p8, q8⟩ := q7.cp hvw (o := 11) (N := 6) (by decide) rfl rfl (by decide) (a := w + 7 + 4) (b := v + 7 + 4) rfl rfl
  have q9 := q8.fl hvw (o := 7) (f := 4) (by decide) rfl rfl (a := w + 7) (b := v + 7) rfl rfl
  obtain ⟨M, pm, qm⟩ := men_b hX hv hw hvw q9
  obtain ⟨Du, pd, qd⟩ := due_b hX hv hw hvw qm
  obtain ⟨A10, p10, q10⟩ := qd.cp hvw (o := 37) (N := 12) (by decide) rfl rfl (by decide) (a := w + 36 + 1) (b := v + 36 + 1) rfl rfl
  obtain ⟨A11, p11, q11⟩ := q10.cp hvw (o := 38) (N := 12) (by decide) rfl rfl (by decide) (a := w + 36 + 2) (b := v + 36 + 2) rfl rfl
  obtain ⟨A12, p12, q12⟩ := q11.cp hvw (o := 39) (N := 12) (by decide) rfl rfl (by decide) (a := w + 36 + 3) (b := v + 36 + 3) rfl rfl
  obtain ⟨X', r1, r2, r3, r4⟩ := ref_b hA hw hvw (I := A12) 12 q_fu 0 X (by decide) (by decide) rfl (fun k hk => absurd hk (Nat.not_lt_zero _)) (fun _ _ => rfl)
  have q13 := q12.fl hvw (o := 36) (f := 5) (by decide) rfl rfl (a := w + 36) (b := v + 36) rfl rfl
  obtain ⟨A14, p14, q14⟩ := q13.cp hvw (o := 43) (N := 48) (by decide) rfl rfl (by decide) (a := w + 42 + 1) (b := v + 42 + 1) rfl rfl
  obtain ⟨A15, p15, q15⟩ := q14.cp hvw (o := 45) (N := 16) (by decide) rfl rfl (by decide) (a := w + 44 + 1) (b := v + 44 + 1) rfl rfl
  obtain ⟨A16, p16, q16⟩ := q15.cp hvw (o := 46) (N := 16) (by decide) rfl rfl (by decide) (a := w + 44 + 2) (b := v + 44 + 2) rfl rfl
  obtain ⟨A17, p17, q17⟩ := q16.cp hvw (o := 47) (N := 16) (by decide) rfl rfl (by decide) (a := w + 44 + 3) (b := v + 44 + 3) rfl rfl
  have q18 := q17.fl hvw (o := 44) (f := 8) (by decide) rfl rfl (a := w + 44) (b := v + 44) rfl rfl
  obtain ⟨A19, p19, q19⟩ := q18.cp hvw (o := 53) (N := 8) (by decide) rfl rfl (by decide) (a := w + 52 + 1) (b := v + 52 + 1) rfl rfl
  obtain ⟨A20, p20, q20⟩ := q19.cp hvw (o := 54) (N := 8) (by decide) rfl rfl (by decide) (a := w + 52 + 2) (b := v + 52 + 2) rfl rfl
  obtain ⟨A21, p21, q21⟩ := q20.cp hvw (o := 55) (N := 8) (by decide) rfl rfl (by decide) (a := w + 52 + 3) (b := v + 52 + 3) rfl rfl
  have q22 := q21.fl hvw (o := 52) (f := 9) (by decide) rfl rfl (a := w + 52) (b := v + 52) rfl rfl
  obtain ⟨A23, p23, q23⟩ := q22.cp hvw (o := 60) (N := 3) (by decide) rfl rfl (by decide) (a := w + 60) (b := v + 60) rfl rfl
  have q24 := q23.fl hvw (o := 0) (f := 13) (by decide) rfl rfl (a := w) (b := v) rfl rfl
  rw [p0, u_s1, p1, u_s1, p2, u_s1, p3, u_s1, p4, u_s1, u_s1, p5, u_s1, p6, u_s1, p7, u_s1, p8, u_s1, u_s1, u_s1, pm, u_s1, pd, u_s1, p10, u_s1, p11, u_s1, p12, u_s1, r1, u_s2, p14, u_s1, u_s1, p15, u_s1, p16, u_s1, p17, u_s1, u_s1, u_s1, p19, u_s1, p20, u_s1, p21, u_s1, u_s1, u_s1, p23, u_s1, u_s1]
  refine ⟨_, X', rfl, fun o i hc => q24.1 o i ?_ hc, q24.2, r2, r3, r4⟩
  obtain ⟨h1, h2⟩ := cpl_o hc
  have h3 := cpl_D h1 h2
  simp only [false_or]
  omega
