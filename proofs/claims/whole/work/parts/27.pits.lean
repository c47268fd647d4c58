/-! LEVEL B, rows that are looked at and exchanged -/
theorem u_on {α : Type} (a : Nat) (x : Option α) (f : Nat → Option α) : q_on (some a) x f = f a := rfl
theorem u_arr {X : qX} {a n : Nat} (h : q_kd X a = some (0, n)) : q_arr X (some a) = some (a, n) := by
  unfold q_arr
  simp only [h]
theorem u_in {k n : Nat} (h : k < n) (hn : n < 2 ^ 31) : nI 0 ≤ nI k ∧ nI k ≤ nI n - nI 1 := by
  rw [u_sub (by omega)]
  exact ⟨nI_le (Nat.zero_le _) (by omega), nI_le (by omega) (by omega)⟩
theorem u_one : ¬ (1 : Int32) = 0 := by decide
theorem u_looked {X : qX} {I : qI} {a n k : Nat} (h : q_kd X a = some (0, n)) (hk : k < n) (hn : n < 2 ^ 31) : f_X11_looked (some a) (nI k) X I = some (I a k) := by
  unfold f_X11_looked
  simp only [u_on, u_arr h, u_s1, u_s2, u_within, if_pos (u_in hk hn), u_rd hk hn, if_neg u_one]
theorem u_exchanged {X : qX} {I : qI} {a n k : Nat} {x : Int32} (h : q_kd X a = some (0, n)) (hk : k < n) (hn : n < 2 ^ 31) : f_X11_exchanged (some a) (nI k) x X I = some (I a k, q_up I a k x) := by
  unfold f_X11_exchanged
  simp only [u_looked h hk hn, u_on, u_arr h, u_s1, u_s2, u_within, if_pos (u_in hk hn), u_wr hk hn, if_neg u_one]
theorem u_becomes {I : qI} {k : Nat} {x : Int32} (hk : k < 3580) : f_X12_becomes 269 (nI k) x I = some (I 270 k, q_up I 270 k x) := by
  unfold f_X12_becomes
  simp only [u_s1, u_rd hk (by decide), u_wr hk (by decide)]
theorem u_rowP : ∀ w, w < 5 → f_X3_row 66 (nI w) = some (some (67 + w)) := by
  intro w h
  rcases (show w = 0 ∨ w = 1 ∨ w = 2 ∨ w = 3 ∨ w = 4 by omega) with rfl | rfl | rfl | rfl | rfl <;> decide +kernel
/-- a try of the way: pit, for any V that has the view and keeps paired writes -/
theorem u_pit {V : qI → qX → Prop} (hkd : ∀ I X, V I X → ∀ w, w < 5 → q_kd X (67 + w) = some (0, 8)) (hva : ∀ I X, V I X → ∀ p, p < 8 → ∀ w, w < 5 → I (67 + w) p = I 270 (10 + 5 * p + w)) (hup : ∀ I X, V I X → ∀ p, p < 8 → ∀ w, w < 2 → ∀ y, 1 ≤ y → y ≤ 150 → V (q_up (q_up I (67 + w) p (nI y)) 270 (10 + 5 * p + w) (nI y)) X) : Pr_pit V := by
  intro y1 y2 y3 X I hV
  have e1 : f_X11_within y1 (nI 0) (nI 7) = some (if nI 0 ≤ y1 ∧ y1 ≤ nI 7 then 1 else 0) := u_within _ _ _
  have e2 : f_X11_within y2 (nI 0) (nI 1) = some (if nI 0 ≤ y2 ∧ y2 ≤ nI 1 then 1 else 0) := u_within _ _ _
  have m1 : f_X12_isPit y1 = some (if nI 0 ≤ y1 ∧ y1 ≤ nI 7 then 1 else 0) := by
    unfold f_X12_isPit
    rw [show ((0 : Int64)) = (nI 0).toInt64 by decide +kernel, show ((7 : Int64)) = (nI 7).toInt64 by decide +kernel, u_isIn32]
    by_cases h : nI 0 ≤ y1 ∧ y1 ≤ nI 7
    · rw [if_pos h]; rfl
    · rw [if_neg h]; rfl
  have m2 : f_X12_isIn y2.toInt64 (0 : Int64) (1 : Int64) = some (if nI 0 ≤ y2 ∧ y2 ≤ nI 1 then 1 else 0) := by
    rw [show ((0 : Int64)) = (nI 0).toInt64 by decide +kernel, show ((1 : Int64)) = (nI 1).toInt64 by decide +kernel, u_isIn32]
  unfold f_X11_pit f_X12_pit
  simp only [e1, e2, m1, m2, u_s1]
  by_cases h1 : nI 0 ≤ y1 ∧ y1 ≤ nI 7
  · simp only [if_pos h1, if_neg u_one]
    by_cases h2 : nI 0 ≤ y2 ∧ y2 ≤ nI 1
    · simp only [if_pos h2, if_neg u_one]
      obtain ⟨p, rfl, -, hp⟩ := u_range (by decide) h1.1 h1.2 (by decide)
      obtain ⟨w, rfl, -, hw⟩ := u_range (by decide) h2.1 h2.2 (by decide)
      have key : ∀ M : Nat, M ≤ 150 → ∃ (v : Int32) (I8 : qI) (I17 : qI), b_X11_pit_36 64 (nI p) (nI w) y3 X (nI M) I = some (v, I8) ∧ b_X12_pit_33 269 (nI p) (nI w) y3 y3.toInt64 (1 : Int64) (nI M).toInt64 I8 = some (v, I17) ∧ V I17 X := by
        intro M hM
        unfold b_X11_pit_36 b_X12_pit_33
        rw [show ((1 : Int64)) = (nI 1).toInt64 by decide +kernel, u_isIn32]
        simp only [u_within, u_s1]
        by_cases h3 : nI 1 ≤ y3 ∧ y3 ≤ nI M
        · simp only [if_pos h3, if_neg u_one]
          obtain ⟨y, rfl, hy1, hy2⟩ := u_range (by omega) h3.1 h3.2 (by decide)
          have hr := u_rowP w (by omega)
          have hx := u_exchanged (I := I) (x := nI y) (hkd I X hV w (by omega)) (show p < 8 by omega) (by decide)
          refine ⟨I (67 + w) p, q_up I (67 + w) p (nI y), _, ?_, ?_, hup I X hV p (by omega) w (by omega) y hy1 (by omega)⟩
          · rw [show (64 : Nat) + 2 = 66 from rfl, hr, u_s1, hx]; rfl
          · rw [u_mul, nI_add, nI_add, u_becomes (by omega)]
            rw [u_s2, u_up_a (by omega), hva I X hV p (by omega) w (by omega)]
        · simp only [if_neg h3]
          exact ⟨_, _, _, rfl, rfl, hV⟩
      by_cases h4 : nI w = 0
      · simp only [if_pos h4]; exact key 99 (by decide)
      · simp only [if_neg h4]; exact key 150 (by decide)
    · simp only [if_neg h2]
      exact ⟨_, _, _, rfl, rfl, hV⟩
  · simp only [if_neg h1]
    exact ⟨_, _, _, rfl, rfl, hV⟩
