/-! LEVEL B: the rules, both sides -/
theorem u_rdR {X : qX} {a n k : Nat} (h : k < n) (hn : n < 2 ^ 31) : q_rdR X a n (nI k) = some (X.1 a k) := by
  unfold q_rdR
  rw [if_neg (nI_in h hn), nI_clamp (Nat.lt_trans h hn)]
theorem TV.val {X : qX} {v : Nat} {I J0 : qI} (h : TV X v I (J0 270)) (hv : v ≤ 195) {i K : Nat} (hi : i < cn (J0 270) 4) (hK : cn (J0 270) (850 + 200 * i) = K) (hK7 : K < 7) {J : qI} (hJ : J 270 = J0 270) {A B C : Int32} (hn : ∀ q, q < nmN K → J 277 (nmL K q) = arg3 A B C q) : ∃ x I' J', f_X7_value (v + 36) (nI i) A B C X I = some (x, I') ∧ f_X12_worked 269 (nI i) J = some (x, J') ∧ SC v I I' ∧ SJ J J' := by
  have c4 := h.k4
  obtain ⟨a, L, d, e1, e2, e3, e4, e5, e6, e7⟩ := h.2.2.2 i hi
  rw [hK] at e7
  unfold f_X7_value f_X12_worked
  rw [u_rdR (show i < 12 by omega) (by decide), u_s1, show X.1 (v + 36 + 4) i = some a from e1, u_on]
  have := worked_eq (X := X) hv hK7 (show i < 12 by omega) e2 e3 e4 e5 e6 e7 hn L 0 q_fu q_fu I J (Nat.zero_add _) (by have := q_fu1; omega) (by have := q_fu1; omega) (fun q hq => by rw [e7.1] at hq; exact absurd hq (Nat.not_lt_zero _)) rfl hJ rfl
  rw [e7.1] at this
  exact this
theorem held_ev {lo hi : Nat} (h : lo ≤ hi) (hh : hi < 2 ^ 31) (x : Int32) : ∃ r, lo ≤ r ∧ r ≤ hi ∧ q_max (nI lo) (q_min (nI hi) x) = nI r ∧ f_X12_held x (nI lo) (nI hi) = some (nI r) := by
  unfold q_max q_min f_X12_held
  by_cases h1 : nI lo ≤ x
  · rw [if_pos h1]
    by_cases h2 : x ≤ nI hi
    · rw [if_pos h2]
      obtain ⟨k, rfl, k1, k2⟩ := u_range hh h1 h2 (by omega)
      refine ⟨k, k1, k2, ?_, rfl⟩
      by_cases h3 : nI k < nI hi
      · rw [if_pos h3]
        by_cases h4 : nI lo < nI k
        · rw [if_pos h4]
        · rw [if_neg h4]
          exact Int32.le_antisymm h1 (Int32.not_lt.mp h4)
      · rw [if_neg h3]
        have e : nI k = nI hi := Int32.le_antisymm h2 (Int32.not_lt.mp h3)
        by_cases h4 : nI lo < nI hi
        · rw [if_pos h4, e]
        · rw [if_neg h4, e]
          exact Int32.le_antisymm (nI_le h hh) (Int32.not_lt.mp h4)
    · rw [if_neg h2]
      refine ⟨hi, h, Nat.le_refl _, ?_, rfl⟩
      rw [if_neg (fun q => h2 (Int32.le_of_lt q))]
      by_cases h4 : nI lo < nI hi
      · rw [if_pos h4]
      · rw [if_neg h4]
        exact Int32.le_antisymm (nI_le h hh) (Int32.not_lt.mp h4)
  · rw [if_neg h1]
    have h1' := Int32.not_le.mp h1
    refine ⟨lo, Nat.le_refl _, h, ?_, rfl⟩
    rw [if_pos (Int32.lt_of_lt_of_le h1' (nI_le h hh)), if_neg (fun q => Int32.lt_irrefl (Int32.lt_trans q h1'))]
theorem TV.cnt3 {X : qX} {v : Nat} {I : qI} {t : Nat → Int32} (h : TV X v I t) (K : Nat) (hK : K < 7) : cnt t (nI K) = -1 ∨ ∃ i, i < cn t 4 ∧ cnt t (nI K) = nI i ∧ cn t (850 + 200 * i) = K := by
  rcases (h.counting (a := v + 36) rfl (nI K)).2 with e | ⟨i, a, b, c⟩
  · exact Or.inl e
  · refine Or.inr ⟨i, a, b, ?_⟩
    unfold cn
    rw [c]
    exact nI_clamp (by omega)

theorem held_0 (x : Int32) : f_X7_held (nI 0) x = some (q_max (nI 0) (q_min (nI 9999) x)) := by
  unfold f_X7_held
  rw [if_pos rfl]
theorem held_1 (x : Int32) : f_X7_held (nI 1) x = some (q_max (nI 0) (q_min (nI 9999) x)) := by
  unfold f_X7_held
  rw [if_neg (show ¬ nI 1 = nI 0 by decide +kernel)]; rw [if_pos rfl]
theorem held_2 (x : Int32) : f_X7_held (nI 2) x = some (q_max (nI 1) (q_min (nI 99) x)) := by
  unfold f_X7_held
  rw [if_neg (show ¬ nI 2 = nI 0 by decide +kernel)]; rw [if_neg (show ¬ nI 2 = nI 1 by decide +kernel)]; rw [if_pos rfl]
theorem held_3 (x : Int32) : f_X7_held (nI 3) x = some (q_max (nI 0) (q_min (nI 100) x)) := by
  unfold f_X7_held
  rw [if_neg (show ¬ nI 3 = nI 0 by decide +kernel)]; rw [if_neg (show ¬ nI 3 = nI 1 by decide +kernel)]; rw [if_neg (show ¬ nI 3 = nI 2 by decide +kernel)]; rw [if_pos rfl]
theorem held_4 (x : Int32) : f_X7_held (nI 4) x = some x := by
  unfold f_X7_held
  rw [if_neg (show ¬ nI 4 = nI 0 by decide +kernel)]; rw [if_neg (show ¬ nI 4 = nI 1 by decide +kernel)]; rw [if_neg (show ¬ nI 4 = nI 2 by decide +kernel)]; rw [if_neg (show ¬ nI 4 = nI 3 by decide +kernel)]
theorem held_5 (x : Int32) : f_X7_held (nI 5) x = some x := by
  unfold f_X7_held
  rw [if_neg (show ¬ nI 5 = nI 0 by decide +kernel)]; rw [if_neg (show ¬ nI 5 = nI 1 by decide +kernel)]; rw [if_neg (show ¬ nI 5 = nI 2 by decide +kernel)]; rw [if_neg (show ¬ nI 5 = nI 3 by decide +kernel)]
theorem held_6 (x : Int32) : f_X7_held (nI 6) x = some x := by
  unfold f_X7_held
  rw [if_neg (show ¬ nI 6 = nI 0 by decide +kernel)]; rw [if_neg (show ¬ nI 6 = nI 1 by decide +kernel)]; rw [if_neg (show ¬ nI 6 = nI 2 by decide +kernel)]; rw [if_neg (show ¬ nI 6 = nI 3 by decide +kernel)]
theorem TV.giv0 {X : qX} {v : Nat} {I J : qI} (h : TV X v I (J 270)) (hv : v ≤ 195) {a : Nat} (ha : a = v + 36) (A B C : Int32) : ∃ (r : Nat) (I' J' : qI), f_X7_given a (nI 0) (J 270 0) A B C X I = some (nI r, I') ∧ f_X12_wageOf 269 A B J = some (nI r, J') ∧ 0 ≤ r ∧ r ≤ 9999 ∧ SC v I I' ∧ SJ J J' := by
  subst ha
  have hS : SJ J (q_up (q_up J (269 + 8) 116 A) (269 + 8) 115 B) := ((SJ.rf).up (Or.inl rfl)).up (Or.inl rfl)
  have hJ : (q_up (q_up J (269 + 8) 116 A) (269 + 8) 115 B) 270 = J 270 := hS 270 (by decide) (by decide)
  have hN : ∀ q, q < nmN 0 → (q_up (q_up J (269 + 8) 116 A) (269 + 8) 115 B) 277 (nmL 0 q) = arg3 A B C q := by
    intro q hq
    rcases (show q = 0 ∨ q = 1 by have : nmN 0 = 2 := rfl; omega) with rfl | rfl
    · rw [show (277 : Nat) = 269 + 8 from rfl, u_up_j (show nmL 0 0 ≠ 115 by decide)]; exact u_up_same
    · rw [show (277 : Nat) = 269 + 8 from rfl]; exact u_up_same
  unfold f_X7_given f_X12_wageOf b_X7_given_33 b_X12_wageOf_35
  rw [(h.counting rfl (nI 0)).1, u_s1, h.counts (nI 0), u_s1, u_wr (show 116 < 128 by decide) (by decide), u_s1, u_wr (show 115 < 128 by decide) (by decide), u_s1]
  rcases h.cnt3 0 (by decide) with e | ⟨i, hi, e, hk⟩
  · rw [e, if_neg neg1, if_neg neg1, show f_X7_unwritten (nI 0) A = some A by rfl, u_s1]
    obtain ⟨r, r1, r2, r3, r4⟩ := held_ev (lo := 0) (hi := 9999) (by decide) (by decide) A
    rw [held_0, u_s1, r4, u_s1, r3]
    exact ⟨r, _, _, rfl, rfl, r1, r2, SC.rf, hS⟩
  · have c4 := h.k4
    rw [e, if_pos (nI_pos' (by omega)), if_pos (nI_pos' (by omega))]
    obtain ⟨x, I', J', g1, g2, g3, g4⟩ := h.val hv hi hk (by decide) hJ hN
    rw [g1, u_s2, g2, u_s2]
    obtain ⟨r, r1, r2, r3, r4⟩ := held_ev (lo := 0) (hi := 9999) (by decide) (by decide) x
    rw [held_0, u_s1, r4, u_s1, r3]
    exact ⟨r, _, _, rfl, rfl, r1, r2, g3, hS.tr g4⟩
theorem TV.giv1 {X : qX} {v : Nat} {I J : qI} (h : TV X v I (J 270)) (hv : v ≤ 195) {a : Nat} (ha : a = v + 36) (A B C : Int32) : ∃ (r : Nat) (I' J' : qI), f_X7_given a (nI 1) (J 270 0) A B C X I = some (nI r, I') ∧ f_X12_stopOf 269 A J = some (nI r, J') ∧ 0 ≤ r ∧ r ≤ 9999 ∧ SC v I I' ∧ SJ J J' := by
  subst ha
  have hS : SJ J (q_up J (269 + 8) 101 A) := (SJ.rf).up (Or.inl rfl)
  have hJ : (q_up J (269 + 8) 101 A) 270 = J 270 := hS 270 (by decide) (by decide)
  have hN : ∀ q, q < nmN 1 → (q_up J (269 + 8) 101 A) 277 (nmL 1 q) = arg3 A B C q := by
    intro q hq
    rcases (show q = 0 by have : nmN 1 = 1 := rfl; omega) with rfl
    · rw [show (277 : Nat) = 269 + 8 from rfl]; exact u_up_same
  unfold f_X7_given f_X12_stopOf b_X7_given_33 b_X12_stopOf_29
  rw [(h.counting rfl (nI 1)).1, u_s1, h.counts (nI 1), u_s1, u_wr (show 101 < 128 by decide) (by decide), u_s1]
  rcases h.cnt3 1 (by decide) with e | ⟨i, hi, e, hk⟩
  · rw [e, if_neg neg1, if_neg neg1, show f_X7_unwritten (nI 1) A = some (nI 9999) by unfold f_X7_unwritten; simp only [nI_eq (show 1 < 2 ^ 31 by decide) (show 0 < 2 ^ 31 by decide), nI_eq (show 1 < 2 ^ 31 by decide) (show 1 < 2 ^ 31 by decide), nI_eq (show 1 < 2 ^ 31 by decide) (show 3 < 2 ^ 31 by decide), nI_eq (show 1 < 2 ^ 31 by decide) (show 6 < 2 ^ 31 by decide)]; rfl, u_s1]
    obtain ⟨r, r1, r2, r3, r4⟩ := held_ev (lo := 0) (hi := 9999) (by decide) (by decide) (nI 9999)
    rw [held_1, u_s1, r4, u_s1, r3]
    exact ⟨r, _, _, rfl, rfl, r1, r2, SC.rf, hS⟩
  · have c4 := h.k4
    rw [e, if_pos (nI_pos' (by omega)), if_pos (nI_pos' (by omega))]
    obtain ⟨x, I', J', g1, g2, g3, g4⟩ := h.val hv hi hk (by decide) hJ hN
    rw [g1, u_s2, g2, u_s2]
    obtain ⟨r, r1, r2, r3, r4⟩ := held_ev (lo := 0) (hi := 9999) (by decide) (by decide) x
    rw [held_1, u_s1, r4, u_s1, r3]
    exact ⟨r, _, _, rfl, rfl, r1, r2, g3, hS.tr g4⟩
theorem TV.giv2 {X : qX} {v : Nat} {I J : qI} (h : TV X v I (J 270)) (hv : v ≤ 195) {a : Nat} (ha : a = v + 36) (A B C : Int32) : ∃ (r : Nat) (I' J' : qI), f_X7_given a (nI 2) (J 270 0) A B C X I = some (nI r, I') ∧ f_X12_dueFor 269 A J = some (nI r, J') ∧ 1 ≤ r ∧ r ≤ 99 ∧ SC v I I' ∧ SJ J J' := by
  subst ha
  have hS : SJ J (q_up J (269 + 8) 119 A) := (SJ.rf).up (Or.inl rfl)
  have hJ : (q_up J (269 + 8) 119 A) 270 = J 270 := hS 270 (by decide) (by decide)
  have hN : ∀ q, q < nmN 2 → (q_up J (269 + 8) 119 A) 277 (nmL 2 q) = arg3 A B C q := by
    intro q hq
    rcases (show q = 0 by have : nmN 2 = 1 := rfl; omega) with rfl
    · rw [show (277 : Nat) = 269 + 8 from rfl]; exact u_up_same
  unfold f_X7_given f_X12_dueFor b_X7_given_33 b_X12_dueFor_27
  rw [(h.counting rfl (nI 2)).1, u_s1, h.counts (nI 2), u_s1, u_wr (show 119 < 128 by decide) (by decide), u_s1]
  rcases h.cnt3 2 (by decide) with e | ⟨i, hi, e, hk⟩
  · rw [e, if_neg neg1, if_neg neg1, show f_X7_unwritten (nI 2) A = some (nI 1) by unfold f_X7_unwritten; simp only [nI_eq (show 2 < 2 ^ 31 by decide) (show 0 < 2 ^ 31 by decide), nI_eq (show 2 < 2 ^ 31 by decide) (show 1 < 2 ^ 31 by decide), nI_eq (show 2 < 2 ^ 31 by decide) (show 3 < 2 ^ 31 by decide), nI_eq (show 2 < 2 ^ 31 by decide) (show 6 < 2 ^ 31 by decide)]; rfl, u_s1]
    obtain ⟨r, r1, r2, r3, r4⟩ := held_ev (lo := 1) (hi := 99) (by decide) (by decide) (nI 1)
    rw [held_2, u_s1, r4, u_s1, r3]
    exact ⟨r, _, _, rfl, rfl, r1, r2, SC.rf, hS⟩
  · have c4 := h.k4
    rw [e, if_pos (nI_pos' (by omega)), if_pos (nI_pos' (by omega))]
    obtain ⟨x, I', J', g1, g2, g3, g4⟩ := h.val hv hi hk (by decide) hJ hN
    rw [g1, u_s2, g2, u_s2]
    obtain ⟨r, r1, r2, r3, r4⟩ := held_ev (lo := 1) (hi := 99) (by decide) (by decide) x
    rw [held_2, u_s1, r4, u_s1, r3]
    exact ⟨r, _, _, rfl, rfl, r1, r2, g3, hS.tr g4⟩
theorem TV.giv3 {X : qX} {v : Nat} {I J : qI} (h : TV X v I (J 270)) (hv : v ≤ 195) {a : Nat} (ha : a = v + 36) (A B C : Int32) : ∃ (r : Nat) (I' J' : qI), f_X7_given a (nI 3) (J 270 0) A B C X I = some (nI r, I') ∧ f_X12_coinFor 269 A B J = some (nI r, J') ∧ 0 ≤ r ∧ r ≤ 100 ∧ SC v I I' ∧ SJ J J' := by
  subst ha
  have hS : SJ J (q_up (q_up J (269 + 8) 108 A) (269 + 8) 119 B) := ((SJ.rf).up (Or.inl rfl)).up (Or.inl rfl)
  have hJ : (q_up (q_up J (269 + 8) 108 A) (269 + 8) 119 B) 270 = J 270 := hS 270 (by decide) (by decide)
  have hN : ∀ q, q < nmN 3 → (q_up (q_up J (269 + 8) 108 A) (269 + 8) 119 B) 277 (nmL 3 q) = arg3 A B C q := by
    intro q hq
    rcases (show q = 0 ∨ q = 1 by have : nmN 3 = 2 := rfl; omega) with rfl | rfl
    · rw [show (277 : Nat) = 269 + 8 from rfl, u_up_j (show nmL 3 0 ≠ 119 by decide)]; exact u_up_same
    · rw [show (277 : Nat) = 269 + 8 from rfl]; exact u_up_same
  unfold f_X7_given f_X12_coinFor b_X7_given_33 b_X12_coinFor_36
  rw [(h.counting rfl (nI 3)).1, u_s1, h.counts (nI 3), u_s1, u_wr (show 108 < 128 by decide) (by decide), u_s1, u_wr (show 119 < 128 by decide) (by decide), u_s1]
  rcases h.cnt3 3 (by decide) with e | ⟨i, hi, e, hk⟩
  · rw [e, if_neg neg1, if_neg neg1, show f_X7_unwritten (nI 3) A = some (nI 100) by unfold f_X7_unwritten; simp only [nI_eq (show 3 < 2 ^ 31 by decide) (show 0 < 2 ^ 31 by decide), nI_eq (show 3 < 2 ^ 31 by decide) (show 1 < 2 ^ 31 by decide), nI_eq (show 3 < 2 ^ 31 by decide) (show 3 < 2 ^ 31 by decide), nI_eq (show 3 < 2 ^ 31 by decide) (show 6 < 2 ^ 31 by decide)]; rfl, u_s1]
    obtain ⟨r, r1, r2, r3, r4⟩ := held_ev (lo := 0) (hi := 100) (by decide) (by decide) (nI 100)
    rw [held_3, u_s1, r4, u_s1, r3]
    exact ⟨r, _, _, rfl, rfl, r1, r2, SC.rf, hS⟩
  · have c4 := h.k4
    rw [e, if_pos (nI_pos' (by omega)), if_pos (nI_pos' (by omega))]
    obtain ⟨x, I', J', g1, g2, g3, g4⟩ := h.val hv hi hk (by decide) hJ hN
    rw [g1, u_s2, g2, u_s2]
    obtain ⟨r, r1, r2, r3, r4⟩ := held_ev (lo := 0) (hi := 100) (by decide) (by decide) x
    rw [held_3, u_s1, r4, u_s1, r3]
    exact ⟨r, _, _, rfl, rfl, r1, r2, g3, hS.tr g4⟩
theorem TV.giv4 {X : qX} {v : Nat} {I J : qI} (h : TV X v I (J 270)) (hv : v ≤ 195) {a : Nat} (ha : a = v + 36) (A B C : Int32) : ∃ (r : Int32) (I' J' : qI), f_X7_given a (nI 4) (J 270 0) A B C X I = some (r, I') ∧ f_X12_fineOf 269 A B J = some (r, J') ∧ SC v I I' ∧ SJ J J' := by
  subst ha
  have hS : SJ J (q_up (q_up J (269 + 8) 97 A) (269 + 8) 98 B) := ((SJ.rf).up (Or.inl rfl)).up (Or.inl rfl)
  have hJ : (q_up (q_up J (269 + 8) 97 A) (269 + 8) 98 B) 270 = J 270 := hS 270 (by decide) (by decide)
  have hN : ∀ q, q < nmN 4 → (q_up (q_up J (269 + 8) 97 A) (269 + 8) 98 B) 277 (nmL 4 q) = arg3 A B C q := by
    intro q hq
    rcases (show q = 0 ∨ q = 1 by have : nmN 4 = 2 := rfl; omega) with rfl | rfl
    · rw [show (277 : Nat) = 269 + 8 from rfl, u_up_j (show nmL 4 0 ≠ 98 by decide)]; exact u_up_same
    · rw [show (277 : Nat) = 269 + 8 from rfl]; exact u_up_same
  unfold f_X7_given f_X12_fineOf b_X7_given_33
  rw [(h.counting rfl (nI 4)).1, u_s1, h.counts (nI 4), u_s1, u_wr (show 97 < 128 by decide) (by decide), u_s1, u_wr (show 98 < 128 by decide) (by decide), u_s1]
  rcases h.cnt3 4 (by decide) with e | ⟨i, hi, e, hk⟩
  · rw [e, if_neg neg1, if_neg neg1, show f_X7_unwritten (nI 4) A = some (nI 1) by unfold f_X7_unwritten; simp only [nI_eq (show 4 < 2 ^ 31 by decide) (show 0 < 2 ^ 31 by decide), nI_eq (show 4 < 2 ^ 31 by decide) (show 1 < 2 ^ 31 by decide), nI_eq (show 4 < 2 ^ 31 by decide) (show 3 < 2 ^ 31 by decide), nI_eq (show 4 < 2 ^ 31 by decide) (show 6 < 2 ^ 31 by decide)]; rfl, u_s1]
    rw [held_4, u_s1]
    exact ⟨_, _, _, rfl, rfl, SC.rf, hS⟩
  · have c4 := h.k4
    rw [e, if_pos (nI_pos' (by omega)), if_pos (nI_pos' (by omega))]
    obtain ⟨x, I', J', g1, g2, g3, g4⟩ := h.val hv hi hk (by decide) hJ hN
    rw [g1, u_s2, g2, u_s2]
    rw [held_4, u_s1]
    exact ⟨_, _, _, rfl, rfl, g3, hS.tr g4⟩
theorem TV.giv5 {X : qX} {v : Nat} {I J : qI} (h : TV X v I (J 270)) (hv : v ≤ 195) {a : Nat} (ha : a = v + 36) (A B C : Int32) : ∃ (r : Int32) (I' J' : qI), f_X7_given a (nI 5) (J 270 0) A B C X I = some (r, I') ∧ f_X12_keepOf 269 A B J = some (r, J') ∧ SC v I I' ∧ SJ J J' := by
  subst ha
  have hS : SJ J (q_up (q_up J (269 + 8) 98 A) (269 + 8) 100 B) := ((SJ.rf).up (Or.inl rfl)).up (Or.inl rfl)
  have hJ : (q_up (q_up J (269 + 8) 98 A) (269 + 8) 100 B) 270 = J 270 := hS 270 (by decide) (by decide)
  have hN : ∀ q, q < nmN 5 → (q_up (q_up J (269 + 8) 98 A) (269 + 8) 100 B) 277 (nmL 5 q) = arg3 A B C q := by
    intro q hq
    rcases (show q = 0 ∨ q = 1 by have : nmN 5 = 2 := rfl; omega) with rfl | rfl
    · rw [show (277 : Nat) = 269 + 8 from rfl, u_up_j (show nmL 5 0 ≠ 100 by decide)]; exact u_up_same
    · rw [show (277 : Nat) = 269 + 8 from rfl]; exact u_up_same
  unfold f_X7_given f_X12_keepOf b_X7_given_33
  rw [(h.counting rfl (nI 5)).1, u_s1, h.counts (nI 5), u_s1, u_wr (show 98 < 128 by decide) (by decide), u_s1, u_wr (show 100 < 128 by decide) (by decide), u_s1]
  rcases h.cnt3 5 (by decide) with e | ⟨i, hi, e, hk⟩
  · rw [e, if_neg neg1, if_neg neg1, show f_X7_unwritten (nI 5) A = some (nI 1) by unfold f_X7_unwritten; simp only [nI_eq (show 5 < 2 ^ 31 by decide) (show 0 < 2 ^ 31 by decide), nI_eq (show 5 < 2 ^ 31 by decide) (show 1 < 2 ^ 31 by decide), nI_eq (show 5 < 2 ^ 31 by decide) (show 3 < 2 ^ 31 by decide), nI_eq (show 5 < 2 ^ 31 by decide) (show 6 < 2 ^ 31 by decide)]; rfl, u_s1]
    rw [held_5, u_s1]
    exact ⟨_, _, _, rfl, rfl, SC.rf, hS⟩
  · have c4 := h.k4
    rw [e, if_pos (nI_pos' (by omega)), if_pos (nI_pos' (by omega))]
    obtain ⟨x, I', J', g1, g2, g3, g4⟩ := h.val hv hi hk (by decide) hJ hN
    rw [g1, u_s2, g2, u_s2]
    rw [held_5, u_s1]
    exact ⟨_, _, _, rfl, rfl, g3, hS.tr g4⟩
theorem TV.giv6 {X : qX} {v : Nat} {I J : qI} (h : TV X v I (J 270)) (hv : v ≤ 195) {a : Nat} (ha : a = v + 36) (A B C : Int32) : ∃ (r : Int32) (I' J' : qI), f_X7_given a (nI 6) (J 270 0) A B C X I = some (r, I') ∧ f_X12_actBy 269 (cnt (J 270) (nI 6)) A B C J = some (r, J') ∧ SC v I I' ∧ SJ J J' := by
  subst ha
  have hS : SJ J (q_up (q_up (q_up J (269 + 8) 109 A) (269 + 8) 112 B) (269 + 8) 116 C) := (((SJ.rf).up (Or.inl rfl)).up (Or.inl rfl)).up (Or.inl rfl)
  have hJ : (q_up (q_up (q_up J (269 + 8) 109 A) (269 + 8) 112 B) (269 + 8) 116 C) 270 = J 270 := hS 270 (by decide) (by decide)
  have hN : ∀ q, q < nmN 6 → (q_up (q_up (q_up J (269 + 8) 109 A) (269 + 8) 112 B) (269 + 8) 116 C) 277 (nmL 6 q) = arg3 A B C q := by
    intro q hq
    rcases (show q = 0 ∨ q = 1 ∨ q = 2 by have : nmN 6 = 3 := rfl; omega) with rfl | rfl | rfl
    · rw [show (277 : Nat) = 269 + 8 from rfl, u_up_j (show nmL 6 0 ≠ 116 by decide), u_up_j (show nmL 6 0 ≠ 112 by decide)]; exact u_up_same
    · rw [show (277 : Nat) = 269 + 8 from rfl, u_up_j (show nmL 6 1 ≠ 116 by decide)]; exact u_up_same
    · rw [show (277 : Nat) = 269 + 8 from rfl]; exact u_up_same
  unfold f_X7_given f_X12_actBy b_X7_given_33
  rw [(h.counting rfl (nI 6)).1, u_s1, u_wr (show 109 < 128 by decide) (by decide), u_s1, u_wr (show 112 < 128 by decide) (by decide), u_s1, u_wr (show 116 < 128 by decide) (by decide), u_s1]
  rcases h.cnt3 6 (by decide) with e | ⟨i, hi, e, hk⟩
  · rw [e, if_neg neg1, if_neg neg1, show f_X7_unwritten (nI 6) A = some (nI 0) by unfold f_X7_unwritten; simp only [nI_eq (show 6 < 2 ^ 31 by decide) (show 0 < 2 ^ 31 by decide), nI_eq (show 6 < 2 ^ 31 by decide) (show 1 < 2 ^ 31 by decide), nI_eq (show 6 < 2 ^ 31 by decide) (show 3 < 2 ^ 31 by decide), nI_eq (show 6 < 2 ^ 31 by decide) (show 6 < 2 ^ 31 by decide)]; rfl, u_s1]
    rw [held_6, u_s1]
    exact ⟨_, _, _, rfl, rfl, SC.rf, hS⟩
  · have c4 := h.k4
    rw [e, if_pos (nI_pos' (by omega)), if_pos (nI_pos' (by omega))]
    obtain ⟨x, I', J', g1, g2, g3, g4⟩ := h.val hv hi hk (by decide) hJ hN
    rw [g1, u_s2, g2, u_s2]
    rw [held_6, u_s1]
    exact ⟨_, _, _, rfl, rfl, g3, hS.tr g4⟩
