/-! LEVEL B: what a text gives -/
def foldF (g : Nat → Int32 → Int32) : Nat → Nat → Int32 → Int32
  | _, 0, x => x
  | i, r + 1, x => foldF g (i + 1) r (g i x)
theorem u_fold {b : (Int32 → Int32 → Option Int32) → Int32 → Int32 → Option Int32} {g : Nat → Int32 → Int32} {P : Nat → Int32 → Prop} {n : Nat} (hb : ∀ k x i, i < n → P i x → b k x (nI i) = k (g i x) (nI (i + 1)) ∧ P (i + 1) (g i x)) (he : ∀ k x, b k x (nI n) = some x) : ∀ r fu i x, i + r = n → r < fu → P i x → q_fix (fun _ _ => none) b fu x (nI i) = some (foldF g i r x) ∧ P n (foldF g i r x) := by
  intro r
  induction r with
  | zero =>
    intro fu i x h1 h2 hP
    obtain ⟨fu, rfl⟩ : ∃ k, fu = k + 1 := ⟨fu - 1, by omega⟩
    have : i = n := by omega
    subst this
    exact ⟨he _ x, hP⟩
  | succ r ih =>
    intro fu i x h1 h2 hP
    obtain ⟨fu, rfl⟩ : ∃ k, fu = k + 1 := ⟨fu - 1, by omega⟩
    have hh := hb (q_fix (fun _ _ => none) b fu) x i (by omega) hP
    have hi := ih fu (i + 1) (g i x) (by omega) (by omega) hh.2
    refine ⟨?_, hi.2⟩
    show b (q_fix (fun _ _ => none) b fu) x (nI i) = _
    rw [hh.1]
    exact hi.1
def cnG (t : Nat → Int32) (key : Int32) (i : Nat) (x : Int32) : Int32 := if t (850 + 200 * i) = key ∧ ¬ t 0 < t (850 + 200 * i + 1) ∧ (x < 0 ∨ ¬ t (850 + 200 * i + 1) < t (850 + 200 * x.toNatClampNeg + 1)) then nI i else x
def cnP (t : Nat → Int32) (key : Int32) (i : Nat) (x : Int32) : Prop := x = -1 ∨ ∃ k, k < i ∧ x = nI k ∧ t (850 + 200 * k) = key
def cnt (t : Nat → Int32) (key : Int32) : Int32 := foldF (cnG t key) 0 (cn t 4) (-1)
theorem cnG_P {t : Nat → Int32} {key : Int32} {i : Nat} {x : Int32} (h : cnP t key i x) : cnP t key (i + 1) (cnG t key i x) := by
  unfold cnG
  split
  · rename_i q
    exact Or.inr ⟨i, by omega, rfl, q.1⟩
  · rcases h with h | ⟨k, a, b, c⟩
    · exact Or.inl h
    · exact Or.inr ⟨k, by omega, b, c⟩
/-- the texts alone -/
def TV (X : qX) (v : Nat) (I : qI) (t : Nat → Int32) : Prop := (t 4 = nI (cn t 4) ∧ cn t 4 ≤ 12) ∧ I (v + 36) 5 = t 4 ∧ (∀ i, i < 12 → I (v + 37) i = t (850 + 200 * i) ∧ I (v + 38) i = t (850 + 200 * i + 1)) ∧ TX X v I t
theorem RV.tv {X : qX} {v : Nat} {I : qI} {t : Nat → Int32} {j : Nat} (h : RV X v I t j) : TV X v I t := ⟨h.k4, h.sc4 rfl, fun i hi => ⟨h.t0 rfl hi, h.t1 rfl hi⟩, h.2.2.2.2.2⟩
theorem TV.k4 {X : qX} {v : Nat} {I : qI} {t : Nat → Int32} (h : TV X v I t) : t 4 = nI (cn t 4) ∧ cn t 4 ≤ 12 := h.1
theorem TV.sc4 {X : qX} {v : Nat} {I : qI} {t : Nat → Int32} (h : TV X v I t) {a : Nat} (ha : a = v + 36) : I a 5 = t 4 := by subst ha; exact h.2.1
theorem TV.t0 {X : qX} {v : Nat} {I : qI} {t : Nat → Int32} (h : TV X v I t) {a i : Nat} (ha : a = v + 37) (hi : i < 12) : I a i = t (850 + 200 * i) := by subst ha; exact (h.2.2.1 i hi).1
theorem TV.t1 {X : qX} {v : Nat} {I : qI} {t : Nat → Int32} (h : TV X v I t) {a i : Nat} (ha : a = v + 38) (hi : i < 12) : I a i = t (850 + 200 * i + 1) := by subst ha; exact (h.2.2.1 i hi).2
theorem TV.cg {X : qX} {v : Nat} {I : qI} {t t' : Nat → Int32} (h : TV X v I t) (ht : ∀ n, (n = 4 ∨ 850 ≤ n ∧ n < 3250) → t' n = t n) : TV X v I t' := by
  obtain ⟨h1, h2, h3, h4⟩ := h
  have e4 : cn t' 4 = cn t 4 := by unfold cn; rw [ht 4 (Or.inl rfl)]
  refine ⟨by rw [e4, ht 4 (Or.inl rfl)]; exact h1, by rw [ht 4 (Or.inl rfl)]; exact h2, fun i hi => by rw [ht _ (by omega), ht _ (by omega)]; exact h3 i hi, fun i hi => ?_⟩
  rw [e4] at hi
  obtain ⟨a, L, d, e1, e2, e3, e4', e5, e6, e7⟩ := h4 i hi
  refine ⟨a, L, d, e1, e2, e3, e4', by rw [ht _ (by omega)]; exact e5, e6, ?_⟩
  rw [show cn t' (850 + 200 * i) = cn t (850 + 200 * i) by unfold cn; rw [ht _ (by omega)]]
  refine ⟨e7.1, fun k hk => ?_⟩
  have := e7.2 k hk
  simp only at this ⊢
  rw [ht _ (by omega), ht _ (by omega)]
  exact this
theorem TV.cgI {X : qX} {v : Nat} {I I' : qI} {t : Nat → Int32} (h : TV X v I t) (hI : ∀ a, (a = v + 36 ∨ a = v + 37 ∨ a = v + 38 ∨ 287 ≤ a) → I' a = I a) : TV X v I' t := by
  obtain ⟨h1, h2, h3, h4⟩ := h
  refine ⟨h1, by rw [hI _ (by omega)]; exact h2, fun i hi => by rw [hI _ (by omega), hI _ (by omega)]; exact h3 i hi, fun i hi => ?_⟩
  obtain ⟨a, L, d, e1, e2, e⟩ := h4 i hi
  refine ⟨a, L, d, e1, e2, ?_⟩
  rw [hI a (by omega)]
  exact e
theorem TV.counting {X : qX} {v : Nat} {I : qI} {t : Nat → Int32} (h : TV X v I t) {a : Nat} (ha : a = v + 36) (key : Int32) : f_X7_counting a key (t 0) I = some (cnt t key) ∧ cnP t key (cn t 4) (cnt t key) := by
  subst ha
  have c4 := h.k4
  unfold f_X7_counting
  refine u_fold (P := cnP t key) (n := cn t 4) (fun k x i hi hP => ⟨?_, cnG_P hP⟩) (fun k x => ?_) (cn t 4) q_fu 0 (-1) (Nat.zero_add _) (by have := q_fu1; omega) (Or.inl rfl)
  · unfold b_X7_counting_5 b_X7_counting_59 b_X7_counting_62 cnG
    rw [h.sc4 rfl, c4.1, if_neg (nI_ge hi (by omega)), u_rd (show i < 12 by omega) (by decide), u_s1, h.t0 (by omega) (by omega), u_rd (show i < 12 by omega) (by decide), u_s1, u_s1, h.t1 (by omega) (by omega), nI_add]
    by_cases e1 : t (850 + 200 * i) = key
    · rw [if_pos e1]
      by_cases e2 : t 0 < t (850 + 200 * i + 1)
      · rw [if_neg (Int32.not_le.mpr e2), if_neg (fun q => q.2.1 e2)]
      · rw [if_pos (Int32.not_lt.mp e2)]
        rcases hP with e | ⟨k', q1, q2, q3⟩
        · rw [e, if_pos (by decide), if_pos ⟨e1, e2, Or.inl (by decide)⟩]
        · rw [q2, if_neg (nI_pos (by omega)), u_rd (show k' < 12 by omega) (by decide), u_s1, h.t1 (by omega) (by omega), nI_clamp (by omega)]
          by_cases e3 : t (850 + 200 * i + 1) < t (850 + 200 * k' + 1)
          · rw [if_pos e3, if_neg (fun q => q.2.2.elim (nI_pos (by omega)) (fun z => z e3))]
          · rw [if_neg e3, if_pos ⟨e1, e2, Or.inr e3⟩]
    · rw [if_neg e1, if_neg (fun q => e1 q.1)]
  · unfold b_X7_counting_5
    rw [h.sc4 rfl, c4.1, if_pos (Int32.le_refl _)]
theorem TV.counts {X : qX} {v : Nat} {I J : qI} (h : TV X v I (J 270)) (key : Int32) : f_X12_counts 269 key J = some (cnt (J 270) key) := by
  have c4 := h.k4
  unfold f_X12_counts
  refine (u_fold (P := cnP (J 270) key) (n := cn (J 270) 4) (fun k x i hi hP => ⟨?_, cnG_P hP⟩) (fun k x => ?_) (cn (J 270) 4) q_fu 0 (-1) (Nat.zero_add _) (by have := q_fu1; omega) (Or.inl rfl)).1
  · unfold b_X12_counts_4 b_X12_counts_55 b_X12_counts_56 b_X12_counts_98 b_X12_counts_94 b_X12_counts_99 f_X12_textAt cnG
    rw [u_rd (by decide) (by decide), u_s1, c4.1, if_neg (nI_ge hi (by omega)), u_s1, u_mul, nI_add, nI_add, u_rd (show 850 + 200 * i + 0 < 3580 by omega) (by decide), u_s1, u_s1, nI_add, u_rd (show 850 + 200 * i + 1 < 3580 by omega) (by decide), u_s1, u_rd (k := 0) (Nat.zero_lt_succ _) (by decide), u_s1, if_pos nI_0, if_neg (show ¬ nI 1 = 0 by decide +kernel), nI_add i 1, u_s1, nI_add (850 + 200 * i) 1, u_rd (show 850 + 200 * i + 1 < 3580 by omega) (by decide), u_s1, u_s1]
    rw [show 850 + 200 * i + 0 = 850 + 200 * i from rfl]
    by_cases e1 : J 270 (850 + 200 * i) = key
    · rw [if_pos e1]
      by_cases e2 : J 270 0 < J 270 (850 + 200 * i + 1)
      · rw [if_pos e2, if_neg (fun q => q.2.1 e2)]
      · rw [if_neg e2]
        rcases hP with e | ⟨k', q1, q2, q3⟩
        · rw [e, if_pos (by decide), if_pos ⟨e1, e2, Or.inl (by decide)⟩]
        · rw [q2, if_neg (nI_pos (by omega)), u_mul, nI_add, nI_add, u_rd (show 850 + 200 * k' + 1 < 3580 by omega) (by decide), u_s1, nI_clamp (by omega)]
          by_cases e3 : J 270 (850 + 200 * i + 1) < J 270 (850 + 200 * k' + 1)
          · rw [if_pos e3, if_neg (fun q => q.2.2.elim (nI_pos (by omega)) (fun z => z e3))]
          · rw [if_neg e3, if_pos ⟨e1, e2, Or.inr e3⟩]
    · rw [if_neg e1, if_neg (fun q => e1 q.1)]
  · unfold b_X12_counts_4
    rw [u_rd (by decide) (by decide), u_s1, c4.1, if_pos (Int32.le_refl _)]
theorem div_m1 (x : Int32) : x / -1 = -x := by
  apply Int32.toInt_inj.mp
  rw [Int32.toInt_div, show (-1 : Int32).toInt = -1 by decide, Int.tdiv_neg, Int.tdiv_one, Int32.toInt_neg]
theorem joined_eq {s : Nat} (hs : isOp s) (x y : Int32) : ∃ z, f_X7_joined (- - nI s) x y = some z ∧ f_X12_joined (nI s) x y = some z := by
  rw [Int32.neg_neg]
  have ne : ∀ a b : Nat, a < 200 → b < 200 → a ≠ b → ¬ nI a = nI b := fun a b ha hb h q => h ((nI_eq (by omega) (by omega)).mp q)
  unfold f_X7_joined f_X12_joined
  rcases hs with rfl | rfl | rfl | rfl | rfl | rfl | rfl | rfl | rfl
  · simp only [if_neg (ne 124 38 (by decide) (by decide) (by decide)), if_neg (ne 124 42 (by decide) (by decide) (by decide)), if_neg (ne 124 43 (by decide) (by decide) (by decide)), if_neg (ne 124 45 (by decide) (by decide) (by decide)), if_neg (ne 124 47 (by decide) (by decide) (by decide)), if_neg (ne 124 60 (by decide) (by decide) (by decide)), if_neg (ne 124 61 (by decide) (by decide) (by decide)), if_neg (ne 124 62 (by decide) (by decide) (by decide)), if_true]
    by_cases h1 : x = 0
    · by_cases h2 : y = 0
      · simp only [if_pos h1, if_pos h2]; exact ⟨_, rfl, rfl⟩
      · simp only [if_pos h1, if_neg h2]; exact ⟨_, rfl, rfl⟩
    · simp only [if_neg h1]; exact ⟨_, rfl, rfl⟩
  · simp only [if_true]
    by_cases h1 : x = 0
    · simp only [if_pos h1]; exact ⟨_, rfl, rfl⟩
    · by_cases h2 : y = 0
      · simp only [if_neg h1, if_pos h2]; exact ⟨_, rfl, rfl⟩
      · simp only [if_neg h1, if_neg h2]; exact ⟨_, rfl, rfl⟩
  · simp only [if_neg (ne 60 38 (by decide) (by decide) (by decide)), if_neg (ne 60 42 (by decide) (by decide) (by decide)), if_neg (ne 60 43 (by decide) (by decide) (by decide)), if_neg (ne 60 45 (by decide) (by decide) (by decide)), if_neg (ne 60 47 (by decide) (by decide) (by decide)), if_true]
    by_cases h1 : y ≤ x
    · simp only [if_pos h1]; exact ⟨_, rfl, rfl⟩
    · simp only [if_neg h1]; exact ⟨_, rfl, rfl⟩
  · simp only [if_neg (ne 61 38 (by decide) (by decide) (by decide)), if_neg (ne 61 42 (by decide) (by decide) (by decide)), if_neg (ne 61 43 (by decide) (by decide) (by decide)), if_neg (ne 61 45 (by decide) (by decide) (by decide)), if_neg (ne 61 47 (by decide) (by decide) (by decide)), if_neg (ne 61 60 (by decide) (by decide) (by decide)), if_true]
    by_cases h1 : x = y
    · simp only [if_pos h1]; exact ⟨_, rfl, rfl⟩
    · simp only [if_neg h1]; exact ⟨_, rfl, rfl⟩
  · simp only [if_neg (ne 62 38 (by decide) (by decide) (by decide)), if_neg (ne 62 42 (by decide) (by decide) (by decide)), if_neg (ne 62 43 (by decide) (by decide) (by decide)), if_neg (ne 62 45 (by decide) (by decide) (by decide)), if_neg (ne 62 47 (by decide) (by decide) (by decide)), if_neg (ne 62 60 (by decide) (by decide) (by decide)), if_neg (ne 62 61 (by decide) (by decide) (by decide)), if_true]
    by_cases h1 : x ≤ y
    · simp only [if_pos h1]; exact ⟨_, rfl, rfl⟩
    · simp only [if_neg h1]; exact ⟨_, rfl, rfl⟩
  · simp only [if_neg (ne 43 38 (by decide) (by decide) (by decide)), if_neg (ne 43 42 (by decide) (by decide) (by decide)), if_true]
    exact ⟨_, rfl, rfl⟩
  · simp only [if_neg (ne 45 38 (by decide) (by decide) (by decide)), if_neg (ne 45 42 (by decide) (by decide) (by decide)), if_neg (ne 45 43 (by decide) (by decide) (by decide)), if_true]
    exact ⟨_, rfl, rfl⟩
  · simp only [if_neg (ne 42 38 (by decide) (by decide) (by decide)), if_true]
    exact ⟨_, rfl, rfl⟩
  · simp only [if_neg (ne 47 38 (by decide) (by decide) (by decide)), if_neg (ne 47 42 (by decide) (by decide) (by decide)), if_neg (ne 47 43 (by decide) (by decide) (by decide)), if_neg (ne 47 45 (by decide) (by decide) (by decide)), if_neg (ne 47 60 (by decide) (by decide) (by decide)), if_neg (ne 47 61 (by decide) (by decide) (by decide)), if_neg (ne 47 62 (by decide) (by decide) (by decide)), if_neg (ne 47 124 (by decide) (by decide) (by decide)), if_true]
    by_cases h1 : y = 0
    · simp only [if_pos h1]; exact ⟨_, rfl, rfl⟩
    · by_cases h2 : y = -1
      · simp only [if_neg h1, if_pos h2]
        rw [h2, div_m1]; exact ⟨_, rfl, rfl⟩
      · simp only [if_neg h1, if_neg h2]; exact ⟨_, rfl, rfl⟩
