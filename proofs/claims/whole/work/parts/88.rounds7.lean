/-! LEVEL B: seen, at -/
theorem zC {I0 : qI} {n : Nat} : ∀ r f i I, i + r = 28 → r < f → SX 65 I0 I → (∀ k, k < i → I 113 k = nI 0) → ∃ I', q_fix (fun _ _ => none) (b_X6_bestOf_2 109 (nI n)) f (nI i) I = q_fix (fun _ _ => none) (b_X6_bestOf_26 109 (nI n)) q_fu (nI 0) I' ∧ SX 65 I0 I' ∧ ∀ k, k < 28 → I' 113 k = nI 0 := by
  intro r
  induction r with
  | zero =>
    intro f i I h1 h2 hx ht
    obtain ⟨f, rfl⟩ : ∃ z, f = z + 1 := ⟨f - 1, by omega⟩
    have e : i = 28 := by omega
    subst e
    refine ⟨I, ?_, hx, ht⟩
    show b_X6_bestOf_2 109 (nI n) _ _ I = _
    unfold b_X6_bestOf_2
    rw [if_pos (Int32.le_refl _)]
  | succ r ih =>
    intro f i I h1 h2 hx ht
    obtain ⟨f, rfl⟩ : ∃ z, f = z + 1 := ⟨f - 1, by omega⟩
    obtain ⟨I', k1, k2, k3⟩ := ih f (i + 1) (q_up I 113 i (nI 0)) (by omega) (by omega) (hx.up (o := 48) rfl (by decide) (by unfold scO; omega)) (fun k hk => by
      by_cases e : k = i
      · rw [e, u_up_same]
      · rw [u_up_j e]; exact ht k (by omega))
    refine ⟨I', ?_, k2, k3⟩
    rw [← k1]
    show b_X6_bestOf_2 109 (nI n) (q_fix (fun _ _ => none) (b_X6_bestOf_2 109 (nI n)) f) _ I = _
    unfold b_X6_bestOf_2
    rw [if_neg (nI_ge (by omega) (by decide)), u_wr (show i < 28 by omega) (by decide), u_s1, nI_add]
theorem rsC {M : Nat → Nat} {I0 : qI} {n : Nat} (hn : n ≤ 7) : ∀ k f I, k ≤ n → k < f → SX 65 I0 I → (∀ i, i < 28 → I 113 i = nI (M i)) → (∀ m, k ≤ m → m ≤ n → I 114 m = nI (rs M (n - m) m)) → ∃ I', q_fix (fun _ _ => none) (b_X6_bestOf_95 109 (nI n)) f (nI k - nI 1) I = (q_b1 (some (q_up I' 109 7 (-1))) fun I2 => q_b1 (f_X6_goRound q_rd0 109 (nI 0) (nI n) (nI 0) I2) fun I4 => some ((I4 109 7), I4)) ∧ SX 65 I0 I' ∧ TB M n I' := by
  intro k
  induction k with
  | zero =>
    intro f I h1 h2 hx ht hr
    obtain ⟨f, rfl⟩ : ∃ z, f = z + 1 := ⟨f - 1, by omega⟩
    refine ⟨I, ?_, hx, ht, fun m hm => hr m (Nat.zero_le _) hm⟩
    show b_X6_bestOf_95 109 (nI n) _ (nI 0 - nI 1) I = _
    unfold b_X6_bestOf_95
    rw [if_pos (by decide +kernel)]
  | succ k ih =>
    intro f I h1 h2 hx ht hr
    obtain ⟨f, rfl⟩ : ∃ z, f = z + 1 := ⟨f - 1, by omega⟩
    have k8 : k < 8 := by omega
    have st : ∀ (K95 : Int32 → qI → Option (Int32 × qI)) (K : Int32 → Int32 → qI → Option (Int32 × qI)) c A (I : qI), c < 4 → (∀ i, i < 28 → I 113 i = nI (M i)) → I 114 k = nI A → b_X6_bestOf_115 109 (nI n) K95 K (nI k) (nI c) I = K (nI k) (nI (c + 1)) (q_up I 114 k (nI (A ||| M (4 * k + c)))) := by
      intro K95 K c A I hc ht hA
      unfold b_X6_bestOf_115
      rw [if_neg (nI_ge hc (by decide)), u_rd k8 (by decide), u_s1, show I (109 + 5) k = nI A from hA, u_mul, nI_add, u_rd (show k * 4 + c < 28 by omega) (by decide), u_s1, show I (109 + 4) (k * 4 + c) = nI (M (4 * k + c)) by rw [Nat.mul_comm]; exact ht _ (by omega), n_or, u_wr k8 (by decide), u_s1, nI_add]
    have tu : ∀ (I : qI) x, (∀ i, i < 28 → I 113 i = nI (M i)) → ∀ i, i < 28 → q_up I 114 k x 113 i = nI (M i) := fun I x h i hi => by rw [u_up_a (by decide)]; exact h i hi
    have A0 := hr (k + 1) (Nat.le_refl _) h1
    generalize hI1 : q_up I 114 k (nI (rs M (n - (k + 1)) (k + 1))) = I1
    have t1 : ∀ i, i < 28 → I1 113 i = nI (M i) := by subst hI1; exact tu I _ ht
    generalize hI2 : q_up I1 114 k (nI (rs M (n - (k + 1)) (k + 1) ||| M (4 * k + 0))) = I2
    have t2 : ∀ i, i < 28 → I2 113 i = nI (M i) := by subst hI2; exact tu I1 _ t1
    generalize hI3 : q_up I2 114 k (nI (rs M (n - (k + 1)) (k + 1) ||| M (4 * k + 0) ||| M (4 * k + 1))) = I3
    have t3 : ∀ i, i < 28 → I3 113 i = nI (M i) := by subst hI3; exact tu I2 _ t2
    generalize hI4 : q_up I3 114 k (nI (rs M (n - (k + 1)) (k + 1) ||| M (4 * k + 0) ||| M (4 * k + 1) ||| M (4 * k + 2))) = I4
    have t4 : ∀ i, i < 28 → I4 113 i = nI (M i) := by subst hI4; exact tu I3 _ t3
    generalize hI5 : q_up I4 114 k (nI (rs M (n - (k + 1)) (k + 1) ||| M (4 * k + 0) ||| M (4 * k + 1) ||| M (4 * k + 2) ||| M (4 * k + 3))) = I5
    have t5 : ∀ i, i < 28 → I5 113 i = nI (M i) := by subst hI5; exact tu I4 _ t4
    have x5 : SX 65 I0 I5 := by
      subst hI5 hI4 hI3 hI2 hI1
      exact ((((hx.up (o := 49) rfl (by decide) (by unfold scO; omega)).up (o := 49) rfl (by decide) (by unfold scO; omega)).up (o := 49) rfl (by decide) (by unfold scO; omega)).up (o := 49) rfl (by decide) (by unfold scO; omega)).up (o := 49) rfl (by decide) (by unfold scO; omega)
    have e5 : I5 114 k = nI (rs M (n - k) k) := by
      subst hI5
      rw [u_up_same, show n - k = (n - (k + 1)) + 1 by omega]
      rfl
    have o5 : ∀ m, m ≠ k → I5 114 m = I 114 m := fun m hm => by
      subst hI5 hI4 hI3 hI2 hI1
      rw [u_up_j hm, u_up_j hm, u_up_j hm, u_up_j hm, u_up_j hm]
    obtain ⟨I', z1, z2, z3⟩ := ih f I5 (by omega) (by omega) x5 t5 (fun m m1 m2 => by
      by_cases e : m = k
      · rw [e]; exact e5
      · rw [o5 m e]; exact hr m (by omega) m2)
    refine ⟨I', ?_, z2, z3⟩
    rw [← z1]
    show b_X6_bestOf_95 109 (nI n) (q_fix (fun _ _ => none) (b_X6_bestOf_95 109 (nI n)) f) (nI (k + 1) - nI 1) I = _
    generalize q_fix (fun _ _ => none) (b_X6_bestOf_95 109 (nI n)) f = K95
    unfold b_X6_bestOf_95
    obtain ⟨g, hg⟩ : ∃ f, q_fu = f + 1 + 1 + 1 + 1 + 1 := ⟨q_fu - 5, by have := q_fu1; omega⟩
    rw [u_sub (by omega), Nat.add_sub_cancel, if_neg (nI_pos (by omega)), nI_add, u_rd (show k + 1 < 8 by omega) (by decide), u_s1, show I (109 + 5) (k + 1) = _ from A0, u_wr k8 (by decide), u_s1, show q_up I (109 + 5) k (nI (rs M (n - (k + 1)) (k + 1))) = I1 from hI1, hg]
    show b_X6_bestOf_115 109 (nI n) K95 (q_fix (fun _ _ _ => none) (b_X6_bestOf_115 109 (nI n) K95) (g + 1 + 1 + 1 + 1)) (nI k) (nI 0) I1 = _
    rw [st K95 _ 0 _ I1 (by decide) t1 (by subst hI1; exact u_up_same), hI2]
    show b_X6_bestOf_115 109 (nI n) K95 (q_fix (fun _ _ _ => none) (b_X6_bestOf_115 109 (nI n) K95) (g + 1 + 1 + 1)) (nI k) (nI 1) I2 = _
    rw [st K95 _ 1 _ I2 (by decide) t2 (by subst hI2; exact u_up_same), hI3]
    show b_X6_bestOf_115 109 (nI n) K95 (q_fix (fun _ _ _ => none) (b_X6_bestOf_115 109 (nI n) K95) (g + 1 + 1)) (nI k) (nI 2) I3 = _
    rw [st K95 _ 2 _ I3 (by decide) t3 (by subst hI3; exact u_up_same), hI4]
    show b_X6_bestOf_115 109 (nI n) K95 (q_fix (fun _ _ _ => none) (b_X6_bestOf_115 109 (nI n) K95) (g + 1)) (nI k) (nI 3) I4 = _
    rw [st K95 _ 3 _ I4 (by decide) t4 (by subst hI4; exact u_up_same), hI5]
    show b_X6_bestOf_115 109 (nI n) K95 _ (nI k) (nI 4) I5 = _
    unfold b_X6_bestOf_115
    rw [if_pos (Int32.le_refl _), Int32.sub_eq_add_neg, show -nI 1 = (-1 : Int32) by decide +kernel]
