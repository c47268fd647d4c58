/-! LEVEL B: rounds: the model's search -/
def eb (b : Nat) : Int32 := if b = 0 then -1 else nI (b - 1)
theorem eb_le {p b : Nat} (hp : p ≤ 16) (hb : b ≤ 17) : (nI p ≤ eb b) ↔ ¬ b ≤ p := by
  unfold eb
  by_cases z : b = 0
  · rw [if_pos z]
    refine ⟨fun q => ?_, fun q => by omega⟩
    have h1 : (-1 : Int32) < 0 := by decide
    exact absurd (Int32.lt_of_le_of_lt q h1) (nI_pos (by omega))
  · rw [if_neg z, nI_leI (by omega) (by omega)]
    omega
theorem dg_ev {n k a : Nat} (hk : k < n) (hn : n ≤ 7) (ha : a < 2 ^ 31) : nI 4 * nI k + ((nI a >>> ((nI 2 * ((nI n - nI 1) - nI k)) &&& 31)) &&& nI 3) = nI (4 * k + a / 4 ^ (n - 1 - k) % 4) := by
  rw [u_sub (by omega), u_sub (by omega), u_mul, u_mul, n_sar ha (by omega), n_and, nI_add, show (3 : Nat) = 2 ^ 2 - 1 from rfl, Nat.and_two_pow_sub_one_eq_mod, Nat.shiftRight_eq_div_pow, Nat.pow_mul]
theorem pm_lt {M : Nat → Nat} (hM : ∀ i, i < 28 → M i < 2 ^ 16) : ∀ k c, k ≤ 7 → pm M k c < 2 ^ 16 := by
  intro k
  induction k with
  | zero => intro c _; exact (by decide : 0 < 2 ^ 16)
  | succ k ih =>
    intro c hk
    show pm M k (c / 4) ||| M (4 * k + c % 4) < 2 ^ 16
    exact Nat.or_lt_two_pow (ih _ (by omega)) (hM _ (by omega))
theorem lim_ev : ∀ n, n < 8 → nI 1 <<< ((nI 2 * nI n) &&& 31) = nI (4 ^ n) := by decide +kernel
theorem en_in {M : Nat → Nat} {J : qI} {n a : Nat} (hn : n ≤ 7) (ha : a < 2 ^ 31) (hM : ∀ i, i < 28 → M i < 2 ^ 16) (hJ : ∀ i, i < 28 → J 280 i = nI (M i)) (x2 : Int32) (K : Int32 → Int32 → qI → Option (Int32 × qI)) : ∀ r f k, k + r = n → r < f → q_fix (fun _ _ _ _ _ => none) (b_X12_findRound_126 269 (nI n) K) f x2 (nI a) (nI (pm M k (a / 4 ^ (n - k)))) (nI k) J = if nI (pcn 16 (pm M n a)) ≤ x2 then K x2 (nI (a + 1)) J else K (nI (pcn 16 (pm M n a))) (nI (a + 1)) (q_up J 269 30 (nI a)) := by
  intro r
  induction r with
  | zero =>
    intro f k h1 h2
    obtain ⟨f, rfl⟩ : ∃ z, f = z + 1 := ⟨f - 1, by omega⟩
    have e : k = n := by omega
    subst e
    show b_X12_findRound_126 269 (nI k) K _ _ _ _ _ J = _
    unfold b_X12_findRound_126 b_X12_findRound_185
    rw [if_pos (Int32.le_refl _), Nat.sub_self, Nat.pow_zero, Nat.div_one, ones_ev (by have := pm_lt hM k a hn; omega), u_s1, u_s1, u_s1, nI_add]
  | succ r ih =>
    intro f k h1 h2
    obtain ⟨f, rfl⟩ : ∃ z, f = z + 1 := ⟨f - 1, by omega⟩
    rw [← ih f (k + 1) (by omega) (by omega)]
    show b_X12_findRound_126 269 (nI n) K (q_fix (fun _ _ _ _ _ => none) (b_X12_findRound_126 269 (nI n) K) f) _ _ _ _ J = _
    unfold b_X12_findRound_126
    rw [if_neg (nI_ge (by omega) (by omega)), dg_ev (by omega) hn ha, u_rd (show 4 * k + a / 4 ^ (n - 1 - k) % 4 < 28 by omega) (by decide), u_s1, show J (269 + 11) = J 280 from rfl, hJ _ (by omega), n_or, nI_add, ← pm_pre M (by omega), show n - 1 - k = n - (k + 1) by omega]
theorem lf_le {m code : Nat} {s : Nat × Nat} (h : s.1 ≤ 17) : (lf m code s).1 ≤ 17 := by
  unfold lf
  by_cases q : s.1 ≤ pcn 16 m
  · rw [if_pos q]; have := pcn_le 16 m; show pcn 16 m + 1 ≤ 17; omega
  · rw [if_neg q]; exact h
theorem en_out {M : Nat → Nat} {J0 : qI} {n : Nat} (hn : n ≤ 7) (hM : ∀ i, i < 28 → M i < 2 ^ 16) : ∀ j f a (s : Nat × Nat) J, a + j = 4 ^ n → j < f → s.1 ≤ 17 → SM J0 J → (∀ i, i < 28 → J 280 i = nI (M i)) → (s.1 ≠ 0 → J 269 30 = nI s.2) → ∃ J', q_fix (fun _ _ _ => none) (b_X12_findRound_111 269 (nI n)) f (eb s.1) (nI a) J = some (eb (fdl M n j a s).1, J') ∧ SM J0 J' ∧ ((fdl M n j a s).1 ≠ 0 → J' 269 30 = nI (fdl M n j a s).2) := by
  have p7 : 4 ^ n ≤ 16384 := by
    have : (4 : Nat) ^ n ≤ 4 ^ 7 := Nat.pow_le_pow_right (by decide) hn
    omega
  intro j
  induction j with
  | zero =>
    intro f a s J h1 h2 hs h h3 h4
    obtain ⟨f, rfl⟩ : ∃ z, f = z + 1 := ⟨f - 1, by omega⟩
    refine ⟨J, ?_, h, h4⟩
    show b_X12_findRound_111 269 (nI n) _ _ _ J = _
    unfold b_X12_findRound_111
    rw [lim_ev n (by omega), if_pos (nI_le (by omega) (by omega))]
    rfl
  | succ j ih =>
    intro f a s J h1 h2 hs h h3 h4
    obtain ⟨f, rfl⟩ : ∃ z, f = z + 1 := ⟨f - 1, by omega⟩
    have p16 := pcn_le 16 (pm M n a)
    show ∃ J', b_X12_findRound_111 269 (nI n) (q_fix (fun _ _ _ => none) (b_X12_findRound_111 269 (nI n)) f) (eb s.1) (nI a) J = some (eb (fdl M n j (a + 1) (lf (pm M n a) a s)).1, J') ∧ SM J0 J' ∧ ((fdl M n j (a + 1) (lf (pm M n a) a s)).1 ≠ 0 → J' 269 30 = nI (fdl M n j (a + 1) (lf (pm M n a) a s)).2)
    have st : b_X12_findRound_111 269 (nI n) (q_fix (fun _ _ _ => none) (b_X12_findRound_111 269 (nI n)) f) (eb s.1) (nI a) J = if nI (pcn 16 (pm M n a)) ≤ eb s.1 then q_fix (fun _ _ _ => none) (b_X12_findRound_111 269 (nI n)) f (eb s.1) (nI (a + 1)) J else q_fix (fun _ _ _ => none) (b_X12_findRound_111 269 (nI n)) f (nI (pcn 16 (pm M n a))) (nI (a + 1)) (q_up J 269 30 (nI a)) := by
      generalize q_fix (fun _ _ _ => none) (b_X12_findRound_111 269 (nI n)) f = K
      unfold b_X12_findRound_111
      rw [lim_ev n (by omega), if_neg (nI_ge (by omega) (by omega))]
      have := en_in (J := J) hn (show a < 2 ^ 31 by omega) hM h3 (eb s.1) K n q_fu 0 (Nat.zero_add _) (by have := q_fu1; omega)
      exact this
    rw [st]
    by_cases q : s.1 ≤ pcn 16 (pm M n a)
    · rw [if_neg (fun z => (eb_le p16 hs).mp z q)]
      have el : lf (pm M n a) a s = (pcn 16 (pm M n a) + 1, a) := by unfold lf; rw [if_pos q]
      rw [el]
      have := ih f (a + 1) (pcn 16 (pm M n a) + 1, a) (q_up J 269 30 (nI a)) (by omega) (by omega) (by show pcn 16 (pm M n a) + 1 ≤ 17; omega) (h.fl (by decide)) (fun i hi => by rw [u_up_a (by decide)]; exact h3 i hi) (fun _ => u_up_same)
      exact this
    · rw [if_pos ((eb_le p16 hs).mpr q)]
      have el : lf (pm M n a) a s = s := by unfold lf; rw [if_neg q]
      rw [el]
      exact ih f (a + 1) s J (by omega) (by omega) hs h h3 h4
