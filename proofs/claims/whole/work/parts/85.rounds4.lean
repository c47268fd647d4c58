/-! LEVEL B: rounds: the model's table -/
def mkM (t : Nat → Int32) (idx : Nat) : Nat → Nat
  | 0 => 0
  | b + 1 => mkM t idx b ||| (if cn t (3300 + 3 * b) = idx % 4 ∧ cn t (3300 + 3 * b + 1) ≤ idx / 4 ∧ idx / 4 ≤ cn t (3300 + 3 * b + 2) then 2 ^ b else 0)
theorem mkM_lt (t : Nat → Int32) (idx : Nat) : ∀ b, b ≤ 16 → mkM t idx b < 2 ^ 16 := by
  intro b
  induction b with
  | zero => intro _; exact (by decide : 0 < 2 ^ 16)
  | succ b ih =>
    intro hb
    show mkM t idx b ||| (if _ then 2 ^ b else 0) < 2 ^ 16
    refine Nat.or_lt_two_pow (ih (by omega)) ?_
    split
    · exact Nat.pow_lt_pow_right (by decide) (by omega)
    · decide
theorem shl_ev : ∀ b, b < 16 → nI 1 <<< (nI b &&& 31) = nI (2 ^ b) := by decide +kernel
theorem tab_in {X : qX} {v j n idx : Nat} {I J0 : qI} (h : RV X v I (J0 270) j) (hx : idx < 28) (K : Int32 → qI → Option (Int32 × qI)) : ∀ r f b J, b + r = cn (J0 270) 5 → r < f → J 280 idx = nI (mkM (J0 270) idx b) → SM J0 J → ∃ J', q_fix (fun _ _ _ => none) (b_X12_findRound_17 269 (nI n) K) f (nI idx) (nI b) J = K (nI (idx + 1)) J' ∧ SM J0 J' ∧ J' 280 idx = nI (mkM (J0 270) idx (cn (J0 270) 5)) ∧ ∀ i, i ≠ idx → J' 280 i = J 280 i := by
  obtain ⟨k5, c16⟩ := h.k5
  intro r
  induction r with
  | zero =>
    intro f b J h1 h2 h3 hs
    obtain ⟨f, rfl⟩ : ∃ z, f = z + 1 := ⟨f - 1, by omega⟩
    have e : b = cn (J0 270) 5 := by omega
    subst e
    refine ⟨J, ?_, hs, h3, fun _ _ => rfl⟩
    show b_X12_findRound_17 269 (nI n) K _ _ _ J = _
    unfold b_X12_findRound_17
    rw [u_rd (show 5 < 3580 by decide) (by decide), u_s1, show J (269 + 1) = J0 270 from hs.1 270 (by decide) (by decide), k5, if_pos (Int32.le_refl _), nI_add]
  | succ r ih =>
    intro f b J h1 h2 h3 hs
    obtain ⟨f, rfl⟩ : ∃ z, f = z + 1 := ⟨f - 1, by omega⟩
    have hb : b < 16 := by omega
    obtain ⟨a1, -, a2⟩ := h.r_b0 (b := b) hb
    obtain ⟨b1, -, b2⟩ := h.r_b1 (b := b) hb
    obtain ⟨c1, -, c2⟩ := h.r_b2 (b := b) hb
    obtain ⟨J', k1, k2, k3, k4⟩ := ih f (b + 1) (q_up J 280 idx (nI (mkM (J0 270) idx (b + 1)))) (by omega) (by omega) u_up_same (hs.up (by decide))
    refine ⟨J', ?_, k2, k3, fun i hi => by rw [k4 i hi, u_up_j hi]⟩
    rw [← k1]
    show b_X12_findRound_17 269 (nI n) K (q_fix (fun _ _ _ => none) (b_X12_findRound_17 269 (nI n) K) f) _ _ J = _
    generalize q_fix (fun _ _ _ => none) (b_X12_findRound_17 269 (nI n) K) f = KM
    show _ = KM _ _ (q_up J 280 idx (nI (mkM (J0 270) idx b ||| (if cn (J0 270) (3300 + 3 * b) = idx % 4 ∧ cn (J0 270) (3300 + 3 * b + 1) ≤ idx / 4 ∧ idx / 4 ≤ cn (J0 270) (3300 + 3 * b + 2) then 2 ^ b else 0))))
    unfold b_X12_findRound_17 b_X12_findRound_92 b_X12_findRound_93
    have hJ : J (269 + 1) = J0 270 := hs.1 270 (by decide) (by decide)
    rw [u_rd (show 5 < 3580 by decide) (by decide), u_s1, hJ, k5, if_neg (nI_ge (by omega) (by omega)), u_rd hx (by decide), u_s1, show J (269 + 11) idx = _ from h3]
    simp only [u_mul, nI_add]
    rw [u_rd (show 3300 + 3 * b < 3580 by omega) (by decide), u_s1, u_rd (show 3300 + 3 * b + 1 < 3580 by omega) (by decide), u_s1, u_rd (show 3300 + 3 * b + 2 < 3580 by omega) (by decide), u_s1, hJ, a1, b1, c1, u_rem (by omega) (by decide) (by decide), u_div (by omega) (by decide), u_isIn32, u_s1, n_or, shl_ev b hb, n_or, u_wr hx (by decide), u_s1, u_wr hx (by decide), u_s1]
    by_cases q1 : cn (J0 270) (3300 + 3 * b) = idx % 4
    rotate_left
    · rw [if_neg (nE (by omega) (by omega) q1), if_neg (fun q => q1 q.1)]
    rw [if_pos (by rw [q1])]
    by_cases q2 : cn (J0 270) (3300 + 3 * b + 1) ≤ idx / 4 ∧ idx / 4 ≤ cn (J0 270) (3300 + 3 * b + 2)
    · rw [if_pos (show nI (cn (J0 270) (3300 + 3 * b + 1)) ≤ nI (idx / 4) ∧ nI (idx / 4) ≤ nI (cn (J0 270) (3300 + 3 * b + 2)) from ⟨nI_le q2.1 (by omega), nI_le q2.2 (by omega)⟩), if_neg u_one, if_pos ⟨q1, q2⟩]
    · rw [if_neg (show ¬ (nI (cn (J0 270) (3300 + 3 * b + 1)) ≤ nI (idx / 4) ∧ nI (idx / 4) ≤ nI (cn (J0 270) (3300 + 3 * b + 2))) from fun z => q2 ⟨(nI_leI (by omega) (by omega)).mp z.1, (nI_leI (by omega) (by omega)).mp z.2⟩), if_pos rfl, if_neg (fun q => q2 q.2)]
theorem tab_out {X : qX} {v j n : Nat} {I J0 : qI} (h : RV X v I (J0 270) j) : ∀ r f i J, i + r = 28 → r < f → SM J0 J → (∀ k, k < i → J 280 k = nI (mkM (J0 270) k (cn (J0 270) 5))) → ∃ J', q_fix (fun _ _ => none) (b_X12_findRound_2 269 (nI n)) f (nI i) J = q_fix (fun _ _ _ => none) (b_X12_findRound_111 269 (nI n)) q_fu (-1) (nI 0) J' ∧ SM J0 J' ∧ ∀ k, k < 28 → J' 280 k = nI (mkM (J0 270) k (cn (J0 270) 5)) := by
  intro r
  induction r with
  | zero =>
    intro f i J h1 h2 hs h3
    obtain ⟨f, rfl⟩ : ∃ z, f = z + 1 := ⟨f - 1, by omega⟩
    have e : i = 28 := by omega
    subst e
    refine ⟨J, ?_, hs, h3⟩
    show b_X12_findRound_2 269 (nI n) _ _ J = _
    unfold b_X12_findRound_2
    rw [if_pos (Int32.le_refl _)]
  | succ r ih =>
    intro f i J h1 h2 hs h3
    obtain ⟨f, rfl⟩ : ∃ z, f = z + 1 := ⟨f - 1, by omega⟩
    show ∃ J', b_X12_findRound_2 269 (nI n) (q_fix (fun _ _ => none) (b_X12_findRound_2 269 (nI n)) f) (nI i) J = _ ∧ _
    have c16 := h.k5.2
    obtain ⟨J1, k1, k2, k3, k4⟩ := tab_in (n := n) h (show i < 28 by omega) (q_fix (fun _ _ => none) (b_X12_findRound_2 269 (nI n)) f) (cn (J0 270) 5) q_fu 0 (q_up J 280 i (nI 0)) (Nat.zero_add _) (by have := q_fu1; omega) u_up_same (hs.up (by decide))
    obtain ⟨J', z1, z2, z3⟩ := ih f (i + 1) J1 (by omega) (by omega) k2 (fun k hk => by
      by_cases e : k = i
      · rw [e]; exact k3
      · rw [k4 k e, u_up_j e]; exact h3 k (by omega))
    refine ⟨J', ?_, z2, z3⟩
    rw [← z1, ← k1]
    unfold b_X12_findRound_2
    rw [if_neg (nI_ge (by omega) (by decide)), u_wr (show i < 28 by omega) (by decide), u_s1]
/-- the model's answer: the first best order -/
theorem fr_M {X : qX} {v j n : Nat} {I J : qI} (h : RV X v I (J 270) j) (hn : n ≤ 7) : ∃ J', f_X12_findRound 269 (nI n) J = some (eb (fdl (fun i => mkM (J 270) i (cn (J 270) 5)) n (4 ^ n) 0 (0, 0)).1, J') ∧ SM J J' ∧ ((fdl (fun i => mkM (J 270) i (cn (J 270) 5)) n (4 ^ n) 0 (0, 0)).1 ≠ 0 → J' 269 30 = nI (fdl (fun i => mkM (J 270) i (cn (J 270) 5)) n (4 ^ n) 0 (0, 0)).2) := by
  have c16 := h.k5.2
  have p7 : 4 ^ n ≤ 16384 := by
    have : (4 : Nat) ^ n ≤ 4 ^ 7 := Nat.pow_le_pow_right (by decide) hn
    omega
  have fu : 20000 < q_fu := by decide
  obtain ⟨J1, k1, k2, k3⟩ := tab_out (n := n) h 28 q_fu 0 J rfl (by omega) SM.rf (fun k hk => absurd hk (Nat.not_lt_zero _))
  obtain ⟨J2, z1, z2, z3⟩ := en_out (M := fun i => mkM (J 270) i (cn (J 270) 5)) (J0 := J) hn (fun i _ => mkM_lt _ _ _ c16) (4 ^ n) q_fu 0 (0, 0) J1 (Nat.zero_add _) (by omega) (by decide) k2 k3 (fun q => absurd rfl q)
  refine ⟨J2, ?_, z2, z3⟩
  unfold f_X12_findRound
  rw [k1]
  exact z1
