/-! LEVEL B: rounds: the class's table -/
theorem dayC {X : qX} {j b n : Nat} {I0 : qI} {t : Nat → Int32} (h0 : RV X 65 I0 t j) (hb : b < 16) (K : Int32 → qI → Option (Int32 × qI)) : ∀ r f d I, cn t (3300 + 3 * b + 2) + 1 - d = r → r < f → d ≤ 7 → cn t (3300 + 3 * b + 1) ≤ d → SX 65 I0 I → (∀ idx, idx < 28 → I 113 idx = nI (mkM t idx b ||| (if cn t (3300 + 3 * b) = idx % 4 ∧ cn t (3300 + 3 * b + 1) ≤ idx / 4 ∧ idx / 4 < d ∧ idx / 4 ≤ cn t (3300 + 3 * b + 2) then 2 ^ b else 0))) → ∃ I', q_fix (fun _ _ _ => none) (b_X6_bestOf_41 109 (nI n) K) f (nI b) (nI d) I = K (nI (b + 1)) I' ∧ SX 65 I0 I' ∧ ∀ idx, idx < 28 → I' 113 idx = nI (mkM t idx (b + 1)) := by
  obtain ⟨a1, -, a2⟩ := h0.r_b0 (b := b) hb
  obtain ⟨b1, -, b2⟩ := h0.r_b1 (b := b) hb
  obtain ⟨c1, -, c2⟩ := h0.r_b2 (b := b) hb
  intro r
  induction r with
  | zero =>
    intro f d I h1 h2 h7 hd hx ht
    obtain ⟨f, rfl⟩ : ∃ z, f = z + 1 := ⟨f - 1, by omega⟩
    have hR := h0.sx (by decide) hx
    refine ⟨I, ?_, hx, fun idx hi => ?_⟩
    · show b_X6_bestOf_41 109 (nI n) K _ _ _ I = _
      unfold b_X6_bestOf_41
      rw [u_rd hb (by decide), u_s1, hR.b2 (a := 109 + 3) rfl hb, c1, if_pos (nI_lt (by omega) (by omega)), nI_add]
    · rw [ht idx hi]
      show _ = nI (mkM t idx b ||| (if cn t (3300 + 3 * b) = idx % 4 ∧ cn t (3300 + 3 * b + 1) ≤ idx / 4 ∧ idx / 4 ≤ cn t (3300 + 3 * b + 2) then 2 ^ b else 0))
      by_cases q : cn t (3300 + 3 * b) = idx % 4 ∧ cn t (3300 + 3 * b + 1) ≤ idx / 4 ∧ idx / 4 ≤ cn t (3300 + 3 * b + 2)
      · rw [if_pos q, if_pos ⟨q.1, q.2.1, by omega, q.2.2⟩]
      · rw [if_neg q, if_neg (fun z => q ⟨z.1, z.2.1, z.2.2.2⟩)]
  | succ r ih =>
    intro f d I h1 h2 h7 hd hx ht
    obtain ⟨f, rfl⟩ : ∃ z, f = z + 1 := ⟨f - 1, by omega⟩
    have hR := h0.sx (by decide) hx
    have hi28 : d * 4 + cn t (3300 + 3 * b) < 28 := by omega
    obtain ⟨I', k1, k2, k3⟩ := ih f (d + 1) (q_up I 113 (d * 4 + cn t (3300 + 3 * b)) (nI (mkM t (d * 4 + cn t (3300 + 3 * b)) b ||| 2 ^ b))) (by omega) (by omega) (by omega) (by omega) (hx.up (o := 48) rfl (by decide) (by unfold scO; omega)) (fun idx hi => by
      by_cases e : idx = d * 4 + cn t (3300 + 3 * b)
      · rw [e, u_up_same, if_pos (by omega)]
      · rw [u_up_j e, ht idx hi]
        by_cases q : cn t (3300 + 3 * b) = idx % 4 ∧ cn t (3300 + 3 * b + 1) ≤ idx / 4 ∧ idx / 4 < d ∧ idx / 4 ≤ cn t (3300 + 3 * b + 2)
        · rw [if_pos q, if_pos (by omega)]
        · rw [if_neg q, if_neg (by omega)])
    refine ⟨I', ?_, k2, k3⟩
    rw [← k1]
    show b_X6_bestOf_41 109 (nI n) K (q_fix (fun _ _ _ => none) (b_X6_bestOf_41 109 (nI n) K) f) _ _ I = _
    unfold b_X6_bestOf_41
    rw [u_rd hb (by decide), u_s1, hR.b2 (a := 109 + 3) rfl hb, c1, if_neg (nI_nlt (by omega) (by omega)), u_rd hb (by decide), u_s1, hR.b0 (a := 109 + 1) rfl hb, a1, u_mul, nI_add, u_rd hi28 (by decide), u_s1, show I (109 + 4) (d * 4 + cn t (3300 + 3 * b)) = _ from ht _ hi28, shl_ev b hb, n_or, u_wr hi28 (by decide), u_s1, nI_add, if_neg (by omega), Nat.or_zero]
theorem brC {X : qX} {j n : Nat} {I0 : qI} {t : Nat → Int32} (h0 : RV X 65 I0 t j) : ∀ r f b I, b + r = cn t 5 → r < f → SX 65 I0 I → (∀ idx, idx < 28 → I 113 idx = nI (mkM t idx b)) → ∃ I', q_fix (fun _ _ => none) (b_X6_bestOf_26 109 (nI n)) f (nI b) I = (q_b1 (q_wr I' (109 + 5) 8 (nI n) (nI 0)) fun I3 => q_fix (fun _ _ => none) (b_X6_bestOf_95 109 (nI n)) q_fu ((nI n) - (nI 1)) I3) ∧ SX 65 I0 I' ∧ ∀ idx, idx < 28 → I' 113 idx = nI (mkM t idx (cn t 5)) := by
  obtain ⟨k5, c16⟩ := h0.k5
  intro r
  induction r with
  | zero =>
    intro f b I h1 h2 hx ht
    obtain ⟨f, rfl⟩ : ∃ z, f = z + 1 := ⟨f - 1, by omega⟩
    have e : b = cn t 5 := by omega
    subst e
    have hR := h0.sx (by decide) hx
    refine ⟨I, ?_, hx, ht⟩
    show b_X6_bestOf_26 109 (nI n) _ _ I = _
    unfold b_X6_bestOf_26
    rw [hR.sc5 (a := 109) rfl, k5, if_pos (Int32.le_refl _)]
  | succ r ih =>
    intro f b I h1 h2 hx ht
    obtain ⟨f, rfl⟩ : ∃ z, f = z + 1 := ⟨f - 1, by omega⟩
    have hb : b < 16 := by omega
    have hR := h0.sx (by decide) hx
    obtain ⟨b1, -, b2⟩ := h0.r_b1 (b := b) hb
    obtain ⟨c1, -, c2⟩ := h0.r_b2 (b := b) hb
    obtain ⟨I1, k1, k2, k3⟩ := dayC (n := n) h0 hb (q_fix (fun _ _ => none) (b_X6_bestOf_26 109 (nI n)) f) (cn t (3300 + 3 * b + 2) + 1 - cn t (3300 + 3 * b + 1)) q_fu (cn t (3300 + 3 * b + 1)) I rfl (by have := q_fu1; omega) (by omega) (Nat.le_refl _) hx (fun idx hi => by rw [if_neg (by omega), Nat.or_zero]; exact ht idx hi)
    obtain ⟨I2, z1, z2, z3⟩ := ih f (b + 1) I1 (by omega) (by omega) k2 k3
    refine ⟨I2, ?_, z2, z3⟩
    rw [← z1, ← k1]
    show b_X6_bestOf_26 109 (nI n) (q_fix (fun _ _ => none) (b_X6_bestOf_26 109 (nI n)) f) _ I = _
    unfold b_X6_bestOf_26
    rw [hR.sc5 (a := 109) rfl, k5, if_neg (nI_ge (by omega) (by omega)), u_rd hb (by decide), u_s1, hR.b1 (a := 109 + 2) rfl hb, b1]
