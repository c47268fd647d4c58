/-! LEVEL B: a day: eating -/
theorem RV.sort1 {X : qX} {v : Nat} {I : qI} {t : Nat → Int32} {j : Nat} (h : RV X v I t j) {k : Nat} (hk : k < 6) : (t (50 + 4 * k) = 0 ∧ ¬ t (50 + 4 * k) = nI 1) ∨ (¬ t (50 + 4 * k) = 0 ∧ t (50 + 4 * k) = nI 1) := by
  rcases h.is01 (rg_s0 k hk) with e | e
  · left; rw [e]; exact ⟨rfl, by decide +kernel⟩
  · right; rw [e]; exact ⟨by decide, by decide +kernel⟩
theorem ch_lp {X : qX} {v j : Nat} {I J : qI} (h : RV X v I (J 270) j) {m : Nat} (hm : m < cn (J 270) 2) : ∀ r fC fM i x y, i + r = cn (J 270) 1 → r < fC → r < fM → (x = -1 ∨ ∃ k, k < i ∧ x = nI k) → ∃ s, q_fix (fun _ _ _ => none) (b_X9_townKnownCheapest_8 v (nI m) (nI (lk (J 270) m)) I) fC x y (nI i) = some s ∧ q_fix (fun _ _ _ => none) (b_X12_cheapest_7 269 (nI m) J) fM x y (nI i) = some s ∧ (s = -1 ∨ ∃ k, k < cn (J 270) 1 ∧ s = nI k) := by
  have b := h.bd
  have hm12 : m < 12 := by omega
  intro r
  induction r with
  | zero =>
    intro fC fM i x y h1 h2 h3 hx
    obtain ⟨fC, rfl⟩ : ∃ z, fC = z + 1 := ⟨fC - 1, by omega⟩
    obtain ⟨fM, rfl⟩ : ∃ z, fM = z + 1 := ⟨fM - 1, by omega⟩
    have e : i = cn (J 270) 1 := by omega
    subst e
    refine ⟨x, ?_, ?_, hx⟩
    · show b_X9_townKnownCheapest_8 v (nI m) (nI (lk (J 270) m)) I (q_fix _ _ fC) x y (nI _) = _
      unfold b_X9_townKnownCheapest_8
      rw [h.sc1 rfl, h.k1.1, if_pos (Int32.le_refl _)]
    · show b_X12_cheapest_7 269 (nI m) J (q_fix _ _ fM) x y (nI _) = _
      unfold b_X12_cheapest_7
      rw [u_rd (by decide) (by decide), u_s1, h.k1.1, if_pos (Int32.le_refl _)]
  | succ r ih =>
    intro fC fM i x y h1 h2 h3 hx
    obtain ⟨fC, rfl⟩ : ∃ z, fC = z + 1 := ⟨fC - 1, by omega⟩
    obtain ⟨fM, rfl⟩ : ∃ z, fM = z + 1 := ⟨fM - 1, by omega⟩
    have hi : i < 6 := by omega
    have ih' := fun x y => ih fC fM (i + 1) x y (by omega) (by omega) (by omega)
    show ∃ s, b_X9_townKnownCheapest_8 v (nI m) (nI (lk (J 270) m)) I (q_fix (fun _ _ _ => none) (b_X9_townKnownCheapest_8 v (nI m) (nI (lk (J 270) m)) I) fC) x y (nI i) = some s ∧ b_X12_cheapest_7 269 (nI m) J (q_fix (fun _ _ _ => none) (b_X12_cheapest_7 269 (nI m) J) fM) x y (nI i) = some s ∧ _
    generalize q_fix (fun _ _ _ => none) (b_X9_townKnownCheapest_8 v (nI m) (nI (lk (J 270) m)) I) fC = KC at ih' ⊢
    generalize q_fix (fun _ _ _ => none) (b_X12_cheapest_7 269 (nI m) J) fM = KM at ih' ⊢
    have keep := ih' x y (hx.imp id fun ⟨k, a, b⟩ => ⟨k, by omega, b⟩)
    have take := fun y => ih' (nI i) y (Or.inr ⟨i, by omega, rfl⟩)
    unfold b_X9_townKnownCheapest_8 b_X9_townKnownCheapest_93 b_X9_townKnownCheapest_86 b_X9_townKnownCheapest_93 b_X12_cheapest_7 b_X12_cheapest_103 b_X12_cheapest_97 b_X12_cheapest_103 f_X2_knows f_X2_priceKnown f_X12_manAt f_X12_shopAt
    rw [h.sc1 rfl, h.k1.1, if_neg (nI_ge (by omega) (by omega)), u_rd hi (by decide), u_s1, h.s0 rfl hi, u_mul, nI_add, u_rd (show m * 6 + i < 72 by omega) (by decide), u_s1, h.hd (m := m) (k := i) rfl hm hi (by omega), u_rd (show m * 6 + i < 72 by omega) (by decide), u_s1, h.kn (m := m) (k := i) rfl hm12 hi (by omega), u_s1, u_rd hi (by decide), u_s1, h.s3 rfl hi, nI_add]
    rw [u_rd (by decide) (by decide), u_s1, h.k1.1, if_neg (nI_ge (by omega) (by omega)), h.townJ hi, u_s1, u_s1, u_mul, nI_add, nI_add, nI_add, u_rd (show 80 + 24 * m + 18 + i < 3580 by omega) (by decide), u_s1, u_s1, nI_add, nI_add, u_rd (show 80 + 24 * m + 12 + i < 3580 by omega) (by decide), u_s1, h.lackJ hm12, u_s1, u_s1, u_mul, nI_add, nI_add, u_rd (show 50 + 4 * i + 3 < 3580 by omega) (by decide), u_s1, show J (269 + 1) = J 270 from rfl]
    rcases h.sort1 hi with ⟨e1, e2⟩ | ⟨e1, e2⟩
    · rw [if_neg e2, if_pos e1, if_pos rfl]; exact keep
    · rw [if_pos e2, if_neg e1, if_neg u_one]
      rcases h.r_h (m := m) (k := i) hm12 hi with e | ⟨e3, -, e4⟩
      · rw [e, if_pos rfl, u_s1, if_pos nI_0, if_neg neg1]; exact keep
      · have n1 : ¬ nI (cn (J 270) (80 + 24 * m + 18 + i)) = -1 := fun q => by
          have := nI_pos (n := cn (J 270) (80 + 24 * m + 18 + i)) (by omega)
          rw [q] at this
          exact this (by decide)
        rw [e3, if_neg n1, u_s1, if_neg (show ¬ nI 1 = 0 by decide +kernel), if_pos (nI_pos' (by omega))]
        by_cases c1 : x < 0
        · rw [if_pos c1, if_pos c1]; exact take _
        · rw [if_neg c1, if_neg c1]
          by_cases c2 : y ≤ J 270 (80 + 24 * m + 12 + i) * nI (lk (J 270) m) + J 270 (50 + 4 * i + 3)
          · rw [if_pos c2, if_pos c2]; exact keep
          · rw [if_neg c2, if_neg c2]; exact take _
