/-! LEVEL B: bound -/
theorem lN_neg {a b : Nat} (h : a < b) (hb : b < 2 ^ 62) : lN a - lN b < 0 := by
  unfold lN
  rw [Int64.lt_iff_toInt_lt, Int64.toInt_sub, Int64.toInt_ofNat_of_lt (by omega), Int64.toInt_ofNat_of_lt (by omega), Int64.toInt_zero, Int.bmod_eq_of_le (by omega) (by omega)]
  omega
theorem cmp_sub {a b : Nat} (ha : a < 2 ^ 62) (hb : b < 2 ^ 62) : (0 ≤ lg_cmp (lN a - lN b) (0 : Int64)) ↔ b ≤ a := by
  unfold lg_cmp
  by_cases h : b ≤ a
  · rw [lN_sub h]
    refine ⟨fun _ => h, fun _ => ?_⟩
    by_cases e : (0 : Int64) < lN (a - b)
    · rw [if_pos e]; decide
    · rw [if_neg e]
      have : lN (a - b) = 0 := by
        have h1 : ¬ 0 < a - b := fun q => e ((pk_lLT (a := 0) (b := a - b) (by decide) (by omega)).mpr q)
        have h2 : a - b = 0 := by omega
        rw [h2]; rfl
      rw [if_pos this]; decide
  · have n := lN_neg (show a < b by omega) hb
    rw [if_neg (fun q => Int64.lt_irrefl (Int64.lt_trans q n)), if_neg (fun q => by rw [q] at n; exact Int64.lt_irrefl n)]
    exact ⟨fun q => absurd q (by decide), fun q => absurd q h⟩
theorem cmp_0 {a : Nat} (ha : a < 2 ^ 62) : (lg_cmp (lN a) (0 : Int64) = 0) ↔ a = 0 := by
  unfold lg_cmp
  by_cases e : a = 0
  · subst e
    exact ⟨fun _ => rfl, fun _ => by decide⟩
  · rw [if_pos (show (0 : Int64) < lN a from (pk_lLT (a := 0) (b := a) (by decide) (by omega)).mpr (by omega))]
    exact ⟨fun q => absurd q (by decide), fun q => absurd q e⟩
theorem bnd_lp {X : qX} {v j m s b d : Nat} {I J : qI} (h : RV X v I (J 270) j) (hm : m < 12) (hs : s < cn (J 270) 1) (hb : b ≤ 9999) (hd1 : 1 ≤ d) (hd : d ≤ 99) (a : Nat) {G : Nat} (hG : G = cn (J 270) (50 + 4 * s + 1) * cn (J 270) (80 + 24 * m + 2) * 7) (G9 : G ≤ 6237) : ∀ r f g o w, w + r = 1001 → r < f → r < g → o ≤ 841000000 + 6237 * w → G0 (q_fix (fun _ _ _ => none) (b_X9_weeksBound_57 a (nI m) (nI b) (nI d) I) f (nI G) (nI o) (nI w)) (q_fix (fun _ _ _ => none) (b_X12_bound_89 269 (nI m) (nI b) (nI d) J) g (nI s) (lN o) (nI w)) := by
  have bb := h.bd
  obtain ⟨p1, p2, p3⟩ := h.pr hs
  obtain ⟨q1, -, q2⟩ := h.r_m2 (m := m) hm
  intro r
  induction r with
  | zero =>
    intro f g o w h1 h2 h3 ho
    obtain ⟨f, rfl⟩ : ∃ z, f = z + 1 := ⟨f - 1, by omega⟩
    obtain ⟨g, rfl⟩ : ∃ z, g = z + 1 := ⟨g - 1, by omega⟩
    show G0 (b_X9_weeksBound_57 a (nI m) (nI b) (nI d) I (q_fix (fun _ _ _ => none) (b_X9_weeksBound_57 a (nI m) (nI b) (nI d) I) f) (nI G) (nI o) (nI w)) (b_X12_bound_89 269 (nI m) (nI b) (nI d) J (q_fix (fun _ _ _ => none) (b_X12_bound_89 269 (nI m) (nI b) (nI d) J) g) (nI s) (lN o) (nI w))
    unfold b_X9_weeksBound_57 b_X12_bound_89
    have e : w = 1001 := by omega
    subst e
    rw [if_pos (show nI 1000 < nI 1001 by decide +kernel), if_pos (show nI 1000 < nI 1001 by decide +kernel)]
    exact G0.rf _
  | succ r ih =>
    intro f g o w h1 h2 h3 ho
    obtain ⟨f, rfl⟩ : ∃ z, f = z + 1 := ⟨f - 1, by omega⟩
    obtain ⟨g, rfl⟩ : ∃ z, g = z + 1 := ⟨g - 1, by omega⟩
    have ih' := fun o' ho' => ih f g o' (w + 1) (by omega) (by omega) (by omega) ho'
    show G0 (b_X9_weeksBound_57 a (nI m) (nI b) (nI d) I (q_fix (fun _ _ _ => none) (b_X9_weeksBound_57 a (nI m) (nI b) (nI d) I) f) (nI G) (nI o) (nI w)) (b_X12_bound_89 269 (nI m) (nI b) (nI d) J (q_fix (fun _ _ _ => none) (b_X12_bound_89 269 (nI m) (nI b) (nI d) J) g) (nI s) (lN o) (nI w))
    generalize q_fix (fun _ _ _ => none) (b_X9_weeksBound_57 a (nI m) (nI b) (nI d) I) f = KC at *
    generalize q_fix (fun _ _ _ => none) (b_X12_bound_89 269 (nI m) (nI b) (nI d) J) g = KM at *
    unfold b_X9_weeksBound_57 b_X12_bound_89 f_X12_shopAt f_X12_manAt
    rw [if_neg (nI_nlt (by omega) (by omega)), if_neg (nI_nlt (by omega) (by omega)), if_neg (nI_ne0 (n := d) (by omega) (by omega))]
    simp only [u_s1, u_mul, nI_add]
    rw [u_rd (show 50 + 4 * s + 1 < 3580 by omega) (by decide), u_s1, u_rd (show 80 + 24 * m + 2 < 3580 by omega) (by decide), u_s1, show J (269 + 1) = J 270 from rfl, p1, q1, u_mul, u_mul, ← hG, nI_l (by omega), lN_add, if_neg (nI_ne0 (n := d) (by omega) (by omega))]
    have fin : ∀ z, z ≤ 841000000 + 6237 * (w + 1) → G0 (b_X9_weeksBound_89 a (nI m) (nI b) (nI d) I KC (nI G) (nI z) (nI w)) (b_X12_bound_163 269 (nI m) (nI b) (nI d) J KM (nI s) (nI w) (lN z)) := by
      intro z hz
      unfold b_X9_weeksBound_89 b_X12_bound_163
      by_cases e : z = 0
      · rw [if_pos (by rw [e, nI_0]), if_pos ((cmp_0 (by omega)).mpr e)]; exact G0.rf _
      · rw [if_neg (nI_ne0 (by omega) (by omega)), if_neg (fun q => e ((cmp_0 (by omega)).mp q)), nI_add]
        exact ih' z hz
    unfold b_X12_bound_147
    by_cases c : q_rem (nI w) (nI d) = 0
    · rw [if_pos c, if_pos c, nI_l (show b < 2 ^ 31 by omega)]
      by_cases e : b ≤ o + G
      · rw [if_pos ((cmp_sub (by omega) (by omega)).mpr e), lN_sub e, u_sub e, q_max_nI (by decide) (by omega), Nat.zero_max]
        exact fin _ (by omega)
      · rw [if_neg (fun q => e ((cmp_sub (by omega) (by omega)).mp q))]
        have : q_max (nI 0) (nI (o + G) - nI b) = nI 0 := by
          unfold q_max
          rw [if_neg]
          intro q
          have e1 : (nI (o + G) - nI b).toInt = ((o + G : Nat) : Int) - b := by
            rw [Int32.toInt_sub, nI_toInt (by omega), nI_toInt (by omega)]
            exact Int.bmod_eq_of_le (by omega) (by omega)
          rw [Int32.lt_iff_toInt_lt, e1, nI_toInt (by decide)] at q
          omega
        rw [this]
        exact fin 0 (by omega)
    · rw [if_neg c, if_neg c, show lN (o + G) - (0 : Int64) = lN (o + G) from Int64.sub_zero _, if_pos (show 0 ≤ lg_cmp (lN (o + G)) (0 : Int64) from by have := (cmp_sub (a := o + G) (b := 0) (by omega) (by decide)).mpr (Nat.zero_le _); rwa [lN_sub (Nat.zero_le _), Nat.sub_zero] at this)]
      exact fin _ (by omega)
theorem fco {X : qX} {v j : Nat} {I J : qI} (h : RV X v I (J 270) j) {a : Nat} (ha : a = v + 7) (x1 x2 x3 : Int32) : ∀ r f g i, i + r = cn (J 270) 1 → r < f → r < g → (q_fix (fun _ => none) (b_X8_firstCompany_2 a I) f (nI i) = some (-1) ∧ q_fix (fun _ => none) (b_X12_bound_38 269 x1 x2 x3 J) g (nI i) = some (-1000000005)) ∨ ∃ k, k < cn (J 270) 1 ∧ q_fix (fun _ => none) (b_X8_firstCompany_2 a I) f (nI i) = some (nI k) ∧ q_fix (fun _ => none) (b_X12_bound_38 269 x1 x2 x3 J) g (nI i) = b_X12_bound_64 269 x1 x2 x3 J (nI k) := by
  subst ha
  have b := h.bd
  intro r
  induction r with
  | zero =>
    intro f g i h1 h2 h3
    obtain ⟨f, rfl⟩ : ∃ z, f = z + 1 := ⟨f - 1, by omega⟩
    obtain ⟨g, rfl⟩ : ∃ z, g = z + 1 := ⟨g - 1, by omega⟩
    have e : i = cn (J 270) 1 := by omega
    subst e
    refine Or.inl ⟨?_, ?_⟩
    · show b_X8_firstCompany_2 (v + 7) I _ _ = _
      unfold b_X8_firstCompany_2
      rw [h.sc1 rfl, h.k1.1, if_pos (Int32.le_refl _)]
    · show b_X12_bound_38 269 x1 x2 x3 J _ _ = _
      unfold b_X12_bound_38 b_X12_bound_64
      rw [u_rd (show 1 < 3580 by decide) (by decide), u_s1, u_s1, show J (269 + 1) = J 270 from rfl, h.k1.1, if_pos (Int32.le_refl _), if_pos rfl]
  | succ r ih =>
    intro f g i h1 h2 h3
    obtain ⟨f, rfl⟩ : ∃ z, f = z + 1 := ⟨f - 1, by omega⟩
    obtain ⟨g, rfl⟩ : ∃ z, g = z + 1 := ⟨g - 1, by omega⟩
    have ih' := ih f g (i + 1) (by omega) (by omega) (by omega)
    show (b_X8_firstCompany_2 (v + 7) I (q_fix (fun _ => none) (b_X8_firstCompany_2 (v + 7) I) f) (nI i) = _ ∧ b_X12_bound_38 269 x1 x2 x3 J (q_fix (fun _ => none) (b_X12_bound_38 269 x1 x2 x3 J) g) (nI i) = _) ∨ ∃ k, k < cn (J 270) 1 ∧ b_X8_firstCompany_2 (v + 7) I (q_fix (fun _ => none) (b_X8_firstCompany_2 (v + 7) I) f) (nI i) = _ ∧ b_X12_bound_38 269 x1 x2 x3 J (q_fix (fun _ => none) (b_X12_bound_38 269 x1 x2 x3 J) g) (nI i) = _
    generalize q_fix (fun _ => none) (b_X8_firstCompany_2 (v + 7) I) f = KC at *
    generalize q_fix (fun _ => none) (b_X12_bound_38 269 x1 x2 x3 J) g = KM at *
    have eC : b_X8_firstCompany_2 (v + 7) I KC (nI i) = if J 270 (50 + 4 * i) = 0 then some (nI i) else KC (nI (i + 1)) := by
      unfold b_X8_firstCompany_2
      rw [h.sc1 rfl, h.k1.1, if_neg (nI_ge (by omega) (by omega)), u_rd (show i < 6 by omega) (by decide), u_s1, h.s0 rfl (by omega), nI_add]
    have eM : b_X12_bound_38 269 x1 x2 x3 J KM (nI i) = if J 270 (50 + 4 * i) = 0 then b_X12_bound_64 269 x1 x2 x3 J (nI i) else KM (nI (i + 1)) := by
      unfold b_X12_bound_38
      rw [u_rd (show 1 < 3580 by decide) (by decide), u_s1, show J (269 + 1) = J 270 from rfl, h.k1.1, if_neg (nI_ge (by omega) (by omega)), h.townJ (by omega), u_s1, nI_add]
      by_cases z : J 270 (50 + 4 * i) = 0
      · rw [if_pos z, if_pos z, if_pos rfl]
      · rw [if_neg z, if_neg z, if_neg u_one]
    rw [eC, eM]
    by_cases z : J 270 (50 + 4 * i) = 0
    · rw [if_pos z, if_pos z]
      exact Or.inr ⟨i, by omega, rfl, rfl⟩
    · rw [if_neg z, if_neg z]
      exact ih'
theorem q_fu2 : 2000 < q_fu := by decide
theorem W_bound {X : qX} (y1 y2 y3 : Int32) : P0 X (f_X11_bound 64 y1 y2 y3) (f_X12_bound 269 y1 y2 y3) := by
  intro I J h
  show G0 (f_X11_bound 64 y1 y2 y3 I) (f_X12_bound 269 y1 y2 y3 J)
  have hR := h.rv
  have b := hR.bd
  unfold f_X11_bound f_X12_bound
  simp only [hR.hasM (a := 64 + 13) rfl, hR.isMan, u_within, ii_0_9999, ii_1_99, u_s1, u_ib, ite_not]
  refine G0.ite (fun c1 => ?_) (fun _ => G0.rf _)
  refine G0.ite (fun c2 => ?_) (fun _ => G0.rf _)
  refine G0.ite (fun c3 => ?_) (fun _ => G0.rf _)
  obtain ⟨m, rfl, hm⟩ := u_idx c1 (by omega)
  obtain ⟨bb, rfl, -, hb⟩ := u_range (by decide) c2.1 c2.2 (by decide)
  obtain ⟨d, rfl, hd1, hd⟩ := u_range (by decide) c3.1 c3.2 (by decide)
  unfold f_X9_weeksBound f_X8_firstCompany
  have hf := q_fu2
  rcases fco hR (a := 64 + 1 + 7) rfl (nI m) (nI bb) (nI d) (cn (J 270) 1) q_fu q_fu 0 (Nat.zero_add _) (by omega) (by omega) with ⟨e1, e2⟩ | ⟨k, hk, e1, e2⟩
  · rw [e1, e2, u_s1, if_pos (by decide +kernel), u_s1]
    exact G0.rf _
  · rw [e1, e2, u_s1, if_neg (nI_pos (by omega)), if_pos (show (0 : Int32) < nI d by rw [← nI_0]; exact nI_lt (by omega) (by omega))]
    obtain ⟨p1, p2, p3⟩ := hR.pr hk
    obtain ⟨q1, -, q2⟩ := hR.r_m2 (m := m) (by omega)
    obtain ⟨d1, d2⟩ := hR.db hm
    obtain ⟨a1, a2⟩ := hR.am (by decide) d2
    have k0 := hR.k0n (by decide)
    rw [u_rd (show k < 6 by omega) (by decide), u_s1, hR.s1 (a := 64 + 1 + 9) rfl (by omega), p1, u_rd (show m < 12 by omega) (by decide), u_s1, hR.m2 (a := 64 + 1 + 15) rfl (by omega), q1, hR.owed (a := 64 + 1) rfl hm, u_s1, a1]
    unfold b_X12_bound_64
    rw [u_rd (show 1 < 3580 by decide) (by decide), u_s1, show J (269 + 1) = J 270 from rfl, hR.k1.1, if_neg (nE (by omega) (by omega) (by omega)), hR.owedJ hm, u_s1, a1, nI_l (by omega), u_mul, u_mul]
    have G9 : cn (J 270) (50 + 4 * k + 1) * cn (J 270) (80 + 24 * m + 2) * 7 ≤ 6237 := by
      have := Nat.mul_le_mul p3 q2
      omega
    obtain ⟨r, r1, r2⟩ := bnd_lp hR (m := m) (s := k) (b := bb) (d := d) (by omega) hk hb hd1 hd (64 + 1) rfl G9 1000 q_fu q_fu (cn (J 270) (370 + 8 * cn (J 270) (80 + 24 * m + 11) + 2)) 1 rfl (by omega) (by omega) (by omega)
    rw [r1, r2, u_s1]
    exact G0.rf _
