/-! LEVEL B: copy -/
theorem rng_s {w : Nat} (hw : w ≤ 30) {y z : Int32} (hy : ¬ y < 0) (hz : ¬ z < 0) : (nI w - y < z ↔ 0 < lg_cmp (y.toInt64 + z.toInt64) (nI w).toInt64) ∧ (lg_cmp (y.toInt64 + z.toInt64) (nI w).toInt64 ≤ 0 ↔ ¬ (nI w - y < z)) ∧ (¬ nI w - y < z → ∃ a m, y = nI a ∧ z = nI m ∧ a + m ≤ w) := by
  obtain ⟨a, ha, rfl⟩ := nI_of hy
  obtain ⟨m, hm, rfl⟩ := nI_of hz
  rw [nI_l ha, nI_l hm, nI_l (show w < 2 ^ 31 by omega), lN_add]
  have e : nI w - nI a < nI m ↔ w < a + m := by
    have e1 : (nI w - nI a).toInt = (w : Int) - a := by
      rw [Int32.toInt_sub, nI_toInt (by omega), nI_toInt ha]
      exact Int.bmod_eq_of_le (by omega) (by omega)
    rw [Int32.lt_iff_toInt_lt, e1, nI_toInt hm]
    omega
  have c : (0 < lg_cmp (lN (a + m)) (lN w)) ↔ w < a + m := by
    unfold lg_cmp
    by_cases q : w < a + m
    · rw [if_pos (show lN (a + m) > lN w from (pk_lLT (by omega) (by omega)).mpr q)]
      exact ⟨fun _ => q, fun _ => by decide⟩
    · rw [if_neg (show ¬ lN (a + m) > lN w from fun z => q ((pk_lLT (by omega) (by omega)).mp z))]
      refine ⟨fun z => ?_, fun z => absurd z q⟩
      by_cases e2 : lN (a + m) = lN w
      · rw [if_pos e2] at z; exact absurd z (by decide)
      · rw [if_neg e2] at z; exact absurd z (by decide)
  refine ⟨e.trans c.symm, ?_, fun q => ⟨a, m, rfl, rfl, ?_⟩⟩
  · rw [e, ← c]
    exact ⟨fun q => Int32.not_lt.mpr q, fun q => Int32.not_lt.mp q⟩
  · have := mt e.mpr q
    omega
def cp1 (J0 : qI) (S k : Nat) (J : qI) : Prop := (∀ a, a ≠ 279 → J a = J0 a) ∧ ∀ i, i < k → J 279 i = J0 275 (S + i)
def cp2 (J0 : qI) (S D m k : Nat) (J : qI) : Prop := (∀ a, a ≠ 275 → a ≠ 279 → J a = J0 a) ∧ (∀ i, i < m → J 279 i = J0 275 (S + i)) ∧ ∀ i, J 275 i = if D ≤ i ∧ i < D + k then J0 275 (S + (i - D)) else J0 275 i
theorem cp_lp2 {J0 : qI} {p a q b m : Nat} (hp : q < 8) (hb : b + m ≤ 30) : ∀ r f i J, i + r = m → r < f → cp2 J0 (30 * p + a) (30 * q + b) m i J → ∃ J', q_fix (fun _ _ => none) (b_X12_copy_151 269 (nI p) (nI a) (nI q) (nI b) (nI m)) f (nI i) J = some (nI m, J') ∧ cp2 J0 (30 * p + a) (30 * q + b) m m J' := by
  intro r
  induction r with
  | zero =>
    intro f i J h1 h2 h
    obtain ⟨f, rfl⟩ : ∃ z, f = z + 1 := ⟨f - 1, by omega⟩
    have : i = m := by omega
    subst this
    refine ⟨J, ?_, h⟩
    show b_X12_copy_151 269 (nI p) (nI a) (nI q) (nI b) (nI i) _ (nI i) J = _
    unfold b_X12_copy_151
    rw [if_pos (Int32.le_refl _)]
  | succ r ih =>
    intro f i J h1 h2 h
    obtain ⟨f, rfl⟩ : ∃ z, f = z + 1 := ⟨f - 1, by omega⟩
    obtain ⟨e1, e2, e3⟩ := h
    obtain ⟨J', k1, k2⟩ := ih f (i + 1) (q_up J 275 (30 * q + b + i) (J0 275 (30 * p + a + i))) (by omega) (by omega) (by
      refine ⟨fun c z1 z2 => ?_, fun c hc => ?_, fun c => ?_⟩
      · funext k; rw [u_up_a z1, e1 c z1 z2]
      · rw [u_up_a (by decide)]; exact e2 c hc
      · by_cases z : c = 30 * q + b + i
        · rw [z, u_up_same, if_pos (by omega), show 30 * q + b + i - (30 * q + b) = i by omega]
        · rw [u_up_j z, e3 c]
          by_cases y : 30 * q + b ≤ c ∧ c < 30 * q + b + i
          · rw [if_pos y, if_pos (by omega)]
          · rw [if_neg y, if_neg (by omega)])
    refine ⟨J', ?_, k2⟩
    rw [← k1]
    show b_X12_copy_151 269 (nI p) (nI a) (nI q) (nI b) (nI m) (q_fix (fun _ _ => none) (b_X12_copy_151 269 (nI p) (nI a) (nI q) (nI b) (nI m)) f) (nI i) J = _
    generalize q_fix (fun _ _ => none) (b_X12_copy_151 269 (nI p) (nI a) (nI q) (nI b) (nI m)) f = K
    unfold b_X12_copy_151
    rw [if_neg (nI_ge (by omega) (by omega)), u_rd (show i < 30 by omega) (by decide), u_s1, u_mul, nI_add, nI_add, u_wr (show 30 * q + b + i < 240 by omega) (by decide), u_s1, nI_add, show J (269 + 10) i = _ from e2 i (by omega)]
theorem cp_lp1 {J0 : qI} {p a q b m : Nat} (hp : p < 8) (ha : a + m ≤ 30) : ∀ r f i J, i + r = m → r < f → cp1 J0 (30 * p + a) i J → ∃ J', q_fix (fun _ _ => none) (b_X12_copy_114 269 (nI p) (nI a) (nI q) (nI b) (nI m)) f (nI i) J = q_fix (fun _ _ => none) (b_X12_copy_151 269 (nI p) (nI a) (nI q) (nI b) (nI m)) q_fu (nI 0) J' ∧ cp1 J0 (30 * p + a) m J' := by
  intro r
  induction r with
  | zero =>
    intro f i J h1 h2 h
    obtain ⟨f, rfl⟩ : ∃ z, f = z + 1 := ⟨f - 1, by omega⟩
    have : i = m := by omega
    subst this
    refine ⟨J, ?_, h⟩
    show b_X12_copy_114 269 (nI p) (nI a) (nI q) (nI b) (nI i) _ (nI i) J = _
    unfold b_X12_copy_114
    rw [if_pos (Int32.le_refl _)]
  | succ r ih =>
    intro f i J h1 h2 h
    obtain ⟨f, rfl⟩ : ∃ z, f = z + 1 := ⟨f - 1, by omega⟩
    obtain ⟨e1, e2⟩ := h
    obtain ⟨J', k1, k2⟩ := ih f (i + 1) (q_up J 279 i (J0 275 (30 * p + a + i))) (by omega) (by omega) (by
      refine ⟨fun c z1 => ?_, fun c hc => ?_⟩
      · funext k; rw [u_up_a z1, e1 c z1]
      · by_cases z : c = i
        · rw [z, u_up_same]
        · rw [u_up_j z]; exact e2 c (by omega))
    refine ⟨J', ?_, k2⟩
    rw [← k1]
    show b_X12_copy_114 269 (nI p) (nI a) (nI q) (nI b) (nI m) (q_fix (fun _ _ => none) (b_X12_copy_114 269 (nI p) (nI a) (nI q) (nI b) (nI m)) f) (nI i) J = _
    generalize q_fix (fun _ _ => none) (b_X12_copy_114 269 (nI p) (nI a) (nI q) (nI b) (nI m)) f = K
    unfold b_X12_copy_114
    rw [if_neg (nI_ge (by omega) (by omega)), u_mul, nI_add, nI_add, u_rd (show 30 * p + a + i < 240 by omega) (by decide), u_s1, u_wr (show i < 30 by omega) (by decide), u_s1, nI_add, show J (269 + 6) = J0 275 from e1 275 (by decide)]
theorem BK.mis {I J : qI} (h : BK I J) {p : Nat} (hp : p < 8) : I 264 p = J 273 p ∧ (J 273 p = -1 ∧ J 273 p < 0 ∨ (¬ J 273 p = -1 ∧ ¬ J 273 p < 0 ∧ 0 ≤ J 273 p)) := by
  obtain ⟨a, -, b, -⟩ := h.1 p hp
  refine ⟨a, ?_⟩
  rcases b with e | e | e
  · left; rw [e]; decide
  · right; rw [e]; decide
  · right; rw [e]; decide
theorem hasR {I J : qI} (h : BK I J) {p w : Nat} (hp : p < 8) (hw : w ≤ 30) (h5 : I 265 p = nI w) (y z : Int32) : f_X0_hasRange (64 + 199) (nI p) y z I = some (if y < 0 ∨ z < 0 ∨ nI w - y < z then 0 else 1) := by
  unfold f_X0_hasRange
  by_cases c1 : y < 0
  · rw [if_pos c1, if_pos (Or.inl c1)]; rfl
  rw [if_neg c1]
  by_cases c2 : z < 0
  · rw [if_pos c2, if_pos (Or.inr (Or.inl c2))]; rfl
  rw [if_neg c2, u_rd hp (by decide), u_s1, show I (64 + 199 + 2) p = nI w from h5]
  by_cases c3 : nI w - y < z
  · rw [if_pos c3, if_pos (Or.inr (Or.inr c3))]; rfl
  · rw [if_neg c3, if_neg (fun q => q.elim c1 (fun q => q.elim c2 c3))]; rfl
theorem u_ib2 {c : Prop} [Decidable c] : ((if c then (0 : Int32) else 1) = 0) = c := by
  by_cases h : c
  · rw [if_pos h]; simp [h]
  · rw [if_neg h]; simp [h]
theorem W_copy {X : qX} (y1 y2 y3 y4 y5 : Int32) : P2 X (f_X11_copy 64 y1 y2 y3 y4 y5) (f_X12_copy 269 y1 y2 y3 y4 y5) := by
  intro I J h
  show G2 X I J (f_X11_copy 64 y1 y2 y3 y4 y5 I) (f_X12_copy 269 y1 y2 y3 y4 y5 J)
  have hB := h.bk
  unfold f_X11_copy f_X12_copy
  simp only [u_within, u_isPit, u_s1, u_ib, ite_not]
  refine G2.ite (fun c1 => ?_) (fun _ => h.same _)
  refine G2.ite (fun c2 => ?_) (fun _ => h.same _)
  obtain ⟨p, rfl, -, hp⟩ := u_range (by decide) c1.1 c1.2 (by decide)
  obtain ⟨q, rfl, -, hq⟩ := u_range (by decide) c2.1 c2.2 (by decide)
  have hp8 : p < 8 := by omega
  have hq8 : q < 8 := by omega
  obtain ⟨p1, p2⟩ := hB.mis hp8
  obtain ⟨q1, q2⟩ := hB.mis hq8
  obtain ⟨w, w1, w2, w3⟩ := hB.wk hp8
  obtain ⟨u, u1, u2, u3⟩ := hB.wk hq8
  unfold f_X0_isMissing f_X0_start
  rw [hasR hB hp8 w1 w2, hasR hB hq8 u1 u2, u_s1, u_s1, u_rd hp8 (by decide), u_s1, u_s1, u_rd hq8 (by decide), u_s1, u_s1, u_rd hp8 (by decide), u_s1, u_rd hq8 (by decide), u_s1, u_s1, u_s1, show I (64 + 199 + 1) = I 264 from rfl, show I (64 + 200) = I 264 from rfl, p1, q1, show J (269 + 4) = J 273 from rfl]
  rw [u_rd hp8 (by decide), u_s1, u_rd hq8 (by decide), u_s1, show J (269 + 5) = J 274 from rfl, w3, u3]
  rcases p2 with ⟨pa, pb⟩ | ⟨pa, pb, pc⟩
  · rw [if_pos pa, if_pos pb, u_s1, if_neg (by decide +kernel)]
    exact h.same _
  rw [if_neg pa, if_neg pb, u_s1, if_pos nI_0]
  rcases q2 with ⟨qa, qb⟩ | ⟨qa, qb, qc⟩
  · rw [if_pos qa, if_neg (Int32.not_le.mpr qb), u_s1, if_neg (by decide +kernel)]
    exact h.same _
  rw [if_neg qa, if_pos qc, u_s1, if_pos nI_0]
  refine G2.ite (fun c3 => ?_) (fun _ => h.same _)
  simp only [u_ib2]
  by_cases d1 : y2 < 0
  · rw [if_pos (Or.inl d1), if_pos d1]; exact h.same _
  by_cases d2 : y5 < 0
  · rw [if_pos (Or.inr (Or.inl d2)), if_neg d1, if_pos d2]
    by_cases d3 : y4 < 0
    · rw [if_pos d3]; exact h.same _
    · rw [if_neg d3]; exact h.same _
  by_cases d3 : y4 < 0
  · rw [if_neg d1, if_pos d3]
    by_cases d4 : y2 < 0 ∨ y5 < 0 ∨ nI w - y2 < y5
    · rw [if_pos d4]; exact h.same _
    · rw [if_neg d4, if_pos (Or.inl d3)]; exact h.same _
  rw [if_neg d1, if_neg d3, if_neg d2, u_s1, u_s1]
  obtain ⟨r1, -, r3⟩ := rng_s w1 d1 d2
  obtain ⟨-, s2, s3⟩ := rng_s u1 d3 d2
  by_cases d4 : nI w - y2 < y5
  · rw [if_pos (Or.inr (Or.inr d4)), if_pos (r1.mp d4)]; exact h.same _
  rw [if_neg (fun z => z.elim d1 (fun z => z.elim d2 d4)), if_neg (fun z => d4 (r1.mpr z))]
  by_cases d5 : nI u - y4 < y5
  · rw [if_pos (Or.inr (Or.inr d5)), if_neg (fun z => s2.mp z d5)]; exact h.same _
  rw [if_neg (fun z => z.elim d3 (fun z => z.elim d2 d5)), if_pos (s2.mpr d5)]
  obtain ⟨a, m, rfl, rfl, am⟩ := r3 d4
  obtain ⟨b, m', rfl, e5, bm⟩ := s3 d5
  have mm : m = m' := by
    rcases Nat.lt_trichotomy m m' with z | z | z
    · exact absurd e5 (nE (by omega) (by omega) (by omega))
    · exact z
    · exact absurd e5 (nE (by omega) (by omega) (by omega))
  subst mm
  obtain ⟨J1, k1, k2⟩ := cp_lp1 (J0 := J) (p := p) (a := a) (q := q) (b := b) (m := m) hp8 (by omega) m q_fu 0 J (Nat.zero_add _) (by have := q_fu1; omega) ⟨fun _ _ => rfl, fun i hi => absurd hi (Nat.not_lt_zero _)⟩
  obtain ⟨J2, k3, k4⟩ := cp_lp2 (J0 := J) (p := p) (a := a) (q := q) (b := b) (m := m) hq8 (by omega) m q_fu 0 J1 (Nat.zero_add _) (by have := q_fu1; omega) ⟨fun c _ z2 => k2.1 c z2, k2.2, fun i => by rw [if_neg (by omega), k2.1 275 (by decide)]⟩
  rw [k1, k3, u_mul, nI_add, u_mul, nI_add]
  unfold q_cp
  rw [nI_clamp (show p * 30 + a < 2 ^ 31 by omega), nI_clamp (show q * 30 + b < 2 ^ 31 by omega), nI_clamp (show m < 2 ^ 31 by omega), if_neg (by
    rintro ((z | z | z) | z | z)
    · exact nI_pos (by omega) z
    · exact nI_pos (by omega) z
    · exact nI_pos (by omega) z
    · omega
    · omega), u_s1]
  refine h.bks (fun c z1 z2 z3 => ?_) (fun c z1 z2 z3 z4 => k4.1 c z3 z4) ⟨fun i hi => ?_, fun i hi => ?_⟩ _
  · show (if c = 64 + 202 then _ else _) = _
    rw [if_neg z3]
  · rw [k4.1 273 (by decide) (by decide), k4.1 274 (by decide) (by decide)]
    exact hB.1 i hi
  · show (if 266 = 64 + 202 then va_cpy (I 266) (I 266) (p * 30 + a) (q * 30 + b) m else I 266) i = _
    rw [if_pos rfl, k4.2.2 i]
    unfold va_cpy
    by_cases z : q * 30 + b ≤ i ∧ i < q * 30 + b + m
    · rw [if_pos z, if_pos (by omega), hB.2 _ (by omega), show 30 * p + a + (i - (30 * q + b)) = p * 30 + a + (i - (q * 30 + b)) by omega]
    · rw [if_neg z, if_neg (by omega)]
      exact hB.2 i hi
