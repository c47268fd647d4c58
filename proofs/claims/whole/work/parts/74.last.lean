/-! LEVEL B: last -/
theorem q_min_nI2 {a z : Nat} (ha : a ≤ 199998) (hz : z ≤ 199998) : q_min (nI a) (nI z) = nI (min a z) := q_min_nI (by omega) (by omega)
theorem ws_st {X : qX} {v j : Nat} {I : qI} {t : Nat → Int32} (h : RV X v I t j) (hv : v ≤ 195) {c q d nd D0 : Nat} {x : Option Nat} {x1 s0 s1 : Int32} (hc : c < 12) (hq : q < 8) (e63 : I (v + 63) q = enc x) (hx : sm x) (e64 : I (v + 64) q = nI D0) (hn : 0 < nd) (hn9 : nd ≤ 9) (hs : (s0 + s1) / nI nd = nI d) (hd : d ≤ 199998) (K : Int32 → Int32 → qI → Option qI) : b_X9_weighStrikes_117 v K x1 (nI c) (nI nd) (nI q) s0 s1 I = K x1 (nI (c + 1)) (q_up (q_up I (v + 63) q (enc (om x (some d)))) (v + 64) q (nI (D0 + cn t (80 + 24 * c + 1) * cn t (10 + 5 * q)))) := by
  have key : ∀ z, b_X9_weighStrikes_155 v K x1 (nI c) (nI q) (nI q) z I = K x1 (nI (c + 1)) (q_up (q_up I (v + 63) q z) (v + 64) q (nI (D0 + cn t (80 + 24 * c + 1) * cn t (10 + 5 * q)))) := by
    intro z
    have h2 := h.own hv (o := 63) (i := q) (x := z) (by decide)
    unfold b_X9_weighStrikes_155 b_X9_weighStrikes_186
    rw [u_wr hq (by decide), u_s1, u_rd hq (by decide), u_s1, u_up_a (show v + 64 ≠ v + 63 by omega), e64, u_rd hc (by decide), u_s1, h2.m1 rfl hc, (h.r_m1 hc).1, u_rd hq (by decide), u_s1, h2.p0 rfl hq, (h.r_p0 hq).1, u_mul, nI_add, u_wr hq (by decide), u_s1, nI_add]
  unfold b_X9_weighStrikes_117
  rw [if_neg (nI_ne0 (by omega) (by omega)), u_rd hq (by decide), u_s1, u_s1, e63, hs, key, key]
  cases x with
  | none =>
    rw [if_neg (show ¬ 0 ≤ enc none by decide)]
    rfl
  | some a =>
    have ha := hx a rfl
    rw [if_pos ((enc_neg hx).1.mpr (by simp))]
    show K _ _ (q_up (q_up I (v + 63) q (q_min (nI a) (nI d))) _ _ _) = K _ _ (q_up (q_up I (v + 63) q (nI (min a d))) _ _ _)
    rw [q_min_nI2 ha hd]
def WS (v : Nat) (t : Nat → Int32) (P c : Nat) (I0 I : qI) : Prop := (∀ a, a ≠ v + 63 → a ≠ v + 64 → I a = I0 a) ∧ ∀ p, p < 8 → I (v + 63) p = enc (pL t P c p) ∧ I (v + 64) p = nI (pD t c p)
theorem ws_lp2 {X : qX} {v j P : Nat} {I0 : qI} {t : Nat → Int32} (hv : v ≤ 195) (hP : P ≤ 99) : ∀ r f c I, c + r = cn t 2 → r < f → RV X v I t j → WS v t P c I0 I → ∃ I', q_fix (fun _ _ _ => none) (b_X9_weighStrikes_39 v) f (nI P) (nI c) I = some I' ∧ RV X v I' t j ∧ WS v t P (cn t 2) I0 I' := by
  intro r
  induction r with
  | zero =>
    intro f c I h1 h2 h hw
    obtain ⟨f, rfl⟩ : ∃ z, f = z + 1 := ⟨f - 1, by omega⟩
    have e : c = cn t 2 := by omega
    subst e
    refine ⟨I, ?_, h, hw⟩
    show b_X9_weighStrikes_39 v _ (nI P) _ I = _
    unfold b_X9_weighStrikes_39
    rw [h.sc2 rfl, h.k2.1, if_pos (Int32.le_refl _)]
  | succ r ih =>
    intro f c I h1 h2 h hw
    have b := h.bd
    obtain ⟨f, rfl⟩ : ∃ z, f = z + 1 := ⟨f - 1, by omega⟩
    have hc : c < 12 := by omega
    obtain ⟨n1, -, n2⟩ := h.r_m2 (m := c) hc
    have n0 : 0 < cn t (80 + 24 * c + 2) := by
      rcases Nat.eq_zero_or_pos (cn t (80 + 24 * c + 2)) with z | z
      · exact absurd (by rw [n1, z, nI_0]) (h.dd.2.1 c (by omega)).1
      · exact z
    obtain ⟨m1, -, m2⟩ := h.r_m0 (m := c) hc
    obtain ⟨r1, -, r2⟩ := h.r_m3 (m := c) hc
    obtain ⟨s1, -, s2⟩ := h.r_m4 (m := c) hc
    show ∃ I', b_X9_weighStrikes_39 v (q_fix (fun _ _ _ => none) (b_X9_weighStrikes_39 v) f) (nI P) (nI c) I = some I' ∧ _
    have dl := dys_le h (P := P) hc
    by_cases g : t (80 + 24 * c + 9) = 0
    rotate_left
    · obtain ⟨I', k1, k2⟩ := ih f (c + 1) I (by omega) (by omega) h ⟨hw.1, fun p hp => by
        show I (v + 63) p = enc (if _ then _ else _) ∧ I (v + 64) p = nI (if _ then _ else _)
        rw [if_neg (fun q => g q.1), if_neg (fun q => g q.1)]
        exact hw.2 p hp⟩
      refine ⟨I', ?_, k2⟩
      rw [← k1]
      unfold b_X9_weighStrikes_39 b_X9_weighStrikes_186
      rw [h.sc2 rfl, h.k2.1, if_neg (nI_ge (by omega) (by omega)), u_rd hc (by decide), u_s1, h.gone rfl hc, u_s1, if_neg g, if_neg u_one, nI_add]
    · obtain ⟨w1, w2⟩ := hw.2 (cn t (80 + 24 * c)) (by omega)
      obtain ⟨I', k1, k2⟩ := ih f (c + 1) (q_up (q_up I (v + 63) (cn t (80 + 24 * c)) (enc (om (pL t P c (cn t (80 + 24 * c))) (some (dys t P c))))) (v + 64) (cn t (80 + 24 * c)) (nI (pD t c (cn t (80 + 24 * c)) + cn t (80 + 24 * c + 1) * cn t (10 + 5 * cn t (80 + 24 * c))))) (by omega) (by omega) ((h.own hv (by decide)).own hv (by decide)) ⟨fun a e1 e2 => by
          funext k; rw [u_up_a e2, u_up_a e1, hw.1 a e1 e2], fun p hp => by
          show _ = enc (if _ then _ else _) ∧ _ = nI (if _ then _ else _)
          rw [u_up_a (show v + 63 ≠ v + 64 by omega)]
          by_cases e : cn t (80 + 24 * c) = p
          · rw [if_pos ⟨g, e⟩, if_pos ⟨g, e⟩, e, u_up_same, u_up_same]
            exact ⟨rfl, rfl⟩
          · rw [if_neg (fun q => e q.2), if_neg (fun q => e q.2), u_up_j (Ne.symm e), u_up_j (Ne.symm e), u_up_a (show v + 64 ≠ v + 63 by omega)]
            exact hw.2 p hp⟩
      refine ⟨I', ?_, k2⟩
      rw [← k1]
      unfold b_X9_weighStrikes_39
      rw [h.sc2 rfl, h.k2.1, if_neg (nI_ge (by omega) (by omega)), u_rd hc (by decide), u_s1, h.m2 rfl hc, n1, h.gone rfl hc, u_s1, if_pos g, if_pos rfl, if_pos (show (0 : Int32) < nI (cn t (80 + 24 * c + 2)) by rw [← nI_0]; exact nI_lt n0 (by omega)), u_rd hc (by decide), u_s1, h.m0 rfl hc, m1, u_rd hc (by decide), u_s1, h.m3 rfl hc, r1]
      by_cases z : P = 0
      · rw [if_pos (show nI P ≤ 0 by rw [z, nI_0]; exact Int32.le_refl _)]
        refine ws_st h hv hc (by omega) w1 (pL_sm h P _ c (by omega)) w2 n0 (by omega) ?_ dl _
        rw [nI_add, u_div (by omega) (by omega)]
        unfold dys
        rw [if_pos z]
      · rw [if_neg (show ¬ nI P ≤ 0 by rw [← nI_0]; exact nI_ge (by omega) (by omega)), u_rd hc (by decide), u_s1, h.m4 rfl hc, s1, if_neg (nI_ne0 (by omega) (by omega)), u_div (by omega) (by omega)]
        refine ws_st h hv hc (by omega) w1 (pL_sm h P _ c (by omega)) w2 n0 (by omega) ?_ dl _
        have := Nat.div_le_self (cn t (80 + 24 * c + 4)) P
        rw [nI_add, u_div (by omega) (by omega)]
        unfold dys
        rw [if_neg z]
theorem ws_lp1 {X : qX} {v j P : Nat} {I0 : qI} {t : Nat → Int32} (hv : v ≤ 195) : ∀ r f i I, i + r = 8 → r < f → RV X v I t j → (∀ a, a ≠ v + 63 → a ≠ v + 64 → I a = I0 a) → (∀ p, p < i → I (v + 63) p = -1 ∧ I (v + 64) p = nI 0) → ∃ I', q_fix (fun _ _ _ => none) (b_X9_weighStrikes_11 v) f (nI P) (nI i) I = q_fix (fun _ _ _ => none) (b_X9_weighStrikes_39 v) q_fu (nI P) (nI 0) I' ∧ RV X v I' t j ∧ WS v t P 0 I0 I' := by
  intro r
  induction r with
  | zero =>
    intro f i I h1 h2 h h3 h4
    obtain ⟨f, rfl⟩ : ∃ z, f = z + 1 := ⟨f - 1, by omega⟩
    have e : i = 8 := by omega
    subst e
    refine ⟨I, ?_, h, h3, fun p hp => h4 p hp⟩
    show b_X9_weighStrikes_11 v _ (nI P) _ I = _
    unfold b_X9_weighStrikes_11
    rw [if_pos (Int32.le_refl _)]
  | succ r ih =>
    intro f i I h1 h2 h h3 h4
    obtain ⟨f, rfl⟩ : ∃ z, f = z + 1 := ⟨f - 1, by omega⟩
    obtain ⟨I', k1, k2⟩ := ih f (i + 1) (q_up (q_up I (v + 63) i (-1)) (v + 64) i (nI 0)) (by omega) (by omega) ((h.own hv (by decide)).own hv (by decide)) (fun a e1 e2 => by
        funext k; rw [u_up_a e2, u_up_a e1, h3 a e1 e2]) (fun p hp => by
        rw [u_up_a (show v + 63 ≠ v + 64 by omega)]
        by_cases e : p = i
        · rw [e, u_up_same, u_up_same]; exact ⟨rfl, rfl⟩
        · rw [u_up_j e, u_up_j e, u_up_a (show v + 64 ≠ v + 63 by omega)]
          exact h4 p (by omega))
    refine ⟨I', ?_, k2⟩
    rw [← k1]
    show b_X9_weighStrikes_11 v (q_fix (fun _ _ _ => none) (b_X9_weighStrikes_11 v) f) (nI P) (nI i) I = _
    unfold b_X9_weighStrikes_11
    rw [if_neg (nI_ge (by omega) (by decide)), u_wr (show i < 8 by omega) (by decide), u_s1, u_wr (show i < 8 by omega) (by decide), u_s1, nI_add]
theorem ws_all {X : qX} {v j : Nat} {I : qI} {t : Nat → Int32} (h : RV X v I t j) (hv : v ≤ 195) : ∃ I', f_X9_weighStrikes v I = some I' ∧ RV X v I' t j ∧ WS v t (lpr t 1 (cn t 1)) (cn t 2) I I' := by
  have b := h.bd
  have q := q_fu1
  unfold f_X9_weighStrikes
  rw [h.lpC rfl (by decide), u_s1]
  obtain ⟨I1, k1, k2, k3⟩ := ws_lp1 (X := X) (j := j) (P := lpr t 1 (cn t 1)) (I0 := I) (t := t) hv 8 q_fu 0 I rfl (by omega) h (fun _ _ _ => rfl) (fun p hp => absurd hp (Nat.not_lt_zero _))
  obtain ⟨I2, k4, k5, k6⟩ := ws_lp2 (X := X) (j := j) (P := lpr t 1 (cn t 1)) (I0 := I) (t := t) hv (lpr_le h 1 _ (Nat.le_refl _)) (cn t 2) q_fu 0 I1 (Nat.zero_add _) (by omega) k2 k3
  exact ⟨I2, k1.trans k4, k5, k6⟩
def mv : Option Nat → Int32
  | none => nI 999
  | some d => nI d
theorem fL_sm {X : qX} {v j : Nat} {I : qI} {t : Nat → Int32} (h : RV X v I t j) (P s : Nat) {c : Nat} (hc : c ≤ 12) : ∀ i, sm (fL t P s c i) := by
  intro i
  induction i with
  | zero => intro d hd; cases hd
  | succ i ih =>
    show sm (if _ then _ else _)
    by_cases q : s.testBit i = true
    · rw [if_pos q]; exact sm_om ih (pL_sm h P i c hc)
    · rw [if_neg q]; exact ih
theorem menC {X : qX} {v j P s c : Nat} {I0 I : qI} {t : Nat → Int32} (h : RV X v I t j) (hs : s < 256) (hc : c ≤ 12) (hw : WS v t P c I0 I) : f_X9_menLast v (nI s) I = some (mv (mL t P s c)) := by
  unfold f_X9_menLast
  have lp : ∀ r f i, i + r = 8 → r < f → q_fix (fun _ _ => none) (b_X9_menLast_4 v (nI s) I) f (enc (fL t P s c i)) (nI i) = some (mv (fL t P s c 8)) := by
    intro r
    induction r with
    | zero =>
      intro f i h1 h2
      obtain ⟨f, rfl⟩ : ∃ z, f = z + 1 := ⟨f - 1, by omega⟩
      have e : i = 8 := by omega
      subst e
      show b_X9_menLast_4 v (nI s) I _ _ _ = _
      unfold b_X9_menLast_4
      rw [if_pos (Int32.le_refl _)]
      have sm8 := fL_sm h P s hc 8
      revert sm8
      cases fL t P s c 8 with
      | none => intro _; rw [if_neg (by decide)]; rfl
      | some d => intro z; rw [if_pos ((enc_neg z).1.mpr (by simp))]; rfl
    | succ r ih =>
      intro f i h1 h2
      obtain ⟨f, rfl⟩ : ∃ z, f = z + 1 := ⟨f - 1, by omega⟩
      rw [← ih f (i + 1) (by omega) (by omega)]
      show b_X9_menLast_4 v (nI s) I (q_fix (fun _ _ => none) (b_X9_menLast_4 v (nI s) I) f) (enc (fL t P s c i)) (nI i) = _
      generalize q_fix (fun _ _ => none) (b_X9_menLast_4 v (nI s) I) f = K
      show _ = K (enc (if s.testBit i = true then om (fL t P s c i) (pL t P c i) else fL t P s c i)) _
      have a1 := fL_sm h P s hc i
      have a2 := pL_sm h P i c hc
      have a3 := (hw.2 i (by omega)).1
      unfold b_X9_menLast_4 b_X9_menLast_53 b_X9_menLast_54
      rw [if_neg (nI_ge (by omega) (by decide)), bts s hs i (by omega), u_rd (show i < 8 by omega) (by decide), u_s1, u_s1, u_s1, a3, nI_add]
      by_cases q : s.testBit i = true
      rotate_left
      · rw [if_neg q, if_neg q, if_pos nI_0]
      rw [if_pos q, if_pos q, if_neg (by decide +kernel)]
      clear a3
      generalize fL t P s c i = x at a1 ⊢
      generalize pL t P c i = y at a2 ⊢
      cases x with
      | none =>
        cases y with
        | none => rw [if_neg (by decide)]; rfl
        | some d => rw [if_pos ((enc_neg a2).1.mpr (by simp)), if_neg (by decide)]; rfl
      | some a =>
        cases y with
        | none => rw [if_neg (by decide)]; rfl
        | some d =>
          rw [if_pos ((enc_neg a2).1.mpr (by simp)), if_pos ((enc_neg a1).1.mpr (by simp))]
          show K (q_min (nI a) (nI d)) _ = K (nI (min a d)) _
          rw [q_min_nI2 (a1 a rfl) (a2 d rfl)]
  have := lp 8 q_fu 0 rfl (by have := q_fu1; omega)
  rw [(fL_m h P s c hc).1] at this
  exact this
/-- what the company lasts -/
def cv (t : Nat → Int32) (L : Int32) : Int32 := if 0 < L then q_min (nI 999) (t 8 / L) else nI 999
theorem sub_s (x : Int32) (a b : Nat) : x - nI a - nI b = x - nI (a + b) := by
  rw [← nI_add, Int32.sub_eq_add_neg, Int32.sub_eq_add_neg, Int32.sub_eq_add_neg, Int32.neg_add, Int32.add_assoc, Int32.sub_eq_add_neg]
theorem comC {X : qX} {v j P s c : Nat} {I0 I : qI} {t : Nat → Int32} (h : RV X v I t j) (hs : s < 256) (hc : c ≤ 12) (hw : WS v t P c I0 I) : f_X9_companyLasts v (nI s) I = some (cv t (t 9 - nI (mD t s c))) := by
  unfold f_X9_companyLasts
  have lp : ∀ r f i, i + r = 8 → r < f → q_fix (fun _ _ => none) (b_X9_companyLasts_9 v (nI s) I) f (t 9 - nI (fD t s c i)) (nI i) = some (cv t (t 9 - nI (fD t s c 8))) := by
    intro r
    induction r with
    | zero =>
      intro f i h1 h2
      obtain ⟨f, rfl⟩ : ∃ z, f = z + 1 := ⟨f - 1, by omega⟩
      have e : i = 8 := by omega
      subst e
      show b_X9_companyLasts_9 v (nI s) I _ _ _ = _
      unfold b_X9_companyLasts_9 cv
      rw [if_pos (Int32.le_refl _), u_rd (show 1 < 3 by decide) (by decide), u_s1, h.sc8 rfl]
      generalize t 9 - nI (fD t s c 8) = L
      by_cases z : 0 < L
      · rw [if_pos z, if_pos z, if_neg (fun q => by rw [q] at z; exact absurd z (by decide))]
      · rw [if_neg z, if_neg z]
    | succ r ih =>
      intro f i h1 h2
      obtain ⟨f, rfl⟩ : ∃ z, f = z + 1 := ⟨f - 1, by omega⟩
      rw [← ih f (i + 1) (by omega) (by omega)]
      show b_X9_companyLasts_9 v (nI s) I (q_fix (fun _ _ => none) (b_X9_companyLasts_9 v (nI s) I) f) (t 9 - nI (fD t s c i)) (nI i) = _
      generalize q_fix (fun _ _ => none) (b_X9_companyLasts_9 v (nI s) I) f = K
      show _ = K (t 9 - nI (if s.testBit i = true then fD t s c i else fD t s c i + pD t c i)) _
      unfold b_X9_companyLasts_9 b_X9_companyLasts_32
      rw [if_neg (nI_ge (by omega) (by decide)), bts s hs i (by omega), u_rd (show i < 8 by omega) (by decide), u_s1, (hw.2 i (by omega)).2, nI_add, sub_s]
      by_cases q : s.testBit i = true
      · rw [if_pos q, if_pos q, if_neg (by decide +kernel)]
      · rw [if_neg q, if_neg q, if_pos nI_0]
  have := lp 8 q_fu 0 rfl (by have := q_fu1; omega)
  rw [(fL_m h P s c hc).2] at this
  rw [u_rd (show 2 < 3 by decide) (by decide), u_s1, h.sc9 rfl, ← this]
  show _ = q_fix (fun _ _ => none) (b_X9_companyLasts_9 v (nI s) I) q_fu (t 9 - nI 0) (nI 0)
  rw [nI_0, Int32.sub_zero]
theorem comM {X : qX} {v j s : Nat} {I J : qI} (h : RV X v I (J 270) j) (hs : s < 256) : f_X12_companyLasts 269 (nI s) J = some (cv (J 270) (J 270 9 - nI (mD (J 270) s (cn (J 270) 2)))) := by
  unfold f_X12_companyLasts
  have b := h.bd
  refine u_seq (F := fun i => nI (mD (J 270) s i)) (n := cn (J 270) 2) (fun k i hi => ?_) (fun k => ?_) (cn (J 270) 2) q_fu 0 (Nat.zero_add _) (by have := q_fu1; omega)
  · have hi12 : i < 12 := by omega
    obtain ⟨m1, -, m2⟩ := h.r_m0 (m := i) hi12
    obtain ⟨k1, -, k2⟩ := h.r_m1 (m := i) hi12
    obtain ⟨w1, -, w2⟩ := h.r_p0 (p := cn (J 270) (80 + 24 * i)) (by omega)
    show _ = k (nI (if J 270 (80 + 24 * i + 9) = 0 ∧ s.testBit (cn (J 270) (80 + 24 * i)) = false then mD (J 270) s i + cn (J 270) (80 + 24 * i + 1) * cn (J 270) (10 + 5 * cn (J 270) (80 + 24 * i)) else mD (J 270) s i)) (nI (i + 1))
    unfold b_X12_companyLasts_4 b_X12_companyLasts_45 b_X12_companyLasts_76 f_X12_manAt
    rw [u_rd (show 2 < 3580 by decide) (by decide), u_s1, show J (269 + 1) = J 270 from rfl, h.k2.1, if_neg (nI_ge hi (by omega)), u_s1, h.goneJ hi12, u_s1, u_mul, nI_add]
    by_cases g : J 270 (80 + 24 * i + 9) = 0
    rotate_left
    · rw [if_neg g, if_neg u_one, if_neg (fun q => g q.1), nI_add, nI_add, Nat.add_zero]
    rw [if_pos g, if_pos rfl, u_rd (show 80 + 24 * i < 3580 by omega) (by decide), u_s1, show J (269 + 1) = J 270 from rfl, m1, bts s hs _ (by omega)]
    by_cases q : s.testBit (cn (J 270) (80 + 24 * i)) = true
    · rw [if_pos q, if_pos rfl, if_neg (fun z => by rw [q] at z; exact absurd z.2 (by decide)), nI_add, nI_add, Nat.add_zero]
    · rw [if_neg q, if_neg (by decide +kernel), nI_add, u_rd (show 80 + 24 * i + 1 < 3580 by omega) (by decide), u_s1, u_s1, u_mul, nI_add, u_rd (show 10 + 5 * cn (J 270) (80 + 24 * i) < 3580 by omega) (by decide), u_s1, show J (269 + 1) = J 270 from rfl, k1, w1, u_mul, nI_add, nI_add, if_pos ⟨g, by simpa using q⟩]
  · unfold b_X12_companyLasts_4 cv
    rw [u_rd (show 2 < 3580 by decide) (by decide), u_s1, show J (269 + 1) = J 270 from rfl, h.k2.1, if_pos (Int32.le_refl _), u_rd (show 9 < 3580 by decide) (by decide), u_s1, u_rd (show 8 < 3580 by decide) (by decide), u_s1, q_least, u_s1, show J (269 + 1) = J 270 from rfl]
    generalize J 270 9 - nI (mD (J 270) s (cn (J 270) 2)) = L
    by_cases z : 0 < L
    · rw [if_pos z, if_pos z, if_neg (fun q => by rw [q] at z; exact absurd z (by decide))]
    · rw [if_neg z, if_neg z]
theorem menM {X : qX} {v j s : Nat} {I J : qI} (h : RV X v I (J 270) j) (hs : s < 256) : f_X12_menLast 269 (nI s) J = some (mv (mL (J 270) (lpr (J 270) 1 (cn (J 270) 1)) s (cn (J 270) 2))) := by
  unfold f_X12_menLast
  have b := h.bd
  have fu := q_fu1
  have P9 := lpr_le h 1 (cn (J 270) 1) (Nat.le_refl _)
  have lp1 : ∀ r f i, i + r = cn (J 270) 1 → r < f → q_fix (fun _ _ => none) (b_X12_menLast_4 269 (nI s) J) f (nI (lpr (J 270) 1 i)) (nI i) = q_fix (fun _ _ _ => none) (b_X12_menLast_70 269 (nI s) J) q_fu (nI (lpr (J 270) 1 (cn (J 270) 1))) (-1) (nI 0) := by
    intro r
    induction r with
    | zero =>
      intro f i h1 h2
      obtain ⟨f, rfl⟩ : ∃ z, f = z + 1 := ⟨f - 1, by omega⟩
      have e : i = cn (J 270) 1 := by omega
      subst e
      show b_X12_menLast_4 269 (nI s) J _ _ _ = _
      unfold b_X12_menLast_4
      rw [u_rd (show 1 < 3580 by decide) (by decide), u_s1, show J (269 + 1) = J 270 from rfl, h.k1.1, if_pos (Int32.le_refl _)]
    | succ r ih =>
      intro f i h1 h2
      obtain ⟨f, rfl⟩ : ∃ z, f = z + 1 := ⟨f - 1, by omega⟩
      rw [← ih f (i + 1) (by omega) (by omega)]
      show b_X12_menLast_4 269 (nI s) J (q_fix (fun _ _ => none) (b_X12_menLast_4 269 (nI s) J) f) _ _ = _
      generalize q_fix (fun _ _ => none) (b_X12_menLast_4 269 (nI s) J) f = K
      obtain ⟨p1, p2, p3⟩ := h.pr (k := i) (by omega)
      obtain ⟨s1, s2⟩ := h.so (k := i) (by omega)
      have l9 := lpr_le h 1 i (by omega)
      show _ = K (nI (if cn (J 270) (50 + 4 * i) = 1 ∧ (lpr (J 270) 1 i = 0 ∨ cn (J 270) (50 + 4 * i + 1) < lpr (J 270) 1 i) then cn (J 270) (50 + 4 * i + 1) else lpr (J 270) 1 i)) _
      unfold b_X12_menLast_4 b_X12_menLast_42 b_X12_menLast_57 b_X12_menLast_58 f_X12_shopAt
      rw [u_rd (show 1 < 3580 by decide) (by decide), u_s1, show J (269 + 1) = J 270 from rfl, h.k1.1, if_neg (nI_ge (by omega) (by omega)), h.townJ (by omega), u_s1]
      simp only [u_s1, u_mul, nI_add]
      rw [u_rd (show 50 + 4 * i + 1 < 3580 by omega) (by decide), u_s1, u_s1, show J (269 + 1) = J 270 from rfl, p1]
      rcases (show cn (J 270) (50 + 4 * i) = 0 ∨ cn (J 270) (50 + 4 * i) = 1 by omega) with q | q
      · rw [if_pos (show J 270 (50 + 4 * i) = 0 by rw [s1, q]; rfl), if_pos rfl, if_neg (fun z => by omega)]
      · rw [if_neg (show ¬ J 270 (50 + 4 * i) = 0 by rw [s1, q]; decide +kernel), if_neg u_one]
        by_cases z : lpr (J 270) 1 i = 0
        · rw [if_pos (by rw [z, nI_0]), if_pos ⟨q, Or.inl z⟩]
        rw [if_neg (nI_ne0 (by omega) (by omega))]
        by_cases y : cn (J 270) (50 + 4 * i + 1) < lpr (J 270) 1 i
        · rw [if_neg (nI_ge y (by omega)), if_pos ⟨q, Or.inr y⟩]
        · rw [if_pos (nI_le (by omega) (by omega)), if_neg (fun w => w.2.elim z y)]
  have l0 := lp1 (cn (J 270) 1) q_fu 0 (Nat.zero_add _) (by omega)
  rw [show q_fix (fun _ _ => none) (b_X12_menLast_4 269 (nI s) J) q_fu (nI 0) (nI 0) = _ from l0]
  generalize hP : lpr (J 270) 1 (cn (J 270) 1) = P at *
  have lp2 : ∀ r f c, c + r = cn (J 270) 2 → r < f → q_fix (fun _ _ _ => none) (b_X12_menLast_70 269 (nI s) J) f (nI P) (enc (mL (J 270) P s c)) (nI c) = some (mv (mL (J 270) P s (cn (J 270) 2))) := by
    intro r
    induction r with
    | zero =>
      intro f c h1 h2
      obtain ⟨f, rfl⟩ : ∃ z, f = z + 1 := ⟨f - 1, by omega⟩
      have e : c = cn (J 270) 2 := by omega
      subst e
      show b_X12_menLast_70 269 (nI s) J _ _ _ _ = _
      unfold b_X12_menLast_70
      rw [u_rd (show 2 < 3580 by decide) (by decide), u_s1, show J (269 + 1) = J 270 from rfl, h.k2.1, if_pos (Int32.le_refl _)]
      have a1 := mL_sm h P s (cn (J 270) 2) b.2.1
      generalize mL (J 270) P s (cn (J 270) 2) = x at a1 ⊢
      cases x with
      | none => rw [if_neg (by decide)]; rfl
      | some d => rw [if_pos ((enc_neg a1).1.mpr (by simp))]; rfl
    | succ r ih =>
      intro f c h1 h2
      obtain ⟨f, rfl⟩ : ∃ z, f = z + 1 := ⟨f - 1, by omega⟩
      rw [← ih f (c + 1) (by omega) (by omega)]
      show b_X12_menLast_70 269 (nI s) J (q_fix (fun _ _ _ => none) (b_X12_menLast_70 269 (nI s) J) f) (nI P) (enc (mL (J 270) P s c)) (nI c) = _
      generalize q_fix (fun _ _ _ => none) (b_X12_menLast_70 269 (nI s) J) f = K
      have hc : c < 12 := by omega
      obtain ⟨n1, -, n2⟩ := h.r_m2 (m := c) hc
      have n0 : 0 < cn (J 270) (80 + 24 * c + 2) := by
        rcases Nat.eq_zero_or_pos (cn (J 270) (80 + 24 * c + 2)) with z | z
        · exact absurd (by rw [n1, z, nI_0]) (h.dd.2.1 c (by omega)).1
        · exact z
      obtain ⟨m1, -, m2⟩ := h.r_m0 (m := c) hc
      obtain ⟨r1, -, r2⟩ := h.r_m3 (m := c) hc
      obtain ⟨s1, -, s2⟩ := h.r_m4 (m := c) hc
      have dl := dys_le h (P := P) hc
      have a1 := mL_sm h P s c (by omega)
      show _ = K (nI P) (enc (if J 270 (80 + 24 * c + 9) = 0 ∧ s.testBit (cn (J 270) (80 + 24 * c)) = true then om (mL (J 270) P s c) (some (dys (J 270) P c)) else mL (J 270) P s c)) (nI (c + 1))
      unfold b_X12_menLast_70 b_X12_menLast_171 f_X12_manAt
      rw [u_rd (show 2 < 3580 by decide) (by decide), u_s1, show J (269 + 1) = J 270 from rfl, h.k2.1, if_neg (nI_ge (by omega) (by omega)), u_s1, h.goneJ hc, u_s1, u_mul, nI_add, nI_add]
      by_cases g : J 270 (80 + 24 * c + 9) = 0
      rotate_left
      · rw [if_neg g, if_neg u_one, if_neg (fun q => g q.1), nI_add]
      rw [if_pos g, if_pos rfl, u_rd (show 80 + 24 * c < 3580 by omega) (by decide), u_s1, show J (269 + 1) = J 270 from rfl, m1, bts s hs _ (by omega)]
      by_cases q : s.testBit (cn (J 270) (80 + 24 * c)) = true
      rotate_left
      · rw [if_neg q, if_neg (by decide +kernel), if_neg (fun z => q z.2), nI_add]
      rw [if_pos q, if_pos rfl, if_pos ⟨g, q⟩, nI_add, u_rd (show 80 + 24 * c + 3 < 3580 by omega) (by decide), u_s1, show J (269 + 1) = J 270 from rfl, r1]
      have key : ∀ s1 : Int32, (nI (cn (J 270) (80 + 24 * c + 3)) + s1) / nI (cn (J 270) (80 + 24 * c + 2)) = nI (dys (J 270) P c) → b_X12_menLast_141 269 (nI s) J K (nI P) (enc (mL (J 270) P s c)) (nI c) (nI (80 + 24 * c)) (nI (cn (J 270) (80 + 24 * c + 3))) s1 = K (nI P) (enc (om (mL (J 270) P s c) (some (dys (J 270) P c)))) (nI (c + 1)) := by
        intro s1 hs1
        unfold b_X12_menLast_141 b_X12_menLast_164 b_X12_menLast_170 b_X12_menLast_171
        rw [nI_add, u_rd (show 80 + 24 * c + 2 < 3580 by omega) (by decide), u_s1, show J (269 + 1) = J 270 from rfl, n1, if_neg (nI_ne0 (by omega) (by omega)), hs1, nI_add]
        generalize mL (J 270) P s c = x at a1 ⊢
        cases x with
        | none => rw [if_pos (by decide)]; rfl
        | some a =>
          have ha := a1 a rfl
          rw [if_neg (show ¬ enc (some a) < 0 from nI_pos (by omega))]
          show (if nI a ≤ nI (dys (J 270) P c) then K _ (nI a) _ else _) = K _ (nI (min a (dys (J 270) P c))) _
          by_cases y : a ≤ dys (J 270) P c
          · rw [if_pos (nI_le y (by omega)), Nat.min_eq_left y]
          · rw [if_neg (nI_ge (by omega) (by omega)), Nat.min_eq_right (by omega)]
      by_cases z : P = 0
      · rw [if_pos (by rw [z, nI_0])]
        refine key _ ?_
        rw [nI_add, u_div (by omega) (by omega)]
        unfold dys
        rw [if_pos z]
      · rw [if_neg (nI_ne0 (by omega) (by omega)), u_rd (show 80 + 24 * c + 4 < 3580 by omega) (by decide), u_s1, if_neg (nI_ne0 (by omega) (by omega)), show J (269 + 1) = J 270 from rfl, s1, u_div (by omega) (by omega)]
        refine key _ ?_
        have := Nat.div_le_self (cn (J 270) (80 + 24 * c + 4)) P
        rw [nI_add, u_div (by omega) (by omega)]
        unfold dys
        rw [if_neg z]
  exact lp2 (cn (J 270) 2) q_fu 0 (Nat.zero_add _) (by omega)
theorem u_25564 (y : Int32) : f_X12_isIn y.toInt64 (0 : Int64) (255 : Int64) = some (if nI 0 ≤ y ∧ y ≤ nI 255 then 1 else 0) := by rw [l64_0, show (255 : Int64) = (nI 255).toInt64 by decide, u_isIn32]
theorem WW.ws {X : qX} {I J : qI} (h : WW X I J) : ∃ I', f_X9_weighStrikes 65 I = some I' ∧ WW X I' J ∧ CF I I' ∧ RV X 65 I' (J 270) 0 ∧ WS 65 (J 270) (lpr (J 270) 1 (cn (J 270) 1)) (cn (J 270) 2) I I' := by
  obtain ⟨I', k1, k2, k3⟩ := ws_all h.rv (by decide)
  obtain ⟨p1, p2, -⟩ := h.put (I' := I') (J' := J) k2 (fun a ha => k3.1 a (by omega) (by omega)) GM.rfl'
  exact ⟨I', k1, p1, p2, k2, k3⟩
theorem W_last {X : qX} (y1 y2 : Int32) : P1 X (f_X11_last 64 y1 y2) (f_X12_last 269 y1 y2) := by
  intro I J h
  have b := h.rv.bd
  unfold f_X11_last f_X12_last
  simp only [u_within, u_25564, ii_0_1, u_s1, u_ib, ite_not]
  by_cases c1 : nI 0 ≤ y1 ∧ y1 ≤ nI 255
  rotate_left
  · rw [if_neg c1, if_neg c1]; exact ⟨_, I, rfl, rfl, h, fun _ _ _ => rfl⟩
  by_cases c2 : nI 0 ≤ y2 ∧ y2 ≤ nI 1
  rotate_left
  · rw [if_pos c1, if_pos c1, if_neg c2, if_neg c2]; exact ⟨_, I, rfl, rfl, h, fun _ _ _ => rfl⟩
  rw [if_pos c1, if_pos c1, if_pos c2, if_pos c2]
  obtain ⟨s, rfl, -, hs⟩ := u_range (by decide) c1.1 c1.2 (by decide)
  obtain ⟨I', k1, k2, k3, k4, k5⟩ := h.ws
  rw [show f_X9_weighStrikes (64 + 1) I = some I' from k1, u_s1]
  by_cases c3 : y2 = 0
  · rw [if_pos c3, if_pos c3, show f_X9_menLast (64 + 1) (nI s) I' = _ from menC k4 (by omega) b.2.1 k5, menM h.rv (by omega)]
    exact ⟨_, I', rfl, rfl, k2, k3⟩
  · rw [if_neg c3, if_neg c3, show f_X9_companyLasts (64 + 1) (nI s) I' = _ from comC k4 (by omega) b.2.1 k5, comM h.rv (by omega)]
    exact ⟨_, I', rfl, rfl, k2, k3⟩
theorem ones_bc : ∀ s, s < 256 → ∃ k, k < 256 ∧ f_J6_bitCount_0f7a4 (nI s) = some (nI k) ∧ f_X12_ones (nI s) = some (nI k) := by decide +kernel
theorem W_least {X : qX} : P1 X (f_X11_least 64) (f_X12_least_ 269) := by
  intro I J h
  have b := h.rv.bd
  unfold f_X11_least f_X12_least_ f_X9_leastStrike
  obtain ⟨I', k1, k2, k3, k4, k5⟩ := h.ws
  rw [show f_X9_weighStrikes (64 + 1) I = some I' from k1, u_s1]
  have lp : ∀ r f g s o, s + r = 256 → 1 ≤ s → r < f → r < g → o < 256 → ∃ z, z < 256 ∧ q_fix (fun _ _ => none) (b_X9_leastStrike_4 (64 + 1) I') f (nI o) (nI s) = some (nI z) ∧ q_fix (fun _ _ => none) (b_X12_least__5 269 J) g (if o = 0 then -1000000005 else nI o) (nI s) = some (if z = 0 then -1000000005 else nI z) := by
    intro r
    induction r with
    | zero =>
      intro f g s o h1 hs1 h2 h3 ho
      obtain ⟨f, rfl⟩ : ∃ z, f = z + 1 := ⟨f - 1, by omega⟩
      obtain ⟨g, rfl⟩ : ∃ z, g = z + 1 := ⟨g - 1, by omega⟩
      have e : s = 256 := by omega
      subst e
      refine ⟨o, ho, ?_, ?_⟩
      · show b_X9_leastStrike_4 (64 + 1) I' _ _ _ = _
        unfold b_X9_leastStrike_4
        rw [if_pos (Int32.le_refl _)]
      · show b_X12_least__5 269 J _ _ _ = _
        unfold b_X12_least__5
        rw [if_pos (Int32.le_refl _)]
    | succ r ih =>
      intro f g s o h1 hs1 h2 h3 ho
      obtain ⟨f, rfl⟩ : ∃ z, f = z + 1 := ⟨f - 1, by omega⟩
      obtain ⟨g, rfl⟩ : ∃ z, g = z + 1 := ⟨g - 1, by omega⟩
      have ih1 := ih f g (s + 1) o (by omega) (by omega) (by omega) (by omega) ho
      have ih2 := ih f g (s + 1) s (by omega) (by omega) (by omega) (by omega) (by omega)
      show ∃ z, z < 256 ∧ b_X9_leastStrike_4 (64 + 1) I' (q_fix (fun _ _ => none) (b_X9_leastStrike_4 (64 + 1) I') f) (nI o) (nI s) = some (nI z) ∧ b_X12_least__5 269 J (q_fix (fun _ _ => none) (b_X12_least__5 269 J) g) (if o = 0 then -1000000005 else nI o) (nI s) = some (if z = 0 then -1000000005 else nI z)
      generalize q_fix (fun _ _ => none) (b_X9_leastStrike_4 (64 + 1) I') f = KC at *
      generalize q_fix (fun _ _ => none) (b_X12_least__5 269 J) g = KM at *
      rw [if_neg (show ¬ s = 0 by omega)] at ih2
      have mid : ∃ z, z < 256 ∧ b_X9_leastStrike_29 (64 + 1) I' KC (nI o) (nI s) = some (nI z) ∧ b_X12_least__27 269 J KM (if o = 0 then -1000000005 else nI o) (nI s) = some (if z = 0 then -1000000005 else nI z) := by
        unfold b_X9_leastStrike_29 b_X12_least__27 b_X9_leastStrike_44 b_X12_least__42
        rw [show f_X9_menLast (64 + 1) (nI s) I' = _ from menC k4 (by omega) b.2.1 k5, menM h.rv (by omega), show f_X9_companyLasts (64 + 1) (nI s) I' = _ from comC k4 (by omega) b.2.1 k5, comM h.rv (by omega), u_s1, u_s1, u_s1, u_s1, nI_add]
        generalize mv (mL (J 270) (lpr (J 270) 1 (cn (J 270) 1)) s (cn (J 270) 2)) = A
        generalize cv (J 270) (J 270 9 - nI (mD (J 270) s (cn (J 270) 2))) = B
        by_cases q : A ≤ B
        · rw [if_pos q, if_pos q]; exact ih1
        · rw [if_neg q, if_neg q]; exact ih2
      unfold b_X9_leastStrike_4 b_X12_least__5
      rw [if_neg (nI_ge (by omega) (by decide)), if_neg (nI_ge (by omega) (by decide))]
      by_cases z : o = 0
      · subst z
        rw [if_pos nI_0, if_pos rfl, if_pos (by decide)]
        rw [if_pos rfl] at mid
        exact mid
      · rw [if_neg z] at mid ih1 ⊢
        obtain ⟨e, -, e1, e2⟩ := ones_bc s (by omega)
        obtain ⟨u, -, u1, u2⟩ := ones_bc o ho
        rw [if_neg (nI_ne0 (by omega) (by omega)), if_neg (nI_pos (by omega)), e1, u1, e2, u2, u_s1, u_s1, u_s1, u_s1]
        unfold b_X9_leastStrike_44 b_X12_least__42
        rw [nI_add]
        by_cases q : nI e < nI u
        · rw [if_pos q, if_neg (Int32.not_le.mpr q)]; exact mid
        · rw [if_neg q, if_pos (Int32.not_lt.mp q)]; exact ih1
  obtain ⟨z, z1, z2, z3⟩ := lp 255 q_fu q_fu 1 0 rfl (by decide) (by have := q_fu2; omega) (by have := q_fu2; omega) (by decide)
  rw [z2, u_s1, show q_fix (fun _ _ => none) (b_X12_least__5 269 J) q_fu (-1000000005) (nI 1) = _ from z3]
  by_cases e : z = 0
  · rw [if_pos (by rw [e, nI_0]), if_pos e]
    exact ⟨_, I', rfl, rfl, k2, k3⟩
  · rw [if_neg (nI_ne0 (by omega) (by omega)), if_neg e]
    exact ⟨_, I', rfl, rfl, k2, k3⟩
