/-! LEVEL B: a day: news, the loops -/
theorem RV.pp {X : qX} {v : Nat} {I : qI} {t : Nat → Int32} {j : Nat} (h : RV X v I t j) {m : Nat} (hm : m < 12) : t (80 + 24 * m) = nI (cn t (80 + 24 * m)) ∧ cn t (80 + 24 * m) < 8 := ⟨(h.r_m0 hm).1, by have := (h.r_m0 (m := m) hm).2.2; omega⟩
theorem RV.hd0 {X : qX} {v : Nat} {I : qI} {t : Nat → Int32} {j : Nat} (h : RV X v I t j) {m k : Nat} (hm : m < 12) (hk : k < 6) : (t (80 + 24 * m + 18 + k) = -1 ∧ t (80 + 24 * m + 18 + k) < 0) ∨ (¬ t (80 + 24 * m + 18 + k) = -1 ∧ ¬ t (80 + 24 * m + 18 + k) < 0 ∧ inR 0 7099 (t (80 + 24 * m + 18 + k))) := by
  rcases h.r_h hm hk with e | ⟨e1, -, e2⟩
  · left; rw [e]; exact ⟨rfl, by decide⟩
  · right
    refine ⟨fun q => ?_, by rw [e1]; exact nI_pos (by omega), ⟨_, e1, by omega, e2⟩⟩
    have := nI_pos (n := cn t (80 + 24 * m + 18 + k)) (by omega)
    rw [← e1, q] at this
    exact this (by decide)
/-- no one found yet -/
theorem tl0 {X : qX} {v j k : Nat} {t : Nat → Int32} (hv : v ≤ 195) : ∀ r f i (I : qI), i + r = 8 → r < f → RV X v I t j → (∀ p, p < i → I (v + 62) p = -1) → ∃ I', q_fix (fun _ _ => none) (b_X9_spreadNews_2 v (nI k)) f (nI i) I = q_fix (fun _ _ => none) (b_X9_spreadNews_23 v (nI k)) q_fu (nI 0) I' ∧ RV X v I' t j ∧ FC v I I' ∧ ∀ p, p < 8 → I' (v + 62) p = -1 := by
  intro r
  induction r with
  | zero =>
    intro f i I h1 h2 h hp
    obtain ⟨f, rfl⟩ : ∃ z, f = z + 1 := ⟨f - 1, by omega⟩
    have e : i = 8 := by omega
    subst e
    refine ⟨I, ?_, h, FC.rfl', hp⟩
    show b_X9_spreadNews_2 v (nI k) (q_fix _ _ f) (nI 8) I = _
    unfold b_X9_spreadNews_2
    rw [if_pos (Int32.le_refl _)]
  | succ r ih =>
    intro f i I h1 h2 h hp
    obtain ⟨f, rfl⟩ : ∃ z, f = z + 1 := ⟨f - 1, by omega⟩
    obtain ⟨I', g1, g2, g3, g4⟩ := ih f (i + 1) (q_up I (v + 62) i (-1)) (by omega) (by omega) (h.own hv (by decide)) (fun p hp' => by
      by_cases e : p = i
      · subst e; exact u_up_same
      · rw [u_up_j e]; exact hp p (by omega))
    refine ⟨I', ?_, g2, (FC.rfl'.up (by omega) (by omega)).tr g3, g4⟩
    show b_X9_spreadNews_2 v (nI k) (q_fix _ _ f) (nI i) I = _
    unfold b_X9_spreadNews_2
    rw [if_neg (nI_ge (by omega) (by decide)), u_wr (show i < 8 by omega) (by decide), u_s1, nI_add]
    exact g1
/-- who tells, for all pits -/
theorem tl1 {X : qX} {v j k : Nat} {t : Nat → Int32} (hv : v ≤ 195) (hk : k < 6) : ∀ r f i (I : qI), i + r = cn t 2 → r < f → RV X v I t j → (∀ p, p < 8 → I (v + 62) p = bF t k p i) → ∃ I', q_fix (fun _ _ => none) (b_X9_spreadNews_23 v (nI k)) f (nI i) I = q_fix (fun _ _ => none) (b_X9_spreadNews_123 v (nI k)) q_fu (nI 0) I' ∧ RV X v I' t j ∧ FC v I I' ∧ ∀ p, p < 8 → I' (v + 62) p = bF t k p (cn t 2) := by
  intro r
  induction r with
  | zero =>
    intro f i I h1 h2 h hp
    obtain ⟨f, rfl⟩ : ∃ z, f = z + 1 := ⟨f - 1, by omega⟩
    have e : i = cn t 2 := by omega
    subst e
    refine ⟨I, ?_, h, FC.rfl', hp⟩
    show b_X9_spreadNews_23 v (nI k) (q_fix _ _ f) (nI _) I = _
    unfold b_X9_spreadNews_23
    rw [h.sc2 rfl, h.k2.1, if_pos (Int32.le_refl _)]
  | succ r ih =>
    intro f i I h1 h2 h hp
    obtain ⟨f, rfl⟩ : ∃ z, f = z + 1 := ⟨f - 1, by omega⟩
    have b := h.bd
    have hi : i < 12 := by omega
    obtain ⟨p1, p2⟩ := h.pp (m := i) hi
    have ih' := fun I => ih f (i + 1) I (by omega) (by omega)
    show ∃ I', b_X9_spreadNews_23 v (nI k) (q_fix (fun _ _ => none) (b_X9_spreadNews_23 v (nI k)) f) (nI i) I = _ ∧ _
    generalize q_fix (fun _ _ => none) (b_X9_spreadNews_23 v (nI k)) f = KC at ih' ⊢
    unfold b_X9_spreadNews_23 b_X9_spreadNews_115 b_X9_spreadNews_100 b_X9_spreadNews_115 f_X2_knows f_X2_dayKnown
    rw [h.sc2 rfl, h.k2.1, if_neg (nI_ge (by omega) (by omega)), h.gone rfl hi, u_s1, u_mul, nI_add, u_rd (show i * 6 + k < 72 by omega) (by decide), u_s1, u_s1, h.hd (m := i) (k := k) rfl (by omega) hk (by omega), u_rd hi (by decide), u_s1, u_s1, h.m0 rfl hi, p1, u_rd p2 (by decide), u_s1, hp _ p2, u_wr p2 (by decide), u_s1, nI_add]
    -- nothing new for any pit
    have keep : (∀ p, p < 8 → gB t k p i (bF t k p i) = bF t k p i) → ∃ I', KC (nI (i + 1)) I = q_fix (fun _ _ => none) (b_X9_spreadNews_123 v (nI k)) q_fu (nI 0) I' ∧ RV X v I' t j ∧ FC v I I' ∧ ∀ p, p < 8 → I' (v + 62) p = bF t k p (cn t 2) := fun q => ih' I h (fun p hp8 => by rw [hp p hp8]; exact (q p hp8).symm)
    have take : gB t k (cn t (80 + 24 * i)) i (bF t k (cn t (80 + 24 * i)) i) = nI i → ∃ I', KC (nI (i + 1)) (q_up I (v + 62) (cn t (80 + 24 * i)) (nI i)) = q_fix (fun _ _ => none) (b_X9_spreadNews_123 v (nI k)) q_fu (nI 0) I' ∧ RV X v I' t j ∧ FC v I I' ∧ ∀ p, p < 8 → I' (v + 62) p = bF t k p (cn t 2) := fun q => by
      obtain ⟨I', g1, g2, g3, g4⟩ := ih' (q_up I (v + 62) (cn t (80 + 24 * i)) (nI i)) (h.own hv (by decide)) (fun p hp8 => by
        show _ = gB t k p i (bF t k p i)
        by_cases e : p = cn t (80 + 24 * i)
        · subst e; rw [u_up_same]; exact q.symm
        · rw [u_up_j e, hp p hp8]
          unfold gB
          rw [if_neg (fun z => e ((nI_eq (by omega) (by omega)).mp (z.1.symm.trans p1)))])
      exact ⟨I', g1, g2, (FC.rfl'.up (by omega) (by omega)).tr g3, g4⟩
    by_cases c1 : t (80 + 24 * i + 9) = 0
    rotate_left
    · rw [if_neg c1, if_neg u_one]
      exact keep (fun p _ => by unfold gB; rw [if_neg (fun z => c1 z.2.1)])
    rw [if_pos c1, if_pos rfl]
    rcases h.hd0 hi hk with ⟨e1, e2⟩ | ⟨e1, e2, -⟩
    · rw [if_pos e1, u_s1, if_pos nI_0]
      exact keep (fun p _ => by unfold gB; rw [if_neg (fun z => z.2.2.1 e2)])
    rw [if_neg e1, u_s1, if_neg (show ¬ nI 1 = 0 by decide +kernel)]
    rcases bF_P t k (cn t (80 + 24 * i)) i with e | ⟨q, a1, a2, a3, a4, a5⟩
    · have l : bF t k (cn t (80 + 24 * i)) i < 0 := by rw [e]; decide
      rw [if_pos l]
      exact take (by unfold gB; rw [if_pos ⟨p1, c1, e2, Or.inl l⟩])
    · have l : ¬ bF t k (cn t (80 + 24 * i)) i < 0 := by rw [a2]; exact nI_pos (by omega)
      rw [if_neg l, a2, u_mul, nI_add, u_rd (show q * 6 + k < 72 by omega) (by decide), h.hd (m := q) (k := k) rfl (by omega) hk (by omega)]
      simp only [u_s1]
      have gq : gB t k (cn t (80 + 24 * i)) i (bF t k (cn t (80 + 24 * i)) i) = if t (80 + 24 * i + 18 + k) ≤ t (80 + 24 * q + 18 + k) then bF t k (cn t (80 + 24 * i)) i else nI i := by
        unfold gB
        rw [a2, nI_clamp (by omega)]
        by_cases c3 : t (80 + 24 * i + 18 + k) ≤ t (80 + 24 * q + 18 + k)
        · rw [if_pos c3, if_neg (fun z => z.2.2.2.elim (nI_pos (by omega)) (fun y => y c3))]
        · rw [if_neg c3, if_pos ⟨p1, c1, e2, Or.inr c3⟩]
      by_cases c3 : t (80 + 24 * i + 18 + k) ≤ t (80 + 24 * q + 18 + k)
      · rw [if_pos c3]
        rw [if_pos c3] at gq
        refine keep (fun p hp8 => ?_)
        by_cases e : p = cn t (80 + 24 * i)
        · subst e; exact gq
        · unfold gB
          rw [if_neg (fun z => e ((nI_eq (by omega) (by omega)).mp (z.1.symm.trans p1)))]
      · rw [if_neg c3]
        rw [if_neg c3] at gq
        exact take gq
def nqC (k i m' k' : Nat) : Bool := decide (k' < k ∨ (k' = k ∧ m' < i))
/-- all learn -/
theorem tl2 {X : qX} {v j k : Nat} {t : Nat → Int32} (hv : v ≤ 195) (hk : k < 6) (hR : ∀ m, m < 12 → (t (80 + 24 * m) = nI (cn t (80 + 24 * m)) ∧ cn t (80 + 24 * m) < 8)) (hH : ∀ m, m < 12 → ¬ t (80 + 24 * m + 18 + k) < 0 → inR 0 7099 (t (80 + 24 * m + 18 + k))) (hc12 : cn t 2 ≤ 12) : ∀ r f i (I : qI), i + r = cn t 2 → r < f → RV X v I (nwT t (nqC k i)) j → (∀ p, p < 8 → I (v + 62) p = bF t k p (cn t 2)) → ∃ I', q_fix (fun _ _ => none) (b_X9_spreadNews_123 v (nI k)) f (nI i) I = some I' ∧ RV X v I' (nwT t (nqC k (cn t 2))) j ∧ FC v I I' := by
  intro r
  induction r with
  | zero =>
    intro f i I h1 h2 h hp
    obtain ⟨f, rfl⟩ : ∃ z, f = z + 1 := ⟨f - 1, by omega⟩
    have e : i = cn t 2 := by omega
    subst e
    refine ⟨I, ?_, h, FC.rfl'⟩
    show b_X9_spreadNews_123 v (nI k) (q_fix _ _ f) (nI _) I = _
    unfold b_X9_spreadNews_123
    rw [h.sc2 rfl, h.k2.1, nw_cn (by omega), if_pos (Int32.le_refl _)]
  | succ r ih =>
    intro f i I h1 h2 h hp
    obtain ⟨f, rfl⟩ : ∃ z, f = z + 1 := ⟨f - 1, by omega⟩
    have hi : i < 12 := by omega
    obtain ⟨p1, p2⟩ := hR i hi
    have ih' := fun I => ih f (i + 1) I (by omega) (by omega)
    have c2' : cn (nwT t (nqC k i)) 2 = cn t 2 := nw_cn (by omega)
    have step := nw_s (t := t) (Q := nqC k i) (Q' := nqC k (i + 1)) (m := i) (k := k) (by omega) hc12 hk (fun m' k' _ _ hne => by unfold nqC; congr 1; exact propext ⟨fun z => by omega, fun z => by omega⟩) (by unfold nqC; exact decide_eq_true (by omega))
    have q0 : nwT t (fun a b => if a = i ∧ b = k then false else nqC k i a b) = nwT t (nqC k i) := nw_cg (fun m' k' _ _ => by
      by_cases e : m' = i ∧ k' = k
      · rw [if_pos e]; unfold nqC; exact (decide_eq_false (by omega)).symm
      · rw [if_neg e])
    rw [q0] at step
    show ∃ I', b_X9_spreadNews_123 v (nI k) (q_fix (fun _ _ => none) (b_X9_spreadNews_123 v (nI k)) f) (nI i) I = _ ∧ _
    generalize q_fix (fun _ _ => none) (b_X9_spreadNews_123 v (nI k)) f = KC at ih' ⊢
    unfold b_X9_spreadNews_123 b_X9_spreadNews_194 f_X2_priceKnown f_X2_dayKnown
    rw [h.sc2 rfl, h.k2.1, c2', if_neg (nI_ge (by omega) (by omega)), u_rd hi (by decide), u_s1, h.m0 rfl hi, nw_o (by omega), p1, u_rd p2 (by decide), u_s1, hp _ p2, h.gone rfl hi, u_s1, nw_o (by omega), nI_add i 1]
    by_cases c1 : t (80 + 24 * i + 9) = 0
    rotate_left
    · rw [if_neg c1, if_neg u_one]
      rw [if_neg (fun z => c1 z.1)] at step
      exact ih' I (by rw [step]; exact h) hp
    rw [if_pos c1, if_pos rfl]
    rcases bF_P t k (cn t (80 + 24 * i)) (cn t 2) with e | ⟨q, a1, a2, a3, a4, a5⟩
    · have l : bF t k (cn t (80 + 24 * i)) (cn t 2) < 0 := by rw [e]; decide
      rw [if_neg (Int32.not_le.mpr l)]
      rw [if_neg (fun z => z.2 l)] at step
      exact ih' I (by rw [step]; exact h) hp
    · have l : ¬ bF t k (cn t (80 + 24 * i)) (cn t 2) < 0 := by rw [a2]; exact nI_pos (by omega)
      rw [if_pos ⟨c1, l⟩, a2, nI_clamp (by omega)] at step
      have hq12 : q < 12 := by omega
      have pq : cn t (80 + 24 * q) = cn t (80 + 24 * i) := by unfold cn at a3 ⊢; rw [a3]; exact nI_clamp (by have := p2; unfold cn at this; omega)
      have vk : nwT t (nqC k i) (80 + 24 * q + 12 + k) = t (80 + 24 * q + 12 + k) := by
        rw [nw_k hq12 hk]
        by_cases z : nwc t (nqC k i) q k
        · rw [if_pos z, pq, a2, nI_clamp (by omega)]
        · rw [if_neg z]
      have vh : nwT t (nqC k i) (80 + 24 * q + 18 + k) = t (80 + 24 * q + 18 + k) := by
        rw [nw_h hq12 hk]
        by_cases z : nwc t (nqC k i) q k
        · rw [if_pos z, pq, a2, nI_clamp (by omega)]
        · rw [if_neg z]
      rw [if_pos (Int32.not_lt.mp l), a2, u_mul, nI_add, u_rd (show q * 6 + k < 72 by omega) (by decide), u_s1, u_s1, h.kn (m := q) (k := k) rfl hq12 hk (by omega), vk, u_rd (show q * 6 + k < 72 by omega) (by decide), u_s1, u_s1, h.hd (m := q) (k := k) rfl (by rw [c2']; omega) hk (by omega), vh, learn_ev rfl hi hk, u_s1]
      obtain ⟨I', g1, g2, g3⟩ := ih' (lnI I v i k (t (80 + 24 * q + 12 + k)) (t (80 + 24 * q + 18 + k))) (by rw [step]; exact h.learn hv (by rw [c2']; omega) hk _ (hH q hq12 a5)) (fun p hp8 => by unfold lnI; rw [u_up_a (by omega), u_up_a (by omega)]; exact hp p hp8)
      exact ⟨I', g1, g2, (lnI_FC _ _ _ _ _ _).tr g3⟩
