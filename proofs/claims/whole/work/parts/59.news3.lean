/-! LEVEL B: a day: news, all of it -/
theorem nw_cg2 {t : Nat → Int32} {Q Q' : Nat → Nat → Bool} (h : ∀ m k, m < cn t 2 → k < 6 → (nwc t Q m k ↔ nwc t Q' m k)) : nwT t Q = nwT t Q' := by
  funext z
  unfold nwT
  by_cases c : 80 ≤ z ∧ z < 368 ∧ 12 ≤ (z - 80) % 24
  rotate_left
  · rw [if_neg (fun q => c q.1), if_neg (fun q => c q.1)]
  have hk : nwk ((z - 80) % 24) < 6 := by unfold nwk; by_cases d : (z - 80) % 24 < 18 <;> simp only [d, if_true, if_false] <;> omega
  by_cases hm : (z - 80) / 24 < cn t 2
  · simp only [h _ _ hm hk]
  · rw [if_neg (fun q => hm q.2.1), if_neg (fun q => hm q.2.1)]
theorem spr {X : qX} {v j k : Nat} {t : Nat → Int32} {I0 I : qI} (h0 : RV X v I0 t j) (hv : v ≤ 195) (hk : k < 6) (h : RV X v I (nwT t (nqC k 0)) j) : ∃ I', f_X9_spreadNews v (nI k) I = some I' ∧ RV X v I' (nwT t (nqC (k + 1) 0)) j ∧ FC v I I' := by
  have b := h0.bd
  have fu : ∀ {n : Nat}, n ≤ 60 → n < q_fu := fun hn => by have := q_fu1; omega
  have c2 : cn (nwT t (nqC k 0)) 2 = cn t 2 := nw_cn (by omega)
  unfold f_X9_spreadNews
  obtain ⟨I1, a1, a2, a3, a4⟩ := tl0 (k := k) hv 8 q_fu 0 I (by decide) (fu (by decide)) h (fun p hp => by omega)
  obtain ⟨I2, b1, b2, b3, b4⟩ := tl1 (k := k) hv hk (cn (nwT t (nqC k 0)) 2) q_fu 0 I1 (Nat.zero_add _) (fu (by omega)) a2 (fun p hp => a4 p hp)
  obtain ⟨I3, c1, c3, c4⟩ := tl2 (k := k) (t := t) hv hk (fun m hm => h0.pp hm) (fun m hm hq => by rcases h0.hd0 hm hk with ⟨-, z⟩ | ⟨-, -, z⟩; exact absurd z hq; exact z) b.2.1 (cn t 2) q_fu 0 I2 (Nat.zero_add _) (fu (by omega)) b2 (fun p hp => by rw [b4 p hp, c2, bF_nw b.2.1 hk (fun m _ _ => by unfold nqC; exact decide_eq_false (by omega)) _ (Nat.le_refl _)])
  refine ⟨I3, by rw [a1, b1]; exact c1, ?_, (a3.tr b3).tr c4⟩
  rw [nw_cg (Q' := nqC k (cn t 2)) (fun m k' hm _ => by unfold nqC; congr 1; exact propext ⟨fun z => by omega, fun z => by omega⟩)]
  exact c3
theorem goneT {J : qI} {m : Nat} (hm : m < 12) (h : J 270 (80 + 24 * m + 9) = 0 ∨ J 270 (80 + 24 * m + 9) = 1) : f_X12_isGone 269 (nI m) J = some (if J 270 (80 + 24 * m + 9) = 0 then 0 else 1) := by
  unfold f_X12_isGone f_X12_manAt
  rw [u_s1, u_mul, nI_add, nI_add, u_rd (by omega) (by decide), u_s1]
  rcases h with e | e
  · rw [e]; rfl
  · rw [e]; rfl
/-- the model seeks who tells -/
theorem nM1 {J : qI} {p k n : Nat} (hp : p < 8) (hk : k < 6) (h2 : J 270 2 = nI n) (hn : n ≤ 12) (hg : ∀ m, m < n → (J 270 (80 + 24 * m + 9) = 0 ∨ J 270 (80 + 24 * m + 9) = 1)) : ∀ r f i, i + r = n → r < f → q_fix (fun _ _ _ => none) (b_X12_news_5 269 (nI p) (nI k)) f (bF (J 270) k p i) (nI i) J = q_fix (fun _ _ _ => none) (b_X12_news_125 269 (nI p) (nI k)) q_fu (bF (J 270) k p n) (nI 0) J := by
  intro r
  induction r with
  | zero =>
    intro f i h1 h3
    obtain ⟨f, rfl⟩ : ∃ z, f = z + 1 := ⟨f - 1, by omega⟩
    have e : i = n := by omega
    subst e
    show b_X12_news_5 269 (nI p) (nI k) (q_fix _ _ f) (bF (J 270) k p i) (nI i) J = _
    unfold b_X12_news_5
    rw [u_rd (by decide) (by decide), u_s1, h2, if_pos (Int32.le_refl _)]
  | succ r ih =>
    intro f i h1 h3
    obtain ⟨f, rfl⟩ : ∃ z, f = z + 1 := ⟨f - 1, by omega⟩
    have hi : i < 12 := by omega
    have ih' := ih f (i + 1) (by omega) (by omega)
    show b_X12_news_5 269 (nI p) (nI k) (q_fix (fun _ _ _ => none) (b_X12_news_5 269 (nI p) (nI k)) f) (bF (J 270) k p i) (nI i) J = _
    rw [← ih']
    generalize q_fix (fun _ _ _ => none) (b_X12_news_5 269 (nI p) (nI k)) f = KM
    show _ = KM (gB (J 270) k p i (bF (J 270) k p i)) (nI (i + 1)) J
    unfold b_X12_news_5 b_X12_news_63 b_X12_news_64 b_X12_news_114 b_X12_news_109 b_X12_news_115 f_X12_manAt gB
    simp only [u_s1, u_mul, nI_add]
    rw [u_rd (by decide) (by decide), u_s1, h2, if_neg (nI_ge (by omega) (by omega)), u_rd (show 80 + 24 * i < 3580 by omega) (by decide), u_s1, goneT hi (hg i (by omega)), u_s1, u_rd (show 80 + 24 * i + 18 + k < 3580 by omega) (by decide), u_s1, u_s1, if_pos nI_0, if_neg (show ¬ nI 1 = 0 by decide +kernel), show J (269 + 1) = J 270 from rfl]
    by_cases c1 : J 270 (80 + 24 * i) = nI p
    rotate_left
    · rw [if_neg c1, if_neg (fun z => c1 z.1)]
    by_cases c2 : J 270 (80 + 24 * i + 9) = 0
    rotate_left
    · rw [if_pos c1, if_neg c2, if_neg u_one, if_neg (fun z => c2 z.2.1)]
    by_cases c3 : J 270 (80 + 24 * i + 18 + k) < 0
    · rw [if_pos c1, if_pos c2, if_pos rfl, if_pos c3, if_neg (fun z => z.2.2.1 c3)]
    rw [if_pos c1, if_pos c2, if_pos rfl, if_neg c3]
    rcases bF_P (J 270) k p i with e | ⟨q, a1, a2, a3, a4, a5⟩
    · have l : bF (J 270) k p i < 0 := by rw [e]; decide
      rw [if_pos l, if_pos ⟨c1, c2, c3, Or.inl l⟩]
    · rw [a2, if_neg (nI_pos (by omega)), u_mul, nI_add, nI_add, nI_add, u_rd (show 80 + 24 * q + 18 + k < 3580 by omega) (by decide), u_s1, nI_clamp (by omega), show J (269 + 1) = J 270 from rfl]
      by_cases c4 : J 270 (80 + 24 * i + 18 + k) ≤ J 270 (80 + 24 * q + 18 + k)
      · rw [if_pos c4, if_neg (fun z => z.2.2.2.elim (nI_pos (by omega)) (fun y => y c4))]
      · rw [if_neg c4, if_pos ⟨c1, c2, c3, Or.inr c4⟩]
def nqM (t : Nat → Int32) (c p k i m' k' : Nat) : Bool := decide ((cn t (80 + 24 * m') < p ∧ k' < c) ∨ (cn t (80 + 24 * m') = p ∧ (k' < k ∨ (k' = k ∧ m' < i))))
/-- ... and all of the pit learn -/
theorem nM2 {t : Nat → Int32} {p k c : Nat} (hp : p < 8) (hk : k < 6) (hkc : k < c) (h2 : t 2 = nI (cn t 2)) (hc12 : cn t 2 ≤ 12) (hR : ∀ m, m < 12 → (t (80 + 24 * m) = nI (cn t (80 + 24 * m)) ∧ cn t (80 + 24 * m) < 8)) (hg : ∀ m, m < 12 → (t (80 + 24 * m + 9) = 0 ∨ t (80 + 24 * m + 9) = 1)) : ∀ r f i (J : qI), i + r = cn t 2 → r < f → J 270 = nwT t (nqM t c p k i) → ∃ J', q_fix (fun _ _ _ => none) (b_X12_news_125 269 (nI p) (nI k)) f (bF t k p (cn t 2)) (nI i) J = some J' ∧ J' 270 = nwT t (nqM t c p k (cn t 2)) ∧ GM J J' := by
  intro r
  induction r with
  | zero =>
    intro f i J h1 h3 hJ
    obtain ⟨f, rfl⟩ : ∃ z, f = z + 1 := ⟨f - 1, by omega⟩
    have e : i = cn t 2 := by omega
    subst e
    refine ⟨J, ?_, hJ, GM.rfl'⟩
    show b_X12_news_125 269 (nI p) (nI k) (q_fix _ _ f) (bF t k p (cn t 2)) (nI _) J = _
    unfold b_X12_news_125
    rw [u_rd (by decide) (by decide), u_s1, show J (269 + 1) 2 = nI (cn t 2) by rw [show J (269 + 1) = _ from hJ, nw_o (by omega), ← h2], if_pos (Int32.le_refl _)]
  | succ r ih =>
    intro f i J h1 h3 hJ
    obtain ⟨f, rfl⟩ : ∃ z, f = z + 1 := ⟨f - 1, by omega⟩
    have hi : i < 12 := by omega
    obtain ⟨p1, p2⟩ := hR i hi
    have ih' := fun J => ih f (i + 1) J (by omega) (by omega)
    show ∃ J', b_X12_news_125 269 (nI p) (nI k) (q_fix (fun _ _ _ => none) (b_X12_news_125 269 (nI p) (nI k)) f) (bF t k p (cn t 2)) (nI i) J = some J' ∧ _
    generalize q_fix (fun _ _ _ => none) (b_X12_news_125 269 (nI p) (nI k)) f = KM at ih' ⊢
    have g9 : J 270 (80 + 24 * i + 9) = t (80 + 24 * i + 9) := by rw [hJ, nw_o (by omega)]
    unfold b_X12_news_125 b_X12_news_226 f_X12_manAt
    rw [u_rd (by decide) (by decide), u_s1, show J (269 + 1) 2 = nI (cn t 2) by rw [show J (269 + 1) = _ from hJ, nw_o (by omega), ← h2], if_neg (nI_ge (by omega) (by omega))]
    rcases bF_P t k p (cn t 2) with e | ⟨q, a1, a2, a3, a4, a5⟩
    · have l : bF t k p (cn t 2) < 0 := by rw [e]; decide
      rw [if_pos l]
      refine ⟨J, rfl, ?_, GM.rfl'⟩
      rw [hJ]
      refine nw_cg2 (fun m k' hm hk' => ?_)
      by_cases z : cn t (80 + 24 * m) = p ∧ k' = k
      · obtain ⟨z1, rfl⟩ := z
        exact ⟨fun y => absurd (by rw [z1]; exact l) y.2.2.2, fun y => absurd (by rw [z1]; exact l) y.2.2.2⟩
      · have : nqM t c p k i m k' = nqM t c p k (cn t 2) m k' := by unfold nqM; congr 1; exact propext ⟨fun y => by omega, fun y => by omega⟩
        unfold nwc; rw [this]
    · have l : ¬ bF t k p (cn t 2) < 0 := by rw [a2]; exact nI_pos (by omega)
      have hq12 : q < 12 := by omega
      rw [if_neg l, u_s1, u_mul, nI_add, u_rd (show 80 + 24 * i < 3580 by omega) (by decide), u_s1, show J (269 + 1) (80 + 24 * i) = nI (cn t (80 + 24 * i)) by rw [show J (269 + 1) = _ from hJ, nw_o (by omega), ← p1], goneT hi (by rw [g9]; exact hg i hi), u_s1, g9, nI_add i 1]
      have skip : ¬ (cn t (80 + 24 * i) = p ∧ t (80 + 24 * i + 9) = 0) → ∃ J', KM (bF t k p (cn t 2)) (nI (i + 1)) J = some J' ∧ J' 270 = nwT t (nqM t c p k (cn t 2)) ∧ GM J J' := by
        intro hs
        refine ih' J ?_
        rw [hJ]
        refine nw_cg2 (fun m k' hm hk' => ?_)
        by_cases z : m = i ∧ k' = k ∧ cn t (80 + 24 * m) = p
        · obtain ⟨rfl, rfl, z3⟩ := z
          exact ⟨fun y => absurd ⟨z3, y.2.2.1⟩ hs, fun y => absurd ⟨z3, y.2.2.1⟩ hs⟩
        · have : nqM t c p k i m k' = nqM t c p k (i + 1) m k' := by unfold nqM; congr 1; exact propext ⟨fun y => by omega, fun y => by omega⟩
          unfold nwc; rw [this]
      by_cases c1 : cn t (80 + 24 * i) = p
      rotate_left
      · rw [if_neg (nE (by omega) (by omega) c1)]
        exact skip (fun z => c1 z.1)
      by_cases c2 : t (80 + 24 * i + 9) = 0
      rotate_left
      · rw [if_pos (by rw [c1]), if_neg c2, if_neg u_one]
        exact skip (fun z => c2 z.2)
      rw [if_pos (by rw [c1]), if_pos c2, if_pos rfl, a2, u_s1, u_s1, nI_add, nI_add, u_mul, nI_add, nI_add, nI_add]
      have pq : cn t (80 + 24 * q) = p := by unfold cn; rw [a3]; exact nI_clamp (by omega)
      have vk : J 270 (80 + 24 * q + 12 + k) = t (80 + 24 * q + 12 + k) := by
        rw [hJ, nw_k hq12 hk]
        by_cases z : nwc t (nqM t c p k i) q k
        · rw [if_pos z, pq, a2, nI_clamp (by omega)]
        · rw [if_neg z]
      have vh : J 270 (80 + 24 * q + 18 + k) = t (80 + 24 * q + 18 + k) := by
        rw [hJ, nw_h hq12 hk]
        by_cases z : nwc t (nqM t c p k i) q k
        · rw [if_pos z, pq, a2, nI_clamp (by omega)]
        · rw [if_neg z]
      have step := nw_s (t := t) (Q := nqM t c p k i) (Q' := nqM t c p k (i + 1)) (m := i) (k := k) (by omega) hc12 hk (fun m' k' _ _ hne => by unfold nqM; congr 1; exact propext ⟨fun z => by omega, fun z => by omega⟩) (by unfold nqM; exact decide_eq_true (by omega))
      rw [c1, if_pos ⟨c2, l⟩, a2, nI_clamp (by omega)] at step
      rw [u_rd (show 80 + 24 * q + 12 + k < 3580 by omega) (by decide), u_s1, show J (269 + 1) = J 270 from rfl, vk, u_wr (show 80 + 24 * i + 12 + k < 3580 by omega) (by decide), u_s1, u_s1, nI_add, nI_add, u_s1, nI_add, nI_add, u_rd (show 80 + 24 * q + 18 + k < 3580 by omega) (by decide), u_s1, show (269 + 1 : Nat) = 270 from rfl, u_up_j (show 80 + 24 * q + 18 + k ≠ 80 + 24 * i + 12 + k by omega), vh, u_wr (show 80 + 24 * i + 18 + k < 3580 by omega) (by decide), u_s1]
      obtain ⟨J', g1, g2, g3⟩ := ih' (lnJ J i k (t (80 + 24 * q + 12 + k)) (t (80 + 24 * q + 18 + k))) (by rw [lnJ_270, step, hJ])
      rw [a2] at g1
      exact ⟨J', g1, g2, (lnJ_GM _ _ _ _ _).tr g3⟩
theorem nM {t : Nat → Int32} {p k c : Nat} (hp : p < 8) (hk : k < 6) (hkc : k < c) (h2 : t 2 = nI (cn t 2)) (hc12 : cn t 2 ≤ 12) (hR : ∀ m, m < 12 → (t (80 + 24 * m) = nI (cn t (80 + 24 * m)) ∧ cn t (80 + 24 * m) < 8)) (hg : ∀ m, m < 12 → (t (80 + 24 * m + 9) = 0 ∨ t (80 + 24 * m + 9) = 1)) {J : qI} (hJ : J 270 = nwT t (nqM t c p k 0)) : ∃ J', f_X12_news 269 (nI p) (nI k) J = some J' ∧ J' 270 = nwT t (nqM t c p (k + 1) 0) ∧ GM J J' := by
  have fu : ∀ {n : Nat}, n ≤ 60 → n < q_fu := fun hn => by have := q_fu1; omega
  unfold f_X12_news
  have e1 := nM1 (J := J) (n := cn t 2) hp hk (by rw [hJ, nw_o (by omega)]; exact h2) hc12 (fun m hm => by rw [hJ, nw_o (by omega)]; exact hg m (by omega)) (cn t 2) q_fu 0 (Nat.zero_add _) (fu (by omega))
  have eb : bF (J 270) k p (cn t 2) = bF t k p (cn t 2) := by
    rw [hJ]
    exact bF_nw hc12 hk (fun m hm hmp => by
      have : cn t (80 + 24 * m) = p := by unfold cn; rw [hmp]; exact nI_clamp (by omega)
      unfold nqM; exact decide_eq_false (by omega)) _ (Nat.le_refl _)
  obtain ⟨J', g1, g2, g3⟩ := nM2 hp hk hkc h2 hc12 hR hg (cn t 2) q_fu 0 J (Nat.zero_add _) (fu (by omega)) hJ
  refine ⟨J', ?_, ?_, g3⟩
  · rw [show (-1 : Int32) = bF (J 270) k p 0 from rfl, e1, eb]; exact g1
  · rw [g2]
    exact nw_cg (fun m k' hm _ => by unfold nqM; congr 1; exact propext ⟨fun z => by omega, fun z => by omega⟩)
