/-! LEVEL B: the end of a week -/
def zb (I : qI) (v i : Nat) : qI := fun a => if a = v + 20 then (fun k => if k < i then nI 0 else I a k) else I a
theorem zb_o {I : qI} {v i a : Nat} (h : a ≠ v + 20) : zb I v i a = I a := by unfold zb; rw [if_neg h]
theorem zb_k {I : qI} {v i k : Nat} (h : i ≤ k) : zb I v i (v + 20) k = I (v + 20) k := by
  unfold zb
  rw [if_pos rfl]
  exact if_neg (by omega)
theorem zb_0 {I : qI} {v : Nat} : zb I v 0 = I := by
  funext a k
  by_cases e : a = v + 20
  · subst e; exact zb_k (Nat.zero_le _)
  · rw [zb_o e]
theorem zb_s {I : qI} {v i : Nat} : q_up (zb I v i) (v + 20) i (nI 0) = zb I v (i + 1) := by
  funext a k
  by_cases e : a = v + 20
  · subst e
    by_cases e2 : k = i
    · subst e2
      rw [u_up_same]
      unfold zb
      rw [if_pos rfl]
      exact (if_pos (by omega)).symm
    · rw [u_up_j e2]
      unfold zb
      simp only [if_true]
      by_cases c : k < i
      · rw [if_pos c, if_pos (by omega)]
      · rw [if_neg c, if_neg (by omega)]
  · rw [u_up_a e, zb_o e, zb_o e]
theorem zb_up {I : qI} {v i a k : Nat} {x : Int32} (h : a ≠ v + 20) : q_up (zb I v i) a k x = zb (q_up I a k x) v i := by
  funext b n
  by_cases e : b = v + 20
  · subst e
    rw [u_up_a (Ne.symm h)]
    unfold zb
    simp only [if_true]
    by_cases c : n < i
    · rw [if_pos c, if_pos c]
    · rw [if_neg c, if_neg c, u_up_a (Ne.symm h)]
  · rw [zb_o e]
    by_cases e2 : b = a
    · subst e2
      by_cases e3 : n = k
      · subst e3; rw [u_up_same, u_up_same]
      · rw [u_up_j e3, u_up_j e3, zb_o e]
    · rw [u_up_a e2, u_up_a e2, zb_o e]
theorem zb_sc {I I9 : qI} {v i : Nat} (h : SC v (zb I v i) I9) : ∃ I', I9 = zb I' v i ∧ SC v I I' := by
  refine ⟨fun a => if a = v + 41 then I9 (v + 41) else I a, ?_, fun b hb => if_neg hb⟩
  funext a
  by_cases e : a = v + 41
  · subst e
    rw [zb_o (by omega)]
    exact (if_pos rfl).symm
  · rw [h a e]
    by_cases e2 : a = v + 20
    · subst e2
      unfold zb
      simp only [if_true]
      funext k
      by_cases c : k < i
      · rw [if_pos c, if_pos c]
      · rw [if_neg c, if_neg c]
        exact congrFun (if_neg e).symm k
    · rw [zb_o e2, zb_o e2]
      exact (if_neg e).symm
def bzt (t : Nat → Int32) (n : Nat) : Nat → Int32 := fun z => if 80 ≤ z ∧ z < 368 ∧ (z - 80) % 24 = 7 ∧ (z - 80) / 24 < n then nI 0 else t z
theorem bzt_o {t : Nat → Int32} {n z : Nat} (h : z < 80 ∨ 368 ≤ z ∨ (z - 80) % 24 ≠ 7 ∨ n ≤ (z - 80) / 24) : bzt t n z = t z := by
  unfold bzt; rw [if_neg (by omega)]
theorem bzt_0 {t : Nat → Int32} : bzt t 0 = t := by funext z; exact bzt_o (by omega)
theorem bzt_s {t : Nat → Int32} {n : Nat} (hn : n < 12) : upd (bzt t n) (80 + 24 * n + 7) (nI 0) = bzt t (n + 1) := by
  funext z
  by_cases e : z = 80 + 24 * n + 7
  · subst e
    rw [upd_s]
    unfold bzt
    rw [if_pos (by omega)]
  · rw [upd_o e]
    unfold bzt
    by_cases c : 80 ≤ z ∧ z < 368 ∧ (z - 80) % 24 = 7 ∧ (z - 80) / 24 < n
    · rw [if_pos c, if_pos (by omega)]
    · rw [if_neg c, if_neg (by omega)]
theorem RV.zbz {X : qX} {v j : Nat} {I : qI} {t : Nat → Int32} (h : RV X v I t j) (hv : v ≤ 195) : ∀ n, n ≤ cn t 2 → RV X v (zb I v n) (bzt t n) j := by
  intro n
  induction n with
  | zero => intro _; rw [zb_0, bzt_0]; exact h
  | succ n ih =>
    intro hn
    have b := h.bd
    have h1 := ih (by omega)
    have h2 := h1.up hv (vq_man n (by omega) 7 (by decide)) (x := nI 0) (rgS_n (rn_m7 n (by omega))) (h1.dd.up (by simp [dr]; omega) _) (by omega) (by omega) (by rw [show cn (bzt t n) 2 = cn t 2 by unfold cn; rw [bzt_o (by omega)]]; omega)
    rw [← zb_s, ← bzt_s (by omega)]
    exact h2
theorem SJ.re {X : qX} {v j : Nat} {I J I' J' : qI} (h : RV X v I (J 270) j) (hv : v ≤ 195) (hC : SC v I I') (hM : SJ J J') : RD X v j I J I' J' := by
  have e : J' 270 = J 270 := hM 270 (by decide) (by decide)
  exact ⟨by rw [e]; exact h.sc hv hC, hC.fc, hM.gm, fun n _ => by rw [e]⟩
/-- who is kept -/
theorem kp_lp {X : qX} {v j : Nat} {x1 : Int32} (hv : v ≤ 195) : ∀ r fC fM i (G J : qI), i + r = cn (J 270) 2 → r < fC → r < fM → RV X v G (J 270) j → ∃ G' J', q_fix (fun _ _ => none) (b_X9_endWeek_80 v x1 X) fC (nI i) (zb G v i) = some (zb G' v (cn (J 270) 2)) ∧ q_fix (fun _ _ => none) (b_X12_endWeek_58 269) fM (nI i) J = q_fix (fun _ _ => none) (b_X12_endWeek_123 269) q_fu (nI 0) J' ∧ RE X v j G J G' J' := by
  intro r
  induction r with
  | zero =>
    intro fC fM i G J h1 h2 h3 h
    obtain ⟨fC, rfl⟩ : ∃ z, fC = z + 1 := ⟨fC - 1, by omega⟩
    obtain ⟨fM, rfl⟩ : ∃ z, fM = z + 1 := ⟨fM - 1, by omega⟩
    have e : i = cn (J 270) 2 := by omega
    subst e
    refine ⟨G, J, ?_, ?_, RE.rf h⟩
    · show b_X9_endWeek_80 v x1 X (q_fix _ _ fC) (nI _) _ = _
      unfold b_X9_endWeek_80
      rw [zb_o (show v + 12 ≠ v + 20 by omega), h.sc2 rfl, h.k2.1, if_pos (Int32.le_refl _)]
    · show b_X12_endWeek_58 269 (q_fix _ _ fM) (nI _) J = _
      unfold b_X12_endWeek_58
      rw [u_rd (by decide) (by decide), u_s1, h.k2.1, if_pos (Int32.le_refl _)]
  | succ r ih =>
    intro fC fM i G J h1 h2 h3 h
    obtain ⟨fC, rfl⟩ : ∃ z, fC = z + 1 := ⟨fC - 1, by omega⟩
    obtain ⟨fM, rfl⟩ : ∃ z, fM = z + 1 := ⟨fM - 1, by omega⟩
    have b := h.bd
    have hi : i < 12 := by omega
    obtain ⟨d1, d2⟩ := h.db (m := i) (by omega)
    have ih' := fun G1 J1 (q : RE X v j G J G1 J1) => ih fC fM (i + 1) G1 J1 (by rw [q.c (n := 2) (by decide)]; omega) (by omega) (by omega) q.1
    show ∃ G' J', b_X9_endWeek_80 v x1 X (q_fix (fun _ _ => none) (b_X9_endWeek_80 v x1 X) fC) (nI i) (zb G v i) = _ ∧ b_X12_endWeek_58 269 (q_fix (fun _ _ => none) (b_X12_endWeek_58 269) fM) (nI i) J = _ ∧ _
    generalize q_fix (fun _ _ => none) (b_X9_endWeek_80 v x1 X) fC = KC at ih' ⊢
    generalize q_fix (fun _ _ => none) (b_X12_endWeek_58 269) fM = KM at ih' ⊢
    have fin : ∀ G1 J1, RE X v j G J G1 J1 → ∃ G' J', b_X9_endWeek_124 v x1 X KC (nI i) (zb G1 v i) = some (zb G' v (cn (J 270) 2)) ∧ KM (nI (i + 1)) J1 = q_fix (fun _ _ => none) (b_X12_endWeek_123 269) q_fu (nI 0) J' ∧ RE X v j G J G' J' := by
      intro G1 J1 hq
      obtain ⟨G', J', g1, g2, g3⟩ := ih' G1 J1 hq
      refine ⟨G', J', ?_, g2, hq.tr g3⟩
      unfold b_X9_endWeek_124
      rw [u_wr hi (by decide), u_s1, nI_add, zb_s, g1, hq.c (by decide)]
    have tz : TV X v (zb G v i) (J 270) := h.tv.cgI (fun a ha => zb_o (by omega))
    have gz : f_X2_isGone (v + 12) (nI i) (zb G v i) = some (if J 270 (80 + 24 * i + 9) = 0 then 0 else 1) := by
      unfold f_X2_isGone
      rw [u_rd hi (by decide), u_s1, zb_o (show v + 12 + 10 ≠ v + 20 by omega), h.m9 (by omega) hi]
      by_cases e : J 270 (80 + 24 * i + 9) = 0
      · rw [if_pos e, if_pos e]; rfl
      · rw [if_neg e, if_neg e]; rfl
    unfold b_X9_endWeek_80 b_X12_endWeek_58 b_X12_endWeek_115 f_X9_isKept f_X9_owed f_X12_manAt
    rw [zb_o (show v + 12 ≠ v + 20 by omega), h.sc2 rfl, h.k2.1, if_neg (nI_ge (by omega) (by omega)), gz, u_s1]
    rw [u_rd (show 2 < 3580 by decide) (by decide), u_s1, h.k2.1, if_neg (nI_ge (by omega) (by omega)), h.goneJ hi, u_s1, nI_add i 1]
    by_cases c1 : J 270 (80 + 24 * i + 9) = 0
    rotate_left
    · simp only [if_neg c1]
      rw [if_neg u_one, if_neg u_one]
      exact fin G J (RE.rf h)
    simp only [if_pos c1]
    rw [if_pos trivial, if_pos trivial]
    obtain ⟨rr, I9, J9, g1, g2, g3, g4⟩ := TV.giv5 (J := J) tz hv rfl (J 270 (80 + 24 * i + 7)) (J 270 (370 + 8 * cn (J 270) (80 + 24 * i + 11) + 2)) (nI 0)
    rw [u_rd hi (by decide), u_s1, zb_k (Nat.le_refl i), h.m7 rfl hi, u_rd hi (by decide), u_s1, zb_o (show v + 24 ≠ v + 20 by omega), h.m11 rfl hi, d1, u_rd (show cn (J 270) (80 + 24 * i + 11) < 60 by omega) (by decide), u_s1, u_s1, zb_o (show v + 30 ≠ v + 20 by omega), h.d2 rfl (by omega), zb_o (show v ≠ v + 20 by omega), h.sc0 (a := v) (by omega), g1, u_s2]
    rw [u_s1, u_mul, nI_add, nI_add, u_rd (show 80 + 24 * i + 7 < 3580 by omega) (by decide), u_s1, h.owedJ (by omega), u_s1, show J (269 + 1) = J 270 from rfl, g2, u_s2, u_s1, nI_add]
    obtain ⟨G1, rfl, hG1⟩ := zb_sc g3
    have d9 := (SJ.re h hv hG1 g4)
    by_cases c2 : rr = 0
    · rw [if_pos c2, if_pos c2, u_s2, if_pos nI_0, u_wr hi (by decide), u_s1, u_wr (show 80 + 24 * i + 9 < 3580 by omega) (by decide), u_s1, zb_up (by omega)]
      have dg := RE.up d9.1 hv (vq_man i hi 9 (by decide)) (x := nI 1) (rgS_i (rg_m9 i hi) (by omega) (by omega)) (d9.1.dd.gone1 hi _ (by decide +kernel)) (by omega) (by omega) (by rw [d9.c (by decide)]; omega)
      exact fin _ _ (d9.re.tr dg)
    · rw [if_neg c2, if_neg c2, u_s2, if_neg (show ¬ nI 1 = 0 by decide +kernel)]
      exact fin _ _ d9.re
theorem bo_lp {t : Nat → Int32} (h2 : t 2 = nI (cn t 2)) (hc : cn t 2 ≤ 12) : ∀ r f i (J : qI), i + r = cn t 2 → r < f → J 270 = bzt t i → ∃ J', q_fix (fun _ _ => none) (b_X12_endWeek_123 269) f (nI i) J = some J' ∧ J' 270 = bzt t (cn t 2) ∧ GM J J' := by
  intro r
  induction r with
  | zero =>
    intro f i J h1 h3 hJ
    obtain ⟨f, rfl⟩ : ∃ z, f = z + 1 := ⟨f - 1, by omega⟩
    have e : i = cn t 2 := by omega
    subst e
    refine ⟨J, ?_, hJ, GM.rfl'⟩
    show b_X12_endWeek_123 269 (q_fix _ _ f) (nI _) J = _
    unfold b_X12_endWeek_123
    rw [u_rd (by decide) (by decide), u_s1, show J (269 + 1) 2 = nI (cn t 2) by rw [show J (269 + 1) = _ from hJ, bzt_o (by omega), ← h2], if_pos (Int32.le_refl _)]
  | succ r ih =>
    intro f i J h1 h3 hJ
    obtain ⟨f, rfl⟩ : ∃ z, f = z + 1 := ⟨f - 1, by omega⟩
    have hi : i < 12 := by omega
    obtain ⟨J', g1, g2, g3⟩ := ih f (i + 1) (q_up J 270 (80 + 24 * i + 7) (nI 0)) (by omega) (by omega) (by rw [up270, hJ, bzt_s hi])
    refine ⟨J', ?_, g2, (GM.rfl'.up (by decide)).tr g3⟩
    show b_X12_endWeek_123 269 (q_fix _ _ f) (nI i) J = _
    unfold b_X12_endWeek_123 f_X12_manAt
    rw [u_rd (by decide) (by decide), u_s1, show J (269 + 1) 2 = nI (cn t 2) by rw [show J (269 + 1) = _ from hJ, bzt_o (by omega), ← h2], if_neg (nI_ge (by omega) (by omega)), u_s1, u_mul, nI_add, nI_add, u_wr (show 80 + 24 * i + 7 < 3580 by omega) (by decide), u_s1, nI_add]
    exact g1
theorem keep_pair {X : qX} {v j : Nat} {x1 : Int32} {I J : qI} (h : RV X v I (J 270) j) (hv : v ≤ 195) : ∃ I' J', b_X9_endWeek_77 v x1 X I = some I' ∧ b_X12_endWeek_56 269 J = some J' ∧ RE X v j I J I' J' := by
  have b := h.bd
  have fu : ∀ {n : Nat}, n ≤ 60 → n < q_fu := fun hn => by have := q_fu1; omega
  unfold b_X9_endWeek_77 b_X12_endWeek_56
  obtain ⟨G, J1, g1, g2, g3⟩ := kp_lp (x1 := x1) hv (cn (J 270) 2) q_fu q_fu 0 I J (Nat.zero_add _) (fu (by omega)) (fu (by omega)) h
  rw [zb_0] at g1
  have k2 := g3.1.k2
  obtain ⟨J2, k1, k3, k4⟩ := bo_lp k2.1 k2.2 (cn (J1 270) 2) q_fu 0 J1 (Nat.zero_add _) (fu (by omega)) bzt_0.symm
  refine ⟨_, J2, g1, by rw [g2]; exact k1, ?_⟩
  refine g3.tr ⟨?_, fun a ha => zb_o (by omega), k4, fun n hn => by rw [k3, bzt_o (by omega)]⟩
  rw [k3, ← g3.c (n := 2) (by decide)]
  exact g3.1.zbz hv _ (Nat.le_refl _)
/-- pay day -/
theorem py_lp {X : qX} {v j : Nat} {x1 : Int32} (hv : v ≤ 195) (hj : j ≤ 12) : ∀ r fC fM i (I J : qI), i + r = cn (J 270) 2 → r < fC → r < fM → RV X v I (J 270) j → ((x1 = 0 ∧ J 269 25 = 0) ∨ (¬ x1 = 0 ∧ ¬ J 269 25 = 0)) → ∃ I' J', q_fix (fun _ _ => none) (b_X9_endWeek_39 v x1 X) fC (nI i) I = b_X9_endWeek_77 v x1 X I' ∧ q_fix (fun _ _ _ => none) (b_X12_endWeek_22 269) fM (nI 1) (nI i) J = b_X12_endWeek_56 269 J' ∧ RD X v j I J I' J' := by
  intro r
  induction r with
  | zero =>
    intro fC fM i I J h1 h2 h3 h hb
    obtain ⟨fC, rfl⟩ : ∃ z, fC = z + 1 := ⟨fC - 1, by omega⟩
    obtain ⟨fM, rfl⟩ : ∃ z, fM = z + 1 := ⟨fM - 1, by omega⟩
    have e : i = cn (J 270) 2 := by omega
    subst e
    refine ⟨I, J, ?_, ?_, RD.rf h⟩
    · show b_X9_endWeek_39 v x1 X (q_fix _ _ fC) (nI _) _ = _
      unfold b_X9_endWeek_39
      rw [h.sc2 rfl, h.k2.1, if_pos (Int32.le_refl _)]
    · show b_X12_endWeek_22 269 (q_fix _ _ fM) (nI 1) (nI _) J = _
      unfold b_X12_endWeek_22
      rw [u_rd (by decide) (by decide), u_s1, h.k2.1, if_pos (Int32.le_refl _)]
  | succ r ih =>
    intro fC fM i I J h1 h2 h3 h hb
    obtain ⟨fC, rfl⟩ : ∃ z, fC = z + 1 := ⟨fC - 1, by omega⟩
    obtain ⟨fM, rfl⟩ : ∃ z, fM = z + 1 := ⟨fM - 1, by omega⟩
    have b := h.bd
    have hi : i < 12 := by omega
    have ih' := fun I J => ih fC fM (i + 1) I J
    show ∃ I' J', b_X9_endWeek_39 v x1 X (q_fix (fun _ _ => none) (b_X9_endWeek_39 v x1 X) fC) (nI i) I = _ ∧ b_X12_endWeek_22 269 (q_fix (fun _ _ _ => none) (b_X12_endWeek_22 269) fM) (nI 1) (nI i) J = _ ∧ _
    generalize q_fix (fun _ _ => none) (b_X9_endWeek_39 v x1 X) fC = KC at ih' ⊢
    generalize q_fix (fun _ _ _ => none) (b_X12_endWeek_22 269) fM = KM at ih' ⊢
    unfold b_X9_endWeek_39 b_X9_endWeek_71 b_X12_endWeek_22 b_X12_endWeek_50
    rw [h.sc2 rfl, h.k2.1, if_neg (nI_ge (by omega) (by omega)), h.gone rfl hi, u_s1, nI_add]
    rw [u_rd (by decide) (by decide), u_s1, h.k2.1, if_neg (nI_ge (by omega) (by omega)), if_neg (show ¬ nI 1 = 0 by decide +kernel), h.goneJ hi, u_s1]
    by_cases c1 : J 270 (80 + 24 * i + 9) = 0
    rotate_left
    · simp only [if_neg c1]
      rw [if_neg u_one, if_neg u_one]
      exact ih' I J (by omega) (by omega) (by omega) h hb
    simp only [if_pos c1]
    rw [if_pos trivial, if_pos trivial]
    obtain ⟨I1, J1, g1, g2, g3, -⟩ := reckon_pair h hv hj (m := i) (by omega) true hb
    rw [show f_X9_reckon v (nI i) (nI 1) x1 X I = some I1 from g1, u_s1, show f_X12_pays 269 (nI i) (nI 1) J = some J1 from g2, u_s1]
    obtain ⟨I', J', k1, k2, k3⟩ := ih' I1 J1 (by rw [g3.c (by decide)]; omega) (by omega) (by omega) g3.1 (by rw [g3.2.2.1.2 25 (by decide)]; exact hb)
    exact ⟨I', J', k1, k2, g3.tr k3⟩
theorem week_pair {X : qX} {v j : Nat} {x1 : Int32} {I J : qI} (h : RV X v I (J 270) j) (hv : v ≤ 195) (hj : j ≤ 12) (hb : (x1 = 0 ∧ J 269 25 = 0) ∨ (¬ x1 = 0 ∧ ¬ J 269 25 = 0)) : ∃ I' J', f_X9_endWeek v x1 X I = some I' ∧ f_X12_endWeek 269 J = some J' ∧ RE X v j I J I' J' := by
  have b := h.bd
  have fu : ∀ {n : Nat}, n ≤ 60 → n < q_fu := fun hn => by have := q_fu1; omega
  unfold f_X9_endWeek f_X12_endWeek f_X12_dueOf f_X12_week b_X12_endWeek_19
  obtain ⟨D, I1, J1, g1, g2, g3, g4, g5, g6⟩ := h.tv.giv2 hv rfl (J 270 0 / nI 7) (nI 0) (nI 0)
  have d1 := SJ.re h hv g5 g6
  rw [h.sc0 (a := v) (by omega), g1, u_s2, if_neg (nI_nle (by omega) (by omega)), if_neg (nI_ne0 (by omega) (by omega))]
  rw [u_rd (show 0 < 3580 by decide) (by decide), u_s1, u_s1, show J (269 + 1) = J 270 from rfl, u_s1, g2, u_s2, u_s2, if_neg (nI_ne0 (by omega) (by omega))]
  by_cases c : q_rem (J 270 0 / nI 7 + nI 1) (nI D) = 0
  · rw [if_pos c, if_pos c]
    obtain ⟨I2, J2, k1, k2, k3⟩ := py_lp (x1 := x1) hv hj (cn (J1 270) 2) q_fu q_fu 0 I1 J1 (Nat.zero_add _) (fu (by have := d1.1.bd; omega)) (fu (by have := d1.1.bd; omega)) d1.1 (by rw [d1.2.2.1.2 25 (by decide)]; exact hb)
    rw [k1, k2]
    obtain ⟨I3, J3, l1, l2, l3⟩ := keep_pair (x1 := x1) k3.1 hv
    exact ⟨I3, J3, l1, l2, (d1.tr k3).re.tr l3⟩
  · rw [if_neg c, if_neg c]
    obtain ⟨I3, J3, l1, l2, l3⟩ := keep_pair (x1 := x1) d1.1 hv
    refine ⟨I3, J3, l1, ?_, d1.re.tr l3⟩
    rw [show q_fu = 99999 + 1 from rfl]
    show b_X12_endWeek_22 269 (q_fix _ _ 99999) (nI 0) (nI 0) J1 = _
    unfold b_X12_endWeek_22
    rw [u_rd (show 2 < 3580 by decide) (by decide), u_s1, if_pos nI_0, ite_self]
    exact l2
