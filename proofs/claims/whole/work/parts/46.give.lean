/-! LEVEL B: give -/
theorem gvM {X : qX} {v : Nat} {I0 : qI} {t : Nat → Int32} (h0 : TV X v I0 t) (hv : v ≤ 195) (hc : t 3 = nI (cn t 3) ∧ cn t 3 ≤ 60) {mm : Nat} (hmm : mm < 12) (S : Int32) : ∀ r fM i (J : qI), i + r = cn t 3 → r < fM → J 270 = stT (gv4 X v I0 (t 0)) t (nI mm) i → ∃ J1, q_fix (fun _ _ _ => none) (b_X12_give_25 269 (nI mm)) fM S (nI i) J = some (S, q_up J1 270 (80 + 24 * mm + 4) (q_min (nI 99999) (J1 270 (80 + 24 * mm + 4) + S))) ∧ J1 270 = stT (gv4 X v I0 (t 0)) t (nI mm) (cn t 3) ∧ GM J J1 := by
  intro r
  induction r with
  | zero =>
    intro fM i J h1 h2 h
    obtain ⟨fM, rfl⟩ : ∃ z, fM = z + 1 := ⟨fM - 1, by omega⟩
    have e : i = cn t 3 := by omega
    subst e
    refine ⟨J, ?_, h, GM.rfl'⟩
    show b_X12_give_25 269 (nI mm) (q_fix _ _ fM) S (nI (cn t 3)) J = _
    unfold b_X12_give_25
    rw [u_rd (by decide) (by decide), u_s1, show J (269 + 1) 3 = nI (cn t 3) by rw [← hc.1, show J (269 + 1) = _ from h, stT_o (by omega)], if_pos (Int32.le_refl _), RV.getsJ hmm (by decide), u_s1]
  | succ r ih =>
    intro fM i J h1 h2 h
    obtain ⟨fM, rfl⟩ : ∃ z, fM = z + 1 := ⟨fM - 1, by omega⟩
    have hi : i < 60 := by omega
    show ∃ J1, b_X12_give_25 269 (nI mm) (q_fix (fun _ _ _ => none) (b_X12_give_25 269 (nI mm)) fM) S (nI i) J = _ ∧ _ ∧ _
    have ih' := fun J => ih fM (i + 1) J (by omega) (by omega)
    generalize q_fix (fun _ _ _ => none) (b_X12_give_25 269 (nI mm)) fM = KM at ih' ⊢
    unfold b_X12_give_25 b_X12_give_71 f_X12_dueAt
    obtain ⟨J1, w1, w2⟩ := mW (J := J) (I0 := I0) (X := X) (v := v) (by rw [h]; exact h0.cg (fun n hn => stT_o (by omega))) hv hi (nI mm)
    rw [h, stT_o (show 0 < 370 ∨ _ from Or.inl (by decide))] at w1
    simp only [wr_st (Nat.le_refl i)] at w1
    have hJ1 : J1 270 = stT (gv4 X v I0 (t 0)) t (nI mm) i := (w2 270 (by decide) (by decide)).trans h
    rw [u_rd (by decide) (by decide), u_s1, show J (269 + 1) 3 = nI (cn t 3) by rw [← hc.1, show J (269 + 1) = _ from h, stT_o (by omega)], if_neg (nI_ge (by omega) (by omega)), u_s1, w1, u_s2, ite_ib, u_s1, nI_add i 1, u_mul, nI_add, nI_add, u_rd (show 370 + 8 * i + 5 < 3580 by omega) (by decide), u_s1, u_wr (show 370 + 8 * i + 5 < 3580 by omega) (by decide), u_s1, u_wr (show 370 + 8 * i + 5 < 3580 by omega) (by decide), u_s1]
    by_cases hw : wr (gv4 X v I0 (t 0)) t (nI mm) i
    · rw [if_pos hw]
      obtain ⟨J', g1, g2, g3⟩ := ih' (q_up J1 (269 + 1) (370 + 8 * i + 5) (nI 2)) (by rw [stT_s hi, if_pos hw, show (269 + 1 : Nat) = 270 from rfl, up270, hJ1])
      exact ⟨J', g1, g2, (w2.gm.up (Or.inl rfl)).tr g3⟩
    · rw [if_neg hw]
      obtain ⟨J', g1, g2, g3⟩ := ih' (q_up J1 (269 + 1) (370 + 8 * i + 5) (J1 (269 + 1) (370 + 8 * i + 5))) (by
        rw [stT_s hi, if_neg hw, show (269 + 1 : Nat) = 270 from rfl, up270, hJ1]
        funext z
        by_cases e : z = 370 + 8 * i + 5
        · rw [e, upd_s]
        · rw [upd_o e])
      exact ⟨J', g1, g2, (w2.gm.up (Or.inl rfl)).tr g3⟩
theorem sumF_nI {f : Nat → Int32} {B : Nat} : ∀ r a x, (∀ i, a ≤ i → i < a + r → ∃ g, f i = nI g ∧ g ≤ B) → x + B * r < 2 ^ 31 → ∃ y, sumF f a r (nI x) = nI y ∧ x ≤ y ∧ y ≤ x + B * r ∧ (y = x → ∀ i, a ≤ i → i < a + r → f i = nI 0) := by
  intro r
  induction r with
  | zero => intro a x _ _; exact ⟨x, rfl, Nat.le_refl _, by omega, fun _ i h1 h2 => by omega⟩
  | succ r ih =>
    intro a x h hb
    obtain ⟨g, g1, g2⟩ := h a (Nat.le_refl _) (by omega)
    have hB : B * (r + 1) = B * r + B := Nat.mul_succ B r
    obtain ⟨y, y1, y2, y3, y4⟩ := ih (a + 1) (x + g) (fun i h1 h2 => h i (by omega) (by omega)) (by omega)
    refine ⟨y, ?_, by omega, by omega, fun e i h1 h2 => ?_⟩
    · show sumF f (a + 1) r (nI x + f a) = _
      rw [g1, nI_add]
      exact y1
    · by_cases q : i = a
      · subst q
        rw [g1, show g = 0 by omega]
      · exact y4 (by omega) i (by omega) (by omega)
theorem W_give {X : qX} (y1 : Int32) : P2 X (f_X11_give 64 y1 X) (f_X12_give 269 y1) := by
  intro I J h
  show G2 X I J (f_X11_give 64 y1 X I) (f_X12_give 269 y1 J)
  have hR := h.rv
  have b := hR.bd
  unfold f_X11_give f_X12_give f_X12_wrong f_X9_wrongFines
  simp only [hR.hasM (a := 64 + 13) rfl, hR.isMan, u_s1, u_ib, ite_not]
  by_cases c1 : nI 0 ≤ y1 ∧ y1 < nI (cn (J 270) 2)
  rotate_left
  · rw [if_neg c1, if_neg c1, u_s2, if_neg (by decide), if_neg (by decide)]
    exact h.same _
  rw [if_pos c1, if_pos c1]
  obtain ⟨m, rfl, hm⟩ := u_idx c1 (by omega)
  have hm12 : m < 12 := by omega
  obtain ⟨I', g1, g2, g3⟩ := wrC hR.tv (by decide) (nI m) true (cn (J 270) 3) q_fu 0 (nI 0) I (Nat.zero_add _) (by have := q_fu1; omega) (by simp only [if_true]; rw [stT_0]; exact hR)
  obtain ⟨J', k1, k2⟩ := wrM hR.tv (by decide) hR.k3 (nI m) (cn (J 270) 3) q_fu 0 (nI 0) J (Nat.zero_add _) (by have := q_fu1; omega) rfl
  simp only [if_true] at g1 g2
  rw [show (64 + 1 : Nat) = 65 from rfl, g1, k1, u_s2, u_s2]
  obtain ⟨S, s1, -, s3, s4⟩ := sumF_nI (f := wrS (gv4 X 65 I (J 270 0)) (J 270) (nI m)) (B := 999) (cn (J 270) 3) 0 0 (fun i _ hi => by
    unfold wrS
    by_cases hw : wr (gv4 X 65 I (J 270 0)) (J 270) (nI m) i
    · rw [if_pos hw]
      rcases (hR.dd.2.2.2.1 i (by omega)).2.2.2 with z | z | ⟨g, z1, -, z2⟩
      · rw [hw.1] at z; exact absurd z (by decide +kernel)
      · rw [hw.1] at z; exact absurd z (by decide +kernel)
      · exact ⟨g, z1, z2⟩
    · rw [if_neg hw]; exact ⟨0, nI_0.symm, by decide⟩) (by omega)
  rw [s1]
  have hJ' : J' 270 = J 270 := k2 270 (by decide) (by decide)
  by_cases e : S = 0
  · have hn : ∀ i, i < cn (J 270) 3 → ¬ wr (gv4 X 65 I (J 270 0)) (J 270) (nI m) i := by
      intro i hi hw
      have q := s4 e i (by omega) (by omega)
      unfold wrS at q
      rw [if_pos hw, nI_0] at q
      have q2 := hw.2.2.2.1
      rw [q] at q2
      exact absurd q2 Int32.lt_irrefl
    have hst : stT (gv4 X 65 I (J 270 0)) (J 270) (nI m) (cn (J 270) 3) = J 270 := by
      funext z
      unfold stT
      rw [if_neg (fun q => hn _ q.1.2.2.2 q.2)]
    rw [hst] at g2
    subst e
    rw [if_pos nI_0, if_neg (show ¬ (0 : Int32) < nI 0 by decide +kernel), if_pos nI_0]
    refine h.put2 ?_ g3 k2.gm rfl
    rw [hJ']
    exact g2
  · have e' : 0 < S := Nat.pos_of_ne_zero e
    rw [if_neg (nI_ne0 e' (by omega)), if_pos (by rw [← nI_0]; exact nI_lt e' (by omega)), g2.getCoin (a := 64 + 13) rfl hm12, u_s1]
    obtain ⟨J1, q1, q2, q3⟩ := gvM hR.tv (by decide) hR.k3 hm12 (nI S) (cn (J 270) 3) q_fu 0 J' (Nat.zero_add _) (by have := q_fu1; omega) (by rw [stT_0]; exact hJ')
    rw [q1]
    refine h.put2 ?_ (g3.up (by decide) (by decide)) ((k2.gm.tr q3).up (by decide)) rfl
    rw [up270, q2]
    obtain ⟨l1, -, l2⟩ := hR.r_m4 (m := m) hm12
    refine g2.up (by decide) (vq_man m hm12 4 (by decide)) ?_ (g2.dd.up (by simp [dr]; omega) _) (by omega) (by omega) (by rw [show cn (stT (gv4 X 65 I (J 270 0)) (J 270) (nI m) (cn (J 270) 3)) 2 = cn (J 270) 2 by unfold cn; rw [stT_o (by omega)]]; omega)
    rw [stT_o (by omega), l1, nI_add, q_min_nI (by decide) (by omega)]
    exact rgS_i (rg_m4 m hm12) (by omega) (by omega)
