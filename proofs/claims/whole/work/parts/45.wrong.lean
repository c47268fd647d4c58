/-! LEVEL B: wrong fines, given back -/
def gv4 (X : qX) (v : Nat) (I : qI) (d A B : Int32) : Int32 := ((f_X7_given (v + 36) (nI 4) d A B (nI 0) X I).map Prod.fst).getD 0
theorem gv4_M {X : qX} {v : Nat} {I0 J : qI} (h : TV X v I0 (J 270)) (hv : v ≤ 195) (A B : Int32) : ∃ J', f_X12_fineOf 269 A B J = some (gv4 X v I0 (J 270 0) A B, J') ∧ SJ J J' := by
  obtain ⟨r, I', J', g1, g2, g3, g4⟩ := h.giv4 hv rfl A B (nI 0)
  refine ⟨J', ?_, g4⟩
  rw [g2]
  unfold gv4
  rw [g1]
  rfl
theorem gv4_C {X : qX} {v : Nat} {I0 I : qI} {t : Nat → Int32} (h0 : TV X v I0 t) (h : TV X v I t) (hv : v ≤ 195) (A B : Int32) : ∃ I', f_X7_given (v + 36) (nI 4) (t 0) A B (nI 0) X I = some (gv4 X v I0 (t 0) A B, I') ∧ SC v I I' := by
  obtain ⟨J1, m1, -⟩ := gv4_M (J := fun _ => t) h0 hv A B
  obtain ⟨r, I', J', g1, g2, g3, g4⟩ := TV.giv4 (J := fun _ => t) h hv rfl A B (nI 0)
  rw [m1] at g2
  cases g2
  exact ⟨I', g1, g3⟩
abbrev wr (F : Int32 → Int32 → Int32) (t : Nat → Int32) (m : Int32) (i : Nat) : Prop := t (370 + 8 * i) = nI 4 ∧ t (370 + 8 * i + 1) = m ∧ t (370 + 8 * i + 5) = nI 1 ∧ 0 < t (370 + 8 * i + 2) ∧ F (t (370 + 8 * i + 2)) (t (370 + 8 * i + 3)) = 0
theorem cW {X : qX} {v : Nat} {I0 I : qI} {t : Nat → Int32} {j : Nat} (h0 : TV X v I0 t) (h : RV X v I t j) (hv : v ≤ 195) {i : Nat} (hi : i < 60) {m : Int32} (hm : t (370 + 8 * i + 1) = m) : ∃ I', f_X9_isWrongFine v (nI i) X I = some (if wr (gv4 X v I0 (t 0)) t m i then nI 1 else nI 0, I') ∧ SC v I I' := by
  unfold f_X9_isWrongFine
  rw [u_rd hi (by decide), u_s1, h.d0 (by omega) hi, u_rd hi (by decide), u_s1, h.d5 (by omega) hi, u_rd hi (by decide), u_s1, u_s1, h.d2 (by omega) hi, u_rd hi (by decide), u_s1, h.d3 (by omega) hi, h.sc0 (a := v) (by omega)]
  obtain ⟨I', g1, g2⟩ := gv4_C h0 h.tv hv (t (370 + 8 * i + 2)) (t (370 + 8 * i + 3))
  rw [g1, u_s2]
  by_cases c1 : t (370 + 8 * i) = nI 4
  rotate_left
  · rw [if_neg c1, if_neg (fun q => c1 q.1)]; exact ⟨_, rfl, SC.rf⟩
  by_cases c2 : t (370 + 8 * i + 5) = nI 1
  rotate_left
  · rw [if_pos c1, if_neg c2, if_neg (fun q => c2 q.2.2.1)]; exact ⟨_, rfl, SC.rf⟩
  by_cases c3 : 0 < t (370 + 8 * i + 2)
  rotate_left
  · rw [if_pos c1, if_pos c2, if_neg c3, if_neg (fun q => c3 q.2.2.2.1)]; exact ⟨_, rfl, SC.rf⟩
  by_cases c4 : gv4 X v I0 (t 0) (t (370 + 8 * i + 2)) (t (370 + 8 * i + 3)) = 0
  · rw [if_pos c1, if_pos c2, if_pos c3, if_pos c4, if_pos ⟨c1, hm, c2, c3, c4⟩]; exact ⟨_, rfl, g2⟩
  · rw [if_pos c1, if_pos c2, if_pos c3, if_neg c4, if_neg (fun q => c4 q.2.2.2.2)]; exact ⟨_, rfl, g2⟩
theorem mW {X : qX} {v : Nat} {I0 J : qI} (h0 : TV X v I0 (J 270)) (hv : v ≤ 195) {i : Nat} (hi : i < 60) (m : Int32) : ∃ J', f_X12_isWrong 269 (nI i) m J = some (if wr (gv4 X v I0 (J 270 0)) (J 270) m i then nI 1 else nI 0, J') ∧ SJ J J' := by
  unfold f_X12_isWrong f_X12_dueAt
  rw [u_s1, u_mul, nI_add, u_rd (show 370 + 8 * i < 3580 by omega) (by decide), u_s1, nI_add, u_rd (show 370 + 8 * i + 1 < 3580 by omega) (by decide), u_s1, nI_add, u_rd (show 370 + 8 * i + 5 < 3580 by omega) (by decide), u_s1, nI_add, u_rd (show 370 + 8 * i + 2 < 3580 by omega) (by decide), u_s1, u_s1, nI_add, u_rd (show 370 + 8 * i + 3 < 3580 by omega) (by decide), u_s1]
  obtain ⟨J', g1, g2⟩ := gv4_M h0 hv (J 270 (370 + 8 * i + 2)) (J 270 (370 + 8 * i + 3))
  rw [g1, u_s2]
  by_cases c1 : J 270 (370 + 8 * i) = nI 4
  rotate_left
  · rw [if_neg c1, if_neg (fun q => c1 q.1)]; exact ⟨_, rfl, SJ.rf⟩
  by_cases c0 : J 270 (370 + 8 * i + 1) = m
  rotate_left
  · rw [if_pos c1, if_neg c0, if_neg (fun q => c0 q.2.1)]; exact ⟨_, rfl, SJ.rf⟩
  by_cases c2 : J 270 (370 + 8 * i + 5) = nI 1
  rotate_left
  · rw [if_pos c1, if_pos c0, if_neg c2, if_neg (fun q => c2 q.2.2.1)]; exact ⟨_, rfl, SJ.rf⟩
  by_cases c3 : 0 < J 270 (370 + 8 * i + 2)
  rotate_left
  · rw [if_pos c1, if_pos c0, if_pos c2, if_pos (Int32.not_lt.mp c3), if_neg (fun q => c3 q.2.2.2.1)]; exact ⟨_, rfl, SJ.rf⟩
  by_cases c4 : gv4 X v I0 (J 270 0) (J 270 (370 + 8 * i + 2)) (J 270 (370 + 8 * i + 3)) = 0
  · rw [if_pos c1, if_pos c0, if_pos c2, if_neg (Int32.not_le.mpr c3), if_pos c4, if_pos ⟨c1, c0, c2, c3, c4⟩]; exact ⟨_, rfl, g2⟩
  · rw [if_pos c1, if_pos c0, if_pos c2, if_neg (Int32.not_le.mpr c3), if_neg c4, if_neg (fun q => c4 q.2.2.2.2)]; exact ⟨_, rfl, g2⟩
/-- the states of wrong fines below k, given back -/
def stT (F : Int32 → Int32 → Int32) (t : Nat → Int32) (m : Int32) (k : Nat) : Nat → Int32 := fun z => if (370 ≤ z ∧ z < 850 ∧ (z - 370) % 8 = 5 ∧ (z - 370) / 8 < k) ∧ wr F t m ((z - 370) / 8) then nI 2 else t z
theorem stT_0 (F : Int32 → Int32 → Int32) (t : Nat → Int32) (m : Int32) : stT F t m 0 = t := by
  funext z
  unfold stT
  rw [if_neg (fun q => Nat.not_lt_zero _ q.1.2.2.2)]
theorem stT_o {F : Int32 → Int32 → Int32} {t : Nat → Int32} {m : Int32} {k z : Nat} (h : z < 370 ∨ 850 ≤ z ∨ (z - 370) % 8 ≠ 5 ∨ k ≤ (z - 370) / 8) : stT F t m k z = t z := by
  unfold stT
  rw [if_neg (fun q => by omega)]
theorem stT_s {F : Int32 → Int32 → Int32} {t : Nat → Int32} {m : Int32} {k : Nat} (hk : k < 60) : stT F t m (k + 1) = if wr F t m k then upd (stT F t m k) (370 + 8 * k + 5) (nI 2) else stT F t m k := by
  funext z
  by_cases e : z = 370 + 8 * k + 5
  · subst e
    have e1 : (370 + 8 * k + 5 - 370) / 8 = k := by omega
    by_cases c : wr F t m k
    · rw [if_pos c, upd_s]
      unfold stT
      rw [e1, if_pos ⟨by omega, c⟩]
    · rw [if_neg c]
      unfold stT
      rw [e1, if_neg (fun q => c q.2), if_neg (fun q => c q.2)]
  · have : (if wr F t m k then upd (stT F t m k) (370 + 8 * k + 5) (nI 2) else stT F t m k) z = stT F t m k z := by
      by_cases c : wr F t m k
      · rw [if_pos c, upd_o e]
      · rw [if_neg c]
    rw [this]
    unfold stT
    by_cases c : (370 ≤ z ∧ z < 850 ∧ (z - 370) % 8 = 5 ∧ (z - 370) / 8 < k) ∧ wr F t m ((z - 370) / 8)
    · rw [if_pos c, if_pos ⟨by omega, c.2⟩]
    · rw [if_neg c, if_neg (fun q => c ⟨by omega, q.2⟩)]
theorem wr_st {F : Int32 → Int32 → Int32} {t : Nat → Int32} {m : Int32} {k i : Nat} (h : k ≤ i) : wr F (stT F t m k) m i = wr F t m i := by
  unfold wr
  rw [stT_o (by omega), stT_o (by omega), stT_o (by omega), stT_o (by omega), stT_o (by omega)]
def wrS (F : Int32 → Int32 → Int32) (t : Nat → Int32) (m : Int32) (i : Nat) : Int32 := if wr F t m i then t (370 + 8 * i + 2) else 0
theorem ib1 (c : Prop) [Decidable c] : ((if c then nI 1 else nI 0) = 0) = ¬ c := by
  by_cases h : c
  · rw [if_pos h]; exact propext ⟨fun q => absurd q (by decide +kernel), fun q => absurd h q⟩
  · rw [if_neg h]; exact propext ⟨fun _ => h, fun _ => nI_0⟩
theorem ite_ib {α : Type} (c : Prop) [Decidable c] (A B : α) : (if (if c then nI 1 else nI 0) = 0 then A else B) = if c then B else A := by
  by_cases h : c
  · rw [if_pos h, if_pos h, if_neg (by decide +kernel)]
  · rw [if_neg h, if_neg h, if_pos nI_0]
/-- the class's loop; g: whether it gives back -/
theorem wrC {X : qX} {v : Nat} {I0 : qI} {t : Nat → Int32} {j : Nat} (h0 : TV X v I0 t) (hv : v ≤ 195) (m : Int32) (g : Bool) : ∀ r fC i x (I : qI), i + r = cn t 3 → r < fC → RV X v I (stT (gv4 X v I0 (t 0)) t m (if g = true then i else 0)) j → ∃ I', q_fix (fun _ _ _ => none) (b_X9_wrongFines_5 v m (if g = true then nI 1 else nI 0) X) fC x (nI i) I = some (sumF (wrS (gv4 X v I0 (t 0)) t m) i r x, I') ∧ RV X v I' (stT (gv4 X v I0 (t 0)) t m (if g = true then cn t 3 else 0)) j ∧ FC v I I' := by
  intro r
  induction r with
  | zero =>
    intro fC i x I h1 h2 h
    obtain ⟨fC, rfl⟩ : ∃ z, fC = z + 1 := ⟨fC - 1, by omega⟩
    have e : i = cn t 3 := by omega
    subst e
    refine ⟨I, ?_, h, FC.rfl'⟩
    show b_X9_wrongFines_5 v m (if g = true then nI 1 else nI 0) X (q_fix _ _ fC) x (nI (cn t 3)) I = _
    unfold b_X9_wrongFines_5
    rw [h.sc3 rfl, h.k3.1, show cn (stT (gv4 X v I0 (t 0)) t m (if g = true then cn t 3 else 0)) 3 = cn t 3 by unfold cn; rw [stT_o (by omega)], if_pos (Int32.le_refl _)]
    rfl
  | succ r ih =>
    intro fC i x I h1 h2 h
    obtain ⟨fC, rfl⟩ : ∃ z, fC = z + 1 := ⟨fC - 1, by omega⟩
    have e3 : cn (stT (gv4 X v I0 (t 0)) t m (if g = true then i else 0)) 3 = cn t 3 := by unfold cn; rw [stT_o (by omega)]
    have b := h.bd
    rw [e3] at b
    have hi : i < 60 := by omega
    have hk : (if g = true then i else 0) ≤ i := by cases g <;> simp
    show ∃ I', b_X9_wrongFines_5 v m (if g = true then nI 1 else nI 0) X (q_fix (fun _ _ _ => none) (b_X9_wrongFines_5 v m (if g = true then nI 1 else nI 0) X) fC) x (nI i) I = some (sumF (wrS (gv4 X v I0 (t 0)) t m) (i + 1) r (x + wrS (gv4 X v I0 (t 0)) t m i), I') ∧ _ ∧ _
    have ih' := fun x I => ih fC (i + 1) x I (by omega) (by omega)
    generalize q_fix (fun _ _ _ => none) (b_X9_wrongFines_5 v m (if g = true then nI 1 else nI 0) X) fC = KC at ih' ⊢
    unfold b_X9_wrongFines_5 b_X9_wrongFines_71
    rw [h.sc3 rfl, h.k3.1, e3, if_neg (nI_ge (by omega) (by omega)), u_rd hi (by decide), u_s1, h.d1 (by omega) hi, stT_o (by omega), nI_add]
    -- the next state
    have nx : ∀ I', RV X v I' (stT (gv4 X v I0 (t 0)) t m (if g = true then i else 0)) j → ¬ wr (gv4 X v I0 (t 0)) t m i → RV X v I' (stT (gv4 X v I0 (t 0)) t m (if g = true then i + 1 else 0)) j := by
      intro I' hI hw
      cases g with
      | false => exact hI
      | true =>
        simp only [if_true] at hI ⊢
        rw [stT_s hi, if_neg hw]; exact hI
    by_cases c0 : t (370 + 8 * i + 1) = m
    rotate_left
    · have hw : ¬ wr (gv4 X v I0 (t 0)) t m i := fun q => c0 q.2.1
      rw [if_neg c0]
      obtain ⟨I', g1, g2, g3⟩ := ih' x I (nx I h hw)
      refine ⟨I', ?_, g2, g3⟩
      rw [g1]
      unfold wrS
      rw [if_neg hw, Int32.add_zero]
    have hT : TV X v I0 (stT (gv4 X v I0 (t 0)) t m (if g = true then i else 0)) := h0.cg (fun n hn => stT_o (by omega))
    obtain ⟨I1, w1, w2⟩ := cW hT h hv hi (m := m) (by rw [stT_o (by omega)]; exact c0)
    rw [stT_o (show 0 < 370 ∨ _ from Or.inl (by decide))] at w1
    simp only [wr_st hk] at w1
    rw [if_pos c0, w1, u_s2, ite_ib]
    have h' := h.sc hv w2
    by_cases hw : wr (gv4 X v I0 (t 0)) t m i
    rotate_left
    · rw [if_neg hw]
      obtain ⟨I', g1, g2, g3⟩ := ih' x I1 (nx I1 h' hw)
      refine ⟨I', ?_, g2, w2.fc.tr g3⟩
      rw [g1]
      unfold wrS
      rw [if_neg hw, Int32.add_zero]
    · rw [if_pos hw, u_rd hi (by decide), u_s1, h'.d2 (by omega) hi, stT_o (by omega)]
      have hs : wrS (gv4 X v I0 (t 0)) t m i = t (370 + 8 * i + 2) := by unfold wrS; rw [if_pos hw]
      cases g with
      | false =>
        simp only [Bool.false_eq_true, if_false] at h' ih' ⊢
        rw [if_pos nI_0]
        obtain ⟨I', g1, g2, g3⟩ := ih' (x + t (370 + 8 * i + 2)) I1 h'
        refine ⟨I', ?_, g2, w2.fc.tr g3⟩
        rw [g1, hs]
      | true =>
        simp only [if_true] at h' ih' ⊢
        rw [if_neg (show ¬ nI 1 = 0 by decide +kernel), u_wr hi (by decide), u_s1]
        have h2' := h'.up hv (vq_due i hi 5 (by decide) (by decide)) (x := nI 2) (rgS_n (rn_d5 i hi)) (h'.dd.up (by simp [dr]; omega) _) (by omega) (by omega) (by rw [show cn (stT (gv4 X v I0 (t 0)) t m i) 2 = cn t 2 by unfold cn; rw [stT_o (by omega)]]; omega)
        obtain ⟨I', g1, g2, g3⟩ := ih' (x + t (370 + 8 * i + 2)) (q_up I1 (v + 33) i (nI 2)) (by rw [stT_s hi, if_pos hw]; exact h2')
        refine ⟨I', ?_, g2, (w2.fc.up (by omega) (by omega)).tr g3⟩
        rw [g1, hs]
theorem wrM {X : qX} {v : Nat} {I0 : qI} {t : Nat → Int32} (h0 : TV X v I0 t) (hv : v ≤ 195) (hc : t 3 = nI (cn t 3) ∧ cn t 3 ≤ 60) (m : Int32) : ∀ r fM i x (J : qI), i + r = cn t 3 → r < fM → J 270 = t → ∃ J', q_fix (fun _ _ _ => none) (b_X12_wrong_15 269 m) fM x (nI i) J = some (sumF (wrS (gv4 X v I0 (t 0)) t m) i r x, J') ∧ SJ J J' := by
  intro r
  induction r with
  | zero =>
    intro fM i x J h1 h2 h
    obtain ⟨fM, rfl⟩ : ∃ z, fM = z + 1 := ⟨fM - 1, by omega⟩
    have e : i = cn t 3 := by omega
    subst e
    refine ⟨J, ?_, SJ.rf⟩
    show b_X12_wrong_15 269 m (q_fix _ _ fM) x (nI (cn t 3)) J = _
    unfold b_X12_wrong_15
    rw [u_rd (by decide) (by decide), u_s1, show J (269 + 1) 3 = nI (cn t 3) by rw [← hc.1, ← h], if_pos (Int32.le_refl _)]
    rfl
  | succ r ih =>
    intro fM i x J h1 h2 h
    obtain ⟨fM, rfl⟩ : ∃ z, fM = z + 1 := ⟨fM - 1, by omega⟩
    have hi : i < 60 := by omega
    show ∃ J', b_X12_wrong_15 269 m (q_fix (fun _ _ _ => none) (b_X12_wrong_15 269 m) fM) x (nI i) J = some (sumF (wrS (gv4 X v I0 (t 0)) t m) (i + 1) r (x + wrS (gv4 X v I0 (t 0)) t m i), J') ∧ _
    have ih' := fun x J => ih fM (i + 1) x J (by omega) (by omega)
    generalize q_fix (fun _ _ _ => none) (b_X12_wrong_15 269 m) fM = KM at ih' ⊢
    unfold b_X12_wrong_15 b_X12_wrong_51 f_X12_dueAt
    obtain ⟨J1, w1, w2⟩ := mW (J := J) (by rw [h]; exact h0) hv hi m
    rw [h] at w1
    rw [u_rd (by decide) (by decide), u_s1, show J (269 + 1) 3 = nI (cn t 3) by rw [← hc.1, ← h], if_neg (nI_ge (by omega) (by omega)), w1, u_s2, ite_ib, u_s1, nI_add, u_mul, nI_add, nI_add, u_rd (show 370 + 8 * i + 2 < 3580 by omega) (by decide), u_s1]
    have hJ1 : J1 270 = t := (w2 270 (by decide) (by decide)).trans h
    by_cases hw : wr (gv4 X v I0 (t 0)) t m i
    · rw [if_pos hw, show J1 (269 + 1) = t from hJ1]
      obtain ⟨J', g1, g2⟩ := ih' (x + t (370 + 8 * i + 2)) J1 hJ1
      refine ⟨J', ?_, w2.tr g2⟩
      rw [g1]
      unfold wrS
      rw [if_pos hw]
    · rw [if_neg hw]
      obtain ⟨J', g1, g2⟩ := ih' (x + nI 0) J1 hJ1
      refine ⟨J', ?_, w2.tr g2⟩
      rw [g1]
      unfold wrS
      rw [if_neg hw, nI_0]
theorem W_wrong {X : qX} (y1 : Int32) : P2 X (f_X11_wrong 64 y1 X) (f_X12_wrong 269 y1) := by
  intro I J h
  show G2 X I J (f_X11_wrong 64 y1 X I) (f_X12_wrong 269 y1 J)
  have hR := h.rv
  have b := hR.bd
  unfold f_X11_wrong f_X12_wrong f_X9_wrongFines
  simp only [hR.hasM (a := 64 + 13) rfl, hR.isMan, u_s1, u_ib, ite_not]
  refine G2.ite (fun c1 => ?_) (fun _ => h.same _)
  obtain ⟨I', g1, g2, g3⟩ := wrC hR.tv (by decide) y1 false (cn (J 270) 3) q_fu 0 (nI 0) I (Nat.zero_add _) (by have := q_fu1; omega) (by simp only [Bool.false_eq_true, if_false]; rw [stT_0]; exact hR)
  obtain ⟨J', k1, k2⟩ := wrM hR.tv (by decide) hR.k3 y1 (cn (J 270) 3) q_fu 0 (nI 0) J (Nat.zero_add _) (by have := q_fu1; omega) rfl
  simp only [Bool.false_eq_true, if_false] at g1 g2
  rw [show (64 + 1 : Nat) = 65 from rfl, g1, k1, u_s2]
  rw [stT_0] at g2
  refine h.put2 ?_ g3 k2.gm rfl
  rw [k2 270 (by decide) (by decide)]
  exact g2
