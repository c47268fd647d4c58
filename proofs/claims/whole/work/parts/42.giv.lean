/-! LEVEL B: a text worked through, both sides -/
def SC (v : Nat) (I I' : qI) : Prop := ∀ b, b ≠ v + 41 → I' b = I b
def SJ (J J' : qI) : Prop := ∀ b, b ≠ 277 → b ≠ 278 → J' b = J b
theorem SC.rf {v : Nat} {I : qI} : SC v I I := fun _ _ => rfl
theorem SC.tr {v : Nat} {I I' I'' : qI} (h : SC v I I') (h' : SC v I' I'') : SC v I I'' := fun b hb => (h' b hb).trans (h b hb)
theorem SJ.tr {I I' I'' : qI} (h : SJ I I') (h' : SJ I' I'') : SJ I I'' := fun b hb hc => (h' b hb hc).trans (h b hb hc)
theorem SC.up {v : Nat} {I I' : qI} (h : SC v I I') {i : Nat} {x : Int32} : SC v I (q_up I' (v + 41) i x) := fun b hb => by
  funext k; rw [u_up_a hb]; exact congrFun (h b hb) k
theorem SJ.up {I I' : qI} (h : SJ I I') {a i : Nat} {x : Int32} (ha : a = 277 ∨ a = 278) : SJ I (q_up I' a i x) := fun b hb hc => by
  funext k; rw [u_up_a (by omega)]; exact congrFun (h b hb hc) k
theorem SJ.rf {I : qI} : SJ I I := fun _ _ _ => rfl
theorem SC.fc {v : Nat} {I I' : qI} (h : SC v I I') : FC v I I' := fun a ha => h a (by omega)
theorem SJ.gm {J J' : qI} (h : SJ J J') : GM J J' := ⟨fun a ha => h a (by omega) (by omega), fun k _ => congrFun (h 269 (by decide) (by decide)) k⟩
theorem RV.sc {X : qX} {v : Nat} {I I' : qI} {t : Nat → Int32} {j : Nat} (h : RV X v I t j) (hv : v ≤ 195) (hs : SC v I I') : RV X v I' t j := by
  obtain ⟨hA, hF, hR, hD, hH, hT⟩ := h
  refine ⟨hA.keep fun n o i hn _ => by rw [hs _ (by have := vq_34 hn; omega)], fun m a b => ⟨(hF m a b).1, fun k hk => ?_⟩, hR, hD, fun d hd => ?_, fun k hk => ?_⟩
  · rw [hs _ (by omega)]; exact (hF m a b).2 k hk
  · rw [hs _ (by omega)]; exact hH d hd
  · obtain ⟨a, L, d, e1, e2, e⟩ := hT k hk
    refine ⟨a, L, d, e1, e2, ?_⟩
    rw [hs a (by omega)]; exact e
theorem wfc_le {key L : Nat} {c s : Nat → Int32} {d : Nat → Nat} (h : wfc key L c s d) : ∀ k, k ≤ L → d k ≤ k := by
  intro k
  induction k with
  | zero => intro _; rw [h.1]; exact Nat.le_refl _
  | succ k ih =>
    intro hk
    have := ih (by omega)
    rcases h.2 k (by omega) with ⟨_, _, _, _, _, e⟩ | ⟨_, _, _, _, _, e⟩ | ⟨_, _, _, _, e⟩ | ⟨_, _, _, _, _, _, e⟩ <;> omega
def arg3 (A B C : Int32) (i : Nat) : Int32 := if i = 0 then A else if i = 1 then B else C
theorem named_ev {i : Nat} (hi : i < 3) (A B C : Int32) : f_X7_named (nI (10000 + i) - nI 10000) A B C = some (arg3 A B C i) := by
  rw [u_sub (by omega), Nat.add_sub_cancel_left]
  unfold f_X7_named arg3
  rcases (show i = 0 ∨ i = 1 ∨ i = 2 by omega) with rfl | rfl | rfl
  · rw [if_pos nI_0]; rfl
  · rw [if_neg (by decide +kernel), if_pos rfl]; rfl
  · rw [if_neg (by decide +kernel), if_neg (by decide +kernel)]; rfl
theorem nmL_lt : ∀ key, key < 7 → ∀ i, i < nmN key → nmL key i < 128 ∧ i < 3 := by decide +kernel
theorem worked_eq {X : qX} {v i a L key : Nat} {t : Nat → Int32} {c : Nat → Int32} {d : Nat → Nat} {A B C : Int32} {nm : Nat → Int32} (hv : v ≤ 195) (hkey : key < 7) (hi : i < 12) (ha : 287 ≤ a) (hkd : q_kd X a = some (0, L)) (hL : L ≤ 96) (ht : t (850 + 200 * i + 3) = nI L) (hd : d L = 1) (hw : wfc key L c (fun k => t (850 + 200 * i + 4 + k)) d) (hn : ∀ q, q < nmN key → nm (nmL key q) = arg3 A B C q) : ∀ r k fC fM (I J : qI), k + r = L → r < fC → r < fM → (∀ q, q < d k → I (v + 41) q = J 278 q) → I a = c → J 270 = t → J 277 = nm → ∃ x I' J', q_fix (fun _ _ _ _ => none) (b_X7_value_21 (v + 36) (nI i) A B C X) fC (some a) (nI (d k)) (nI k) I = some (x, I') ∧ q_fix (fun _ _ _ => none) (b_X12_worked_4 269 (nI i)) fM (nI (d k)) (nI k) J = some (x, J') ∧ SC v I I' ∧ SJ J J' := by
  intro r
  induction r with
  | zero =>
    intro k fC fM I J h1 h2 h3 hst hIa hJt hJn
    obtain ⟨fC, rfl⟩ : ∃ z, fC = z + 1 := ⟨fC - 1, by omega⟩
    obtain ⟨fM, rfl⟩ : ∃ z, fM = z + 1 := ⟨fM - 1, by omega⟩
    have e : k = L := by omega
    subst e
    show ∃ x I' J', b_X7_value_21 (v + 36) (nI i) A B C X (q_fix (fun _ _ _ _ => none) (b_X7_value_21 (v + 36) (nI i) A B C X) fC) (some a) (nI (d k)) (nI k) I = some (x, I') ∧ b_X12_worked_4 269 (nI i) (q_fix (fun _ _ _ => none) (b_X12_worked_4 269 (nI i)) fM) (nI (d k)) (nI k) J = some (x, J') ∧ SC v I I' ∧ SJ J J'
    unfold b_X7_value_21 b_X12_worked_4 f_X12_textAt
    rw [u_arr hkd, u_s2, if_pos (Int32.le_refl _), hd, if_neg (nI_nle (by decide) (by decide)), u_sub (by decide), u_rd (by decide) (by decide), u_s1, u_s1, u_mul, nI_add, nI_add, u_rd (show 850 + 200 * i + 3 < 3580 by omega) (by decide), u_s1, show J (269 + 1) (850 + 200 * i + 3) = nI k by rw [← ht, ← hJt], if_pos (Int32.le_refl _), u_rd (by decide) (by decide), u_s1]
    refine ⟨_, _, _, rfl, ?_, SC.rf, SJ.rf⟩
    rw [hd] at hst
    have := hst 0 (by decide)
    show some (J 278 0, J) = some (I (v + 41) 0, J)
    rw [this]
  | succ r ih =>
    intro k fC fM I J h1 h2 h3 hst hIa hJt hJn
    obtain ⟨fC, rfl⟩ : ∃ z, fC = z + 1 := ⟨fC - 1, by omega⟩
    obtain ⟨fM, rfl⟩ : ∃ z, fM = z + 1 := ⟨fM - 1, by omega⟩
    have hkL : k < L := by omega
    have hdk := wfc_le hw k (by omega)
    have ih' := fun I J => ih (k + 1) fC fM I J (by omega) (by omega) (by omega)
    show ∃ x I' J', b_X7_value_21 (v + 36) (nI i) A B C X (q_fix (fun _ _ _ _ => none) (b_X7_value_21 (v + 36) (nI i) A B C X) fC) (some a) (nI (d k)) (nI k) I = some (x, I') ∧ b_X12_worked_4 269 (nI i) (q_fix (fun _ _ _ => none) (b_X12_worked_4 269 (nI i)) fM) (nI (d k)) (nI k) J = some (x, J') ∧ SC v I I' ∧ SJ J J'
    generalize q_fix (fun _ _ _ _ => none) (b_X7_value_21 (v + 36) (nI i) A B C X) fC = KC at ih' ⊢
    generalize q_fix (fun _ _ _ => none) (b_X12_worked_4 269 (nI i)) fM = KM at ih' ⊢
    have hst' : J 270 (850 + 200 * i + 4 + 2 * k) = (fun k => t (850 + 200 * i + 4 + k)) (2 * k) := by rw [hJt]
    have hsv : J 270 (850 + 200 * i + 4 + 2 * k + 1) = (fun k => t (850 + 200 * i + 4 + k)) (2 * k + 1) := by rw [hJt]; rfl
    unfold b_X7_value_21 b_X12_worked_4 f_X12_textAt
    rw [u_arr hkd, u_s2, if_neg (nI_ge hkL (by omega)), u_rd hkL (by omega), u_s1, hIa]
    rw [u_s1, u_mul, nI_add, nI_add, u_rd (show 850 + 200 * i + 3 < 3580 by omega) (by decide), u_s1, show J (269 + 1) (850 + 200 * i + 3) = nI L by rw [← ht, ← hJt], if_neg (nI_ge hkL (by omega)), u_s1, u_mul, nI_add, nI_add, u_rd (show 850 + 200 * i + 4 + 2 * k < 3580 by omega) (by decide), u_s1, u_s1, nI_add, nI_add, nI_add, u_rd (show 850 + 200 * i + 4 + 2 * k + 1 < 3580 by omega) (by decide), u_s1]
    rw [show J (269 + 1) (850 + 200 * i + 4 + 2 * k) = _ from hst', show J (269 + 1) (850 + 200 * i + 4 + 2 * k + 1) = _ from hsv]
    rcases hw.2 k hkL with ⟨n, q1, q2, q3, q4, q5⟩ | ⟨n, q1, q2, q3, q4, q5⟩ | ⟨q2, q3, q4, q5, q6⟩ | ⟨s, q1, q2, q3, q4, q5, q6⟩
    · rw [q2, q3, q4, if_neg (nI_pos (by omega)), if_neg (nI_ge (by omega) (by decide)), if_neg (nI_ge (by omega) (by decide)), if_neg (show ¬ nI 0 = nI 2 by decide +kernel), if_pos nI_0]
      unfold b_X7_value_83 b_X7_value_176 b_X12_worked_86 b_X12_worked_157
      rw [u_wr (show d k < 96 by omega) (by decide), u_s1, u_wr (show d k < 100 by omega) (by decide), u_s1, nI_add, nI_add, ← q5]
      obtain ⟨x, I', J', g1, g2, g3, g4⟩ := ih' (q_up I (v + 36 + 5) (d k) (nI n)) (q_up J (269 + 9) (d k) (nI n)) (fun q hq => by
        by_cases e : q = d k
        · subst e; rw [show v + 41 = v + 36 + 5 from rfl, u_up_same, show (278 : Nat) = 269 + 9 from rfl, u_up_same]
        · rw [show v + 41 = v + 36 + 5 from rfl, u_up_j e, show (278 : Nat) = 269 + 9 from rfl, u_up_j e]; exact hst q (by omega)) (by funext z; rw [u_up_a (by omega), hIa]) (by funext z; rw [u_up_a (by decide), hJt]) (by funext z; rw [u_up_a (by decide), hJn])
      exact ⟨x, I', J', g1, g2, SC.tr SC.rf.up g3, SJ.tr (SJ.rf.up (Or.inr rfl)) g4⟩
    · obtain ⟨l1, l2⟩ := nmL_lt key hkey n q1
      rw [q2, q3, q4, if_neg (nI_pos (by omega)), if_neg (nI_ge (by omega) (by decide)), if_pos (nI_le (by omega) (by omega)), if_neg (show ¬ nI 1 = nI 2 by decide +kernel), if_neg (show ¬ nI 1 = 0 by decide +kernel), named_ev l2, u_s1, u_rd l1 (by decide), u_s1, show J (269 + 8) (nmL key n) = arg3 A B C n by rw [← hn n q1, ← hJn]]
      unfold b_X7_value_83 b_X7_value_176 b_X12_worked_86 b_X12_worked_157
      rw [u_wr (show d k < 96 by omega) (by decide), u_s1, u_wr (show d k < 100 by omega) (by decide), u_s1, nI_add, nI_add, ← q5]
      obtain ⟨x, I', J', g1, g2, g3, g4⟩ := ih' (q_up I (v + 36 + 5) (d k) (arg3 A B C n)) (q_up J (269 + 9) (d k) (arg3 A B C n)) (fun q hq => by
        by_cases e : q = d k
        · subst e; rw [show v + 41 = v + 36 + 5 from rfl, u_up_same, show (278 : Nat) = 269 + 9 from rfl, u_up_same]
        · rw [show v + 41 = v + 36 + 5 from rfl, u_up_j e, show (278 : Nat) = 269 + 9 from rfl, u_up_j e]; exact hst q (by omega)) (by funext z; rw [u_up_a (by omega), hIa]) (by funext z; rw [u_up_a (by decide), hJt]) (by funext z; rw [u_up_a (by decide), hJn])
      exact ⟨x, I', J', g1, g2, SC.tr SC.rf.up g3, SJ.tr (SJ.rf.up (Or.inr rfl)) g4⟩
    · rw [q2, q3, q4, if_pos (by decide), if_pos rfl, if_pos rfl]
      unfold b_X7_value_90 b_X7_value_127 b_X7_value_176 b_X12_worked_123 b_X12_worked_157
      rw [if_pos rfl, if_neg (nI_nle (by omega) (by omega)), u_sub q5, u_rd (show d k - 1 < 96 by omega) (by decide), u_s1, u_rd (show d k - 1 < 100 by omega) (by decide), u_s1]
      have e0 := hst (d k - 1) (by omega)
      rw [show I (v + 36 + 5) (d k - 1) = J 278 (d k - 1) from e0, show J (269 + 9) (d k - 1) = J 278 (d k - 1) from rfl, u_wr (show d k - 1 < 96 by omega) (by decide), u_wr (show d k - 1 < 96 by omega) (by decide), u_s1, u_s1, u_wr (show d k - 1 < 100 by omega) (by decide), u_wr (show d k - 1 < 100 by omega) (by decide), u_s1, u_s1, nI_add]
      have fin : ∀ y : Int32, ∃ x I' J', KC (some a) (nI (d k)) (nI (k + 1)) (q_up I (v + 36 + 5) (d k - 1) y) = some (x, I') ∧ KM (nI (d k)) (nI (k + 1)) (q_up J (269 + 9) (d k - 1) y) = some (x, J') ∧ SC v I I' ∧ SJ J J' := by
        intro y
        rw [← q6]
        obtain ⟨x, I', J', g1, g2, g3, g4⟩ := ih' (q_up I (v + 36 + 5) (d k - 1) y) (q_up J (269 + 9) (d k - 1) y) (fun q hq => by
          by_cases e : q = d k - 1
          · subst e; rw [show v + 41 = v + 36 + 5 from rfl, u_up_same, show (278 : Nat) = 269 + 9 from rfl, u_up_same]
          · rw [show v + 41 = v + 36 + 5 from rfl, u_up_j e, show (278 : Nat) = 269 + 9 from rfl, u_up_j e]; exact hst q (by omega)) (by funext z; rw [u_up_a (by omega), hIa]) (by funext z; rw [u_up_a (by decide), hJt]) (by funext z; rw [u_up_a (by decide), hJn])
        rw [← q6] at *
        exact ⟨x, I', J', g1, g2, SC.tr SC.rf.up g3, SJ.tr (SJ.rf.up (Or.inr rfl)) g4⟩
      by_cases e : J 278 (d k - 1) = 0
      · simp only [if_pos e]; exact fin _
      · simp only [if_neg e]; exact fin _
    · obtain ⟨z, j1, j2⟩ := joined_eq q1 (J 278 (d k - 2)) (J 278 (d k - 1))
      have s33 : s ≠ 33 := by unfold isOp at q1; omega
      have sp : 0 < s ∧ s < 200 := by unfold isOp at q1; omega
      have ng : - nI s < 0 := by
        rcases q1 with rfl | rfl | rfl | rfl | rfl | rfl | rfl | rfl | rfl <;> decide +kernel
      have n33 : ¬ - nI s = -33 := by
        rcases q1 with rfl | rfl | rfl | rfl | rfl | rfl | rfl | rfl | rfl <;> decide +kernel
      rw [q2, q3, q4, if_pos ng, if_pos rfl, if_neg (fun q => s33 ((nI_eq (by omega) (by decide)).mp q))]
      unfold b_X7_value_90 b_X7_value_131 b_X7_value_176 b_X12_worked_157
      have m1 : nI (d k) + -1 = nI (d k - 1) := by rw [← u_sub (by omega : 1 ≤ d k), Int32.sub_eq_add_neg]; rfl
      rw [if_neg n33, if_neg (Int32.not_le.mpr ng), if_neg (nI_ge (by omega) (by omega)), m1, u_sub (show 1 ≤ d k - 1 by omega), Nat.sub_sub, u_rd (show d k - (1 + 1) < 96 by omega) (by decide), u_s1, u_rd (show d k - 1 < 96 by omega) (by decide), u_s1, u_rd (show d k - (1 + 1) < 100 by omega) (by decide), u_s1, u_rd (show d k - 1 < 100 by omega) (by decide), u_s1]
      rw [show I (v + 36 + 5) (d k - (1 + 1)) = J 278 (d k - 2) from hst _ (by omega), show I (v + 36 + 5) (d k - 1) = J 278 (d k - 1) from hst _ (by omega), show J (269 + 9) (d k - 1) = J 278 (d k - 1) from rfl, show J (269 + 9) (d k - (1 + 1)) = J 278 (d k - 2) from rfl, j1, j2, u_s1, u_s1, u_wr (show d k - (1 + 1) < 96 by omega) (by decide), u_wr (show d k - (1 + 1) < 100 by omega) (by decide), u_s1, u_s1, nI_add, show d k - 1 = d (k + 1) by omega]
      obtain ⟨x, I', J', g1, g2, g3, g4⟩ := ih' (q_up I (v + 36 + 5) (d k - (1 + 1)) z) (q_up J (269 + 9) (d k - (1 + 1)) z) (fun q hq => by
        by_cases e : q = d k - (1 + 1)
        · subst e; rw [show v + 41 = v + 36 + 5 from rfl, u_up_same, show (278 : Nat) = 269 + 9 from rfl, u_up_same]
        · rw [show v + 41 = v + 36 + 5 from rfl, u_up_j e, show (278 : Nat) = 269 + 9 from rfl, u_up_j e]; exact hst q (by omega)) (by funext z; rw [u_up_a (by omega), hIa]) (by funext z; rw [u_up_a (by decide), hJt]) (by funext z; rw [u_up_a (by decide), hJn])
      exact ⟨x, I', J', g1, g2, SC.tr SC.rf.up g3, SJ.tr (SJ.rf.up (Or.inr rfl)) g4⟩
