/-! LEVEL B: check -/
/-- the numbers that waited against the rows -/
theorem fw {I J : qI} {X : qX} {c D : Nat} {x1 x2 x3 : Int32} (hc : c ≤ 60) (hD : D ≤ 60) (h : ∀ i, i < c → I 267 i = J 285 i) (hr : ∀ i, i < D → I 268 i = J 286 i) (h41 : J 269 41 = nI D) : ∀ r f g i, i + r = D → r < f → r < g → i ≤ c → ∃ v, q_fix (fun _ => none) (b_X11_firstWrong_2 64 (nI c) (nI D) I) f (nI i) = some v ∧ q_fix (fun _ _ _ => none) (b_X12_check_57 269 x1 x2 x3 X) g (nI c) (nI i) J = some (v, J) := by
  intro r
  induction r with
  | zero =>
    intro f g i h1 h2 h3 h4
    obtain ⟨f, rfl⟩ : ∃ z, f = z + 1 := ⟨f - 1, by omega⟩
    obtain ⟨g, rfl⟩ : ∃ z, g = z + 1 := ⟨g - 1, by omega⟩
    have e : i = D := by omega
    subst e
    show ∃ v, b_X11_firstWrong_2 64 (nI c) (nI i) I (q_fix (fun _ => none) (b_X11_firstWrong_2 64 (nI c) (nI i) I) f) (nI i) = some v ∧ b_X12_check_57 269 x1 x2 x3 X (q_fix (fun _ _ _ => none) (b_X12_check_57 269 x1 x2 x3 X) g) (nI c) (nI i) J = some (v, J)
    unfold b_X11_firstWrong_2 b_X12_check_57 b_X12_check_96
    rw [h41, if_pos (Int32.le_refl (nI i))]
    by_cases z : c ≤ i
    · have e : i = c := by omega
      subst e
      rw [if_pos (Int32.le_refl (nI i)), if_pos (Int32.le_refl (nI i)), if_pos rfl, if_pos rfl]
      exact ⟨_, rfl, rfl⟩
    · rw [if_neg (nI_ge (by omega) (by omega)), if_neg (nI_ge (by omega) (by omega)), if_pos (Int32.le_refl (nI i)), if_neg (fun q => z (by have := (nI_eq (by omega) (by omega)).mp q; omega))]
      exact ⟨_, rfl, rfl⟩
  | succ r ih =>
    intro f g i h1 h2 h3 h4
    obtain ⟨f, rfl⟩ : ∃ z, f = z + 1 := ⟨f - 1, by omega⟩
    obtain ⟨g, rfl⟩ : ∃ z, g = z + 1 := ⟨g - 1, by omega⟩
    have ih' := ih f g (i + 1) (by omega) (by omega) (by omega)
    show ∃ v, b_X11_firstWrong_2 64 (nI c) (nI D) I (q_fix (fun _ => none) (b_X11_firstWrong_2 64 (nI c) (nI D) I) f) (nI i) = some v ∧ b_X12_check_57 269 x1 x2 x3 X (q_fix (fun _ _ _ => none) (b_X12_check_57 269 x1 x2 x3 X) g) (nI c) (nI i) J = some (v, J)
    generalize q_fix (fun _ => none) (b_X11_firstWrong_2 64 (nI c) (nI D) I) f = KC at ih' ⊢
    generalize q_fix (fun _ _ _ => none) (b_X12_check_57 269 x1 x2 x3 X) g = KM at ih' ⊢
    unfold b_X11_firstWrong_2 b_X12_check_57 b_X12_check_96
    rw [h41, if_neg (nI_ge (a := i) (by omega) (by omega))]
    by_cases z : c ≤ i
    · have e : i = c := by omega
      subst e
      rw [if_pos (Int32.le_refl (nI i)), if_pos (Int32.le_refl (nI i)), if_pos rfl, if_neg (fun q => by have := (nI_eq (by omega) (by omega)).mp q; omega)]
      exact ⟨_, rfl, rfl⟩
    rw [if_neg (nI_ge (a := i) (b := c) (by omega) (by omega)), if_neg (nI_ge (a := i) (b := c) (by omega) (by omega)), if_neg (nI_ge (a := i) (b := D) (by omega) (by omega)), u_rd (show i < 60 by omega) (by decide), u_s1, u_rd (show i < 60 by omega) (by decide), u_s1, u_rd (show i < 60 by omega) (by decide), u_s1, u_rd (show i < 60 by omega) (by decide), u_s1, show I (64 + 203) i = J (269 + 16) i from h i (by omega), show I (64 + 204) i = J (269 + 17) i from hr i (by omega), nI_add]
    by_cases y : J (269 + 16) i = J (269 + 17) i
    · rw [if_pos y, if_pos y]; exact ih' (by omega)
    · rw [if_neg y, if_neg y, if_neg (fun q => by have := (nI_eq (by omega) (by omega)).mp q; omega)]
      exact ⟨_, rfl, rfl⟩
/-- so many places of the rows are written -/
def CK (d : Nat) (I J : qI) : Prop := J 269 41 = nI d ∧ ∀ k, k < d → I 268 k = J 286 k
theorem CK.step {d : Nat} {I J : qI} (h : CK d I J) (hd : d + 2 ≤ 60) (x y : Int32) : f_X12_dueIs 269 x y J = some (q_up (q_up (q_up J 286 d x) 286 (d + 1) y) 269 41 (nI (d + 2))) ∧ CK (d + 2) (q_up (q_up I 268 d x) 268 (d + 1) y) (q_up (q_up (q_up J 286 d x) 286 (d + 1) y) 269 41 (nI (d + 2))) := by
  refine ⟨?_, u_up_same, fun k hk => ?_⟩
  · unfold f_X12_dueIs
    rw [h.1, u_wr (show d < 60 by omega) (by decide), u_s1, u_up_a (by decide), h.1, nI_add, u_wr (show d + 1 < 60 by omega) (by decide), u_s1, u_s1, u_up_a (by decide), u_up_a (by decide), h.1, nI_add]
  · rw [u_up_a (b := 286) (by decide)]
    by_cases e : k = d + 1
    · rw [e, u_up_same, u_up_same]
    rw [u_up_j e, u_up_j e]
    by_cases e2 : k = d
    · rw [e2, u_up_same, u_up_same]
    rw [u_up_j e2, u_up_j e2]
    exact h.2 k (by omega)
/-- what lies beside the rows is as it was -/
def CB (I0 J0 I J : qI) : Prop := (∀ a, a ≠ 268 → I a = I0 a) ∧ (∀ a, a ≠ 269 → a ≠ 286 → J a = J0 a) ∧ ∀ k, k ≠ 41 → J 269 k = J0 269 k
theorem CB.rf {I J : qI} : CB I J I J := ⟨fun _ _ => rfl, fun _ _ _ => rfl, fun _ _ => rfl⟩
theorem CB.step {d : Nat} {I0 J0 I J : qI} (h : CB I0 J0 I J) (x y z : Int32) : CB I0 J0 (q_up (q_up I 268 d x) 268 (d + 1) y) (q_up (q_up (q_up J 286 d x) 286 (d + 1) y) 269 41 z) := by
  refine ⟨fun a ha => ?_, fun a h1 h2 => ?_, fun k hk => ?_⟩
  · funext k; rw [u_up_a ha, u_up_a ha, h.1 a ha]
  · funext k; rw [u_up_a h1, u_up_a h2, u_up_a h2, h.2.1 a h1 h2]
  · rw [u_up_j hk, u_up_a (by decide), u_up_a (by decide), h.2.2 k hk]
theorem ck_C {x1 x2 x3 : Int32} {n : Nat} {I0 J0 : qI} (hn : n ≤ 8) (hI : I0 117 9 = nI n) (hJ : J0 270 6 = nI n) {v : Int32} (hv : 0 ≤ v) (hb : ∀ i, i < n → I0 123 i = J0 283 i ∧ I0 124 i = J0 284 i) : ∀ r f g i I J, i + r = n → r < f → r < g → CB I0 J0 I J → CK (2 * i) I J → ∃ I' J' K, q_fix (fun _ _ => none) (b_X11_orderChecked_39 64 x1 x2 x3) f (nI i) I = b_X11_orderChecked_39 64 x1 x2 x3 K (nI n) I' ∧ q_fix (fun _ _ _ => none) (b_X12_rowsOfOrder_24 269 x2 x3) g v (nI i) J = some (nI 0, J') ∧ CB I0 J0 I' J' ∧ CK (2 * n) I' J' := by
  intro r
  induction r with
  | zero =>
    intro f g i I J h1 h2 h3 hB hK
    obtain ⟨f, rfl⟩ : ∃ z, f = z + 1 := ⟨f - 1, by omega⟩
    obtain ⟨g, rfl⟩ : ∃ z, g = z + 1 := ⟨g - 1, by omega⟩
    have e : i = n := by omega
    subst e
    refine ⟨I, J, _, rfl, ?_, hB, hK⟩
    show b_X12_rowsOfOrder_24 269 x2 x3 (q_fix (fun _ _ _ => none) (b_X12_rowsOfOrder_24 269 x2 x3) g) v (nI i) J = _
    unfold b_X12_rowsOfOrder_24 b_X12_rowsOfOrder_64
    rw [u_rd (show 6 < 3580 by decide) (by decide), u_s1, show J (269 + 1) = J0 270 from hB.2.1 270 (by decide) (by decide), hJ, if_pos (Int32.le_refl _), if_pos hv]
  | succ r ih =>
    intro f g i I J h1 h2 h3 hB hK
    obtain ⟨f, rfl⟩ : ∃ z, f = z + 1 := ⟨f - 1, by omega⟩
    obtain ⟨g, rfl⟩ : ∃ z, g = z + 1 := ⟨g - 1, by omega⟩
    have e3 : I 123 i = J 283 i := by rw [hB.1 123 (by decide), hB.2.1 283 (by decide) (by decide)]; exact (hb i (by omega)).1
    have e4 : I 124 i = J 284 i := by rw [hB.1 124 (by decide), hB.2.1 284 (by decide) (by decide)]; exact (hb i (by omega)).2
    obtain ⟨s1, s2⟩ := hK.step (by omega) (J 283 i) (J 284 i)
    obtain ⟨I', J', K, k1, k2, k3, k4⟩ := ih f g (i + 1) _ _ (by omega) (by omega) (by omega) (hB.step (d := 2 * i) (J 283 i) (J 284 i) (nI (2 * i + 2))) s2
    refine ⟨I', J', K, ?_, ?_, k3, k4⟩
    · rw [← k1]
      show b_X11_orderChecked_39 64 x1 x2 x3 (q_fix (fun _ _ => none) (b_X11_orderChecked_39 64 x1 x2 x3) f) (nI i) I = _
      generalize q_fix (fun _ _ => none) (b_X11_orderChecked_39 64 x1 x2 x3) f = KC
      unfold b_X11_orderChecked_39
      rw [show I (64 + 53) 9 = nI n by rw [show I (64 + 53) = I0 117 from hB.1 117 (by decide)]; exact hI, if_neg (nI_ge (by omega) (by omega)), u_rd (show i < 8 by omega) (by decide), u_s1, u_mul, u_wr (show 2 * i < 60 by omega) (by decide), u_s1, u_rd (show i < 8 by omega) (by decide), u_s1, nI_add, u_wr (show 2 * i + 1 < 60 by omega) (by decide), u_s1, nI_add, u_up_a (show 64 + 60 ≠ 64 + 204 by decide), show I (64 + 59) i = _ from e3, show I (64 + 60) i = _ from e4]
    · rw [← k2]
      show b_X12_rowsOfOrder_24 269 x2 x3 (q_fix (fun _ _ _ => none) (b_X12_rowsOfOrder_24 269 x2 x3) g) v (nI i) J = _
      generalize q_fix (fun _ _ _ => none) (b_X12_rowsOfOrder_24 269 x2 x3) g = KM
      unfold b_X12_rowsOfOrder_24
      rw [u_rd (show 6 < 3580 by decide) (by decide), u_s1, show J (269 + 1) = J0 270 from hB.2.1 270 (by decide) (by decide), hJ, if_neg (nI_ge (by omega) (by omega)), if_neg (Int32.not_lt.mpr hv), u_rd (show i < 8 by omega) (by decide), u_s1, u_rd (show i < 8 by omega) (by decide), u_s1, show f_X12_dueIs 269 (J (269 + 14) i) (J (269 + 15) i) J = _ from s1, u_s1, nI_add]
theorem WW.cb {X : qX} {I J I' J' : qI} (h : WW X I J) (hB : CB I J I' J') : WW X I' J' ∧ CF I I' ∧ (∀ a, (a < 269 ∨ 287 ≤ a) → J' a = J a) := by
  refine ⟨h.side (fun a ha => hB.1 a (by omega)) (by rw [hB.1 64 (by decide)]) (fun a ha => hB.2.1 a (by omega) (by omega)) (hB.2.2 3 (by decide)) (hB.2.2 25 (by decide)) ?_ ?_ ?_, fun a h1 h2 => hB.1 a (by omega), fun a ha => hB.2.1 a (by omega) (by omega)⟩
  · unfold BK
    rw [hB.1 264 (by decide), hB.1 265 (by decide), hB.1 266 (by decide), hB.2.1 273 (by decide) (by decide), hB.2.1 274 (by decide) (by decide), hB.2.1 275 (by decide) (by decide)]
    exact h.bk
  · unfold WT
    rw [hB.1 64 (by decide), hB.1 267 (by decide), hB.2.1 285 (by decide) (by decide), hB.2.2 39 (by decide)]
    exact h.wt
  · unfold TP
    rw [hB.1 260 (by decide), hB.1 261 (by decide), hB.2.1 276 (by decide) (by decide), hB.2.2 14 (by decide)]
    exact h.tp
/-- the same for days: the trial and the model's row go on -/
def CD (X : qX) (I0 J0 : qI) (d : Nat) (I J : qI) : Prop := RV X 195 I (J 270) 0 ∧ (∀ a, (a < 195 ∨ 260 ≤ a) → a ≠ 268 → I a = I0 a) ∧ (∀ a, (a < 269 ∨ (271 ≤ a ∧ a ≤ 276) ∨ 279 ≤ a) → a ≠ 286 → J a = J0 a) ∧ (∀ k, (k < 7 ∨ 13 ≤ k) → k ≠ 41 → J 269 k = J0 269 k) ∧ cn (J 270) 0 = d
theorem CD.step {X : qX} {I0 J0 I J : qI} {d : Nat} (h : CD X I0 J0 d I J) (hd : d < 7099) (h25 : J0 269 25 = 0) {i : Nat} (hi : i < 28) (hK : CK (2 * i) I J) : ∃ I1 I2 I3 J1 J2 x y, f_X9_goBy 195 (nI 1) (nI 0) X I = some I1 ∧ f_X9_allEarned 195 I1 = some x ∧ q_wr I1 268 60 (nI (2 * i)) x = some I2 ∧ f_X9_allOwed 195 I2 = some y ∧ q_wr I2 268 60 (nI (2 * i + 1)) y = some I3 ∧ f_X12_oneDay 269 J = some J1 ∧ f_X12_allEarned 269 J1 = some x ∧ f_X12_stands 269 (nI 0) J1 = some y ∧ f_X12_dueIs 269 x y J1 = some J2 ∧ CD X I0 J0 (d + 1) I3 J2 ∧ CK (2 * i + 2) I3 J2 := by
  obtain ⟨hR, hI, hJ, hF, hc⟩ := h
  obtain ⟨I1, J1, g1, g2, g3, g4, g5, g6, -⟩ := go_lp (X := X) (v := 195) (n := 1) (x2 := nI 0) (by decide) (by decide) 1 q_fu 0 I J rfl (by have := q_fu1; omega) hR (Or.inr ⟨by decide, by omega⟩) (Or.inl ⟨nI_0, by rw [hF 25 (by decide) (by decide)]; exact h25⟩)
  obtain ⟨J1', k1, k2⟩ := q_b1_some g2
  cases k2
  have hK1 : CK (2 * i) I1 J1 := ⟨by rw [g5.2 41 (by decide)]; exact hK.1, fun k hk => by rw [g4 268 (by decide), g5.1 286 (by decide)]; exact hK.2 k hk⟩
  have ki : ∀ (G : qI) (k : Nat) (z : Int32) a, a ≠ 268 → q_up G 268 k z a = G a := fun G k z a ha => by funext m; exact u_up_a ha
  obtain ⟨s1, s2⟩ := hK1.step (by omega) (sumF (fun m => J1 270 (370 + 8 * cn (J1 270) (80 + 24 * m + 10) + 2)) 0 (cn (J1 270) 2) (nI 0)) (sumF (fun m => J1 270 (370 + 8 * cn (J1 270) (80 + 24 * m + 11) + 2)) 0 (cn (J1 270) 2) (nI 0))
  have r2 : ∀ z, RV X 195 (q_up I1 268 (2 * i) z) (J1 270) 0 := fun z => g3.keepC (fun o ho => ki _ _ _ _ (by omega)) (fun a ha => ki _ _ _ _ (by omega))
  refine ⟨I1, _, _, J1, _, _, _, g1, g3.allE rfl, u_wr (by omega) (by decide), (r2 _).allO rfl, u_wr (by omega) (by decide), k1, g3.allEJ, g3.st0, s1, ⟨?_, fun a h1 h2 => ?_, fun a h1 h2 => ?_, fun k h1 h2 => ?_, ?_⟩, s2⟩
  · rw [show q_up (q_up (q_up J1 286 _ _) 286 _ _) 269 41 (nI (2 * i + 2)) 270 = J1 270 by funext k; rw [u_up_a (by decide), u_up_a (by decide), u_up_a (by decide)]]
    exact (r2 _).keepC (fun o ho => ki _ _ _ _ (by omega)) (fun a ha => ki _ _ _ _ (by omega))
  · rw [ki _ _ _ _ h2, ki _ _ _ _ h2, g4 a (by omega)]; exact hI a h1 h2
  · funext k
    rw [u_up_a (by omega), u_up_a h2, u_up_a h2, g5.1 a h1, hJ a h1 h2]
  · rw [u_up_j h2, u_up_a (by decide), u_up_a (by decide), g5.2 k h1]; exact hF k h1 h2
  · rw [show q_up (q_up (q_up J1 286 _ _) 286 _ _) 269 41 (nI (2 * i + 2)) 270 = J1 270 by funext k; rw [u_up_a (by decide), u_up_a (by decide), u_up_a (by decide)]]
    unfold cn
    rw [g6, nI_clamp (by omega), hc]
theorem ck_D {X : qX} {x1 : Int32} {n d0 : Nat} {I0 J0 : qI} (hn : n ≤ 28) (hd : d0 ≤ 6999) (h25 : J0 269 25 = 0) : ∀ r f g i I J, i + r = n → r < f → r < g → CD X I0 J0 (d0 + i) I J → CK (2 * i) I J → ∃ I' J' K KM, q_fix (fun _ _ _ => none) (b_X11_daysChecked_36 64 x1 (nI n)) f (nI i) X I = b_X11_daysChecked_36 64 x1 (nI n) K (nI n) X I' ∧ q_fix (fun _ _ => none) (b_X12_rowsOfDays_52 269 (nI n) X) g (nI i) J = b_X12_rowsOfDays_52 269 (nI n) X KM (nI n) J' ∧ CD X I0 J0 (d0 + n) I' J' ∧ CK (2 * n) I' J' := by
  intro r
  induction r with
  | zero =>
    intro f g i I J h1 h2 h3 hB hK
    obtain ⟨f, rfl⟩ : ∃ z, f = z + 1 := ⟨f - 1, by omega⟩
    obtain ⟨g, rfl⟩ : ∃ z, g = z + 1 := ⟨g - 1, by omega⟩
    have e : i = n := by omega
    subst e
    exact ⟨I, J, _, _, rfl, rfl, hB, hK⟩
  | succ r ih =>
    intro f g i I J h1 h2 h3 hB hK
    obtain ⟨f, rfl⟩ : ∃ z, f = z + 1 := ⟨f - 1, by omega⟩
    obtain ⟨g, rfl⟩ : ∃ z, g = z + 1 := ⟨g - 1, by omega⟩
    obtain ⟨I1, I2, I3, J1, J2, x, y, a1, a2, a3, a4, a5, a6, a7, a8, a9, b1, b2⟩ := hB.step (by omega) h25 (i := i) (by omega) hK
    obtain ⟨I', J', K, KM, k1, k2, k3, k4⟩ := ih f g (i + 1) I3 J2 (by omega) (by omega) (by omega) b1 b2
    refine ⟨I', J', K, KM, ?_, ?_, k3, k4⟩
    · rw [← k1]
      show b_X11_daysChecked_36 64 x1 (nI n) (q_fix (fun _ _ _ => none) (b_X11_daysChecked_36 64 x1 (nI n)) f) (nI i) X I = _
      generalize q_fix (fun _ _ _ => none) (b_X11_daysChecked_36 64 x1 (nI n)) f = KC
      unfold b_X11_daysChecked_36
      rw [if_neg (nI_ge (by omega) (by omega)), show (64 + 131 : Nat) = 195 from rfl, show (64 + 204 : Nat) = 268 from rfl, a1, u_s1, a2, u_s1, u_mul, a3, u_s1, a4, u_s1, nI_add, a5, u_s1, nI_add]
    · rw [← k2]
      show b_X12_rowsOfDays_52 269 (nI n) X (q_fix (fun _ _ => none) (b_X12_rowsOfDays_52 269 (nI n) X) g) (nI i) J = _
      generalize q_fix (fun _ _ => none) (b_X12_rowsOfDays_52 269 (nI n) X) g = KC
      unfold b_X12_rowsOfDays_52
      rw [if_neg (nI_ge (by omega) (by omega)), a6, u_s1, a7, u_s1, a8, u_s1, a9, u_s1, nI_add]
theorem WW.emp {X : qX} {I J : qI} (h : WW X I J) : WW X (q_up I 64 7 (nI 0)) (q_up (q_up J 269 39 (nI 0)) 269 41 (nI 0)) := by
  have sI : ∀ a, a ≠ 64 → q_up I 64 7 (nI 0) a = I a := fun a ha => by funext k; exact u_up_a ha
  have sJ : ∀ a, a ≠ 269 → q_up (q_up J 269 39 (nI 0)) 269 41 (nI 0) a = J a := fun a ha => by funext k; rw [u_up_a ha, u_up_a ha]
  refine h.side (fun a ha => sI a (by omega)) (u_up_j (by decide)) (fun a ha => sJ a (by omega)) (by rw [u_up_j (by decide), u_up_j (by decide)]) (by rw [u_up_j (by decide), u_up_j (by decide)]) ?_ ?_ ?_
  · unfold BK
    rw [sI 264 (by decide), sI 265 (by decide), sI 266 (by decide), sJ 273 (by decide), sJ 274 (by decide), sJ 275 (by decide)]
    exact h.bk
  · exact ⟨0, by decide, u_up_same, by rw [u_up_j (by decide), u_up_same], fun i hi => absurd hi (Nat.not_lt_zero _)⟩
  · unfold TP
    rw [sI 260 (by decide), sI 261 (by decide), sJ 276 (by decide), u_up_j (by decide), u_up_j (by decide)]
    exact h.tp
theorem W_check {X : qX} (y1 y2 y3 : Int32) : PX X (f_X11_check 64 y1 y2 y3 X) (fun X' => f_X12_check 269 y1 y2 y3 X') := by
  intro I J h
  show ∃ r I' X' J', f_X11_check 64 y1 y2 y3 X I = some (r, I', X') ∧ f_X12_check 269 y1 y2 y3 X' J = some (r, J') ∧ _
  obtain ⟨c, c1, c2, c3, c4⟩ := h.wt
  have h1 := h.emp
  have sI : ∀ a, a ≠ 64 → q_up I 64 7 (nI 0) a = I a := fun a ha => by funext k; exact u_up_a ha
  have sJ : ∀ a, a ≠ 269 → q_up (q_up J 269 39 (nI 0)) 269 41 (nI 0) a = J a := fun a ha => by funext k; rw [u_up_a ha, u_up_a ha]
  unfold f_X11_check f_X12_check
  rw [c2, u_s1]
  simp only [c3, u_s1]
  have cf1 : CF I (q_up I 64 7 (nI 0)) := fun a _ _ => sI a (by omega)
  have mf1 : MF J (q_up (q_up J 269 39 (nI 0)) 269 41 (nI 0)) := fun a ha => sJ a (by omega)
  have w267 : q_up I 64 7 (nI 0) 267 = I 267 := sI 267 (by decide)
  have w285 : q_up (q_up J 269 39 (nI 0)) 269 41 (nI 0) 285 = J 285 := sJ 285 (by decide)
  have w41 : q_up (q_up J 269 39 (nI 0)) 269 41 (nI 0) 269 41 = nI 0 := u_up_same
  rw [← w267, ← w285] at c4
  generalize q_up I 64 7 (nI 0) = I1 at *
  generalize q_up (q_up J 269 39 (nI 0)) 269 41 (nI 0) = J1 at *
  clear sI sJ w267 w285
  by_cases a0 : y1 = 0
  · simp only [if_pos a0]
    unfold f_X11_orderChecked f_X12_rowsOfOrder
    simp only [funC, funM, u_s1, u_ib, ite_not]
    by_cases b1 : (nI 0 ≤ y2 ∧ y2 ≤ nI 9999) ∧ (nI 0 ≤ y3 ∧ y3 ≤ nI 99)
    rotate_left
    · simp only [if_neg b1]
      rw [u_s2]
      exact ⟨_, I1, X, J1, rfl, by rw [u_s2]; unfold b_X12_check_44; rw [if_neg (by decide)], h1, cf1, mf1⟩
    simp only [if_pos b1]
    obtain ⟨F, rfl, -, hF⟩ := u_range (by decide) b1.1.1 b1.1.2 (by decide)
    obtain ⟨inc, rfl, -, hi⟩ := u_range (by decide) b1.2.1 b1.2.2 (by decide)
    obtain ⟨v, I2, J2, k1, k2, k3, k4, k5⟩ := fo h1.rv hF hi (T := 20000) (by decide)
    obtain ⟨k6, c8⟩ := h1.rv.k6
    have h2 : WW X I2 J2 ∧ CF I1 I2 ∧ MF J1 J2 := by
      obtain ⟨r, I', J', z1, z2, z3⟩ := h1.sx k3 k4 (r := nI 0) rfl
      cases z1; cases z2
      exact z3
    have hC : I2 117 9 = nI (cn (J1 270) 6) := ((h1.rv.sx (by decide) k3).sc6 (a := 117) rfl).trans k6
    have hJ : J2 270 = J1 270 := k4.1 270 (by decide) (by decide)
    have e285 : J2 285 = J1 285 := k4.1 285 (by decide) (by decide)
    have e267 : I2 267 = I1 267 := k3.1 267 (by decide)
    rw [show f_X4_found (64 + 53) (nI F) (nI inc) (nI 20000) I1 = _ from k1, k2, u_s2, u_s2]
    by_cases q : 0 ≤ v
    rotate_left
    · rw [if_neg q, u_s2]
      have q' : v < 0 := Int32.not_le.mp q
      have e24 : q_fix (fun _ _ _ => none) (b_X12_rowsOfOrder_24 269 (nI F) (nI inc)) q_fu v (nI 0) J2 = some (v, J2) := by
        obtain ⟨f, hf⟩ : ∃ z, q_fu = z + 1 := ⟨q_fu - 1, by have := q_fu1; omega⟩
        rw [hf]
        show b_X12_rowsOfOrder_24 269 (nI F) (nI inc) (q_fix (fun _ _ _ => none) (b_X12_rowsOfOrder_24 269 (nI F) (nI inc)) f) v (nI 0) J2 = _
        unfold b_X12_rowsOfOrder_24 b_X12_rowsOfOrder_64
        rw [u_rd (show 6 < 3580 by decide) (by decide), u_s1, if_neg q, if_pos q', ite_self]
      rw [e24]
      refine ⟨v, I2, X, J2, rfl, ?_, h2.1, fun a b c => (h2.2.1 a b c).trans (cf1 a b c), fun a ha => (h2.2.2 a ha).trans (mf1 a ha)⟩
      rw [u_s2]
      unfold b_X12_check_44
      rw [if_neg (fun z => by rw [z] at q'; exact absurd q' (by decide))]
    rw [if_pos q]
    obtain ⟨I3, J3, K, l1, l2, l3, l4⟩ := ck_C (x1 := nI c) (x2 := nI F) (x3 := nI inc) (n := cn (J1 270) 6) (by omega) hC (by rw [hJ]; exact k6) q (k5 q) (cn (J1 270) 6) q_fu q_fu 0 I2 J2 (Nat.zero_add _) (by have := q_fu1; omega) (by have := q_fu1; omega) CB.rf ⟨by rw [k4.2 41 (by decide)]; exact w41, fun k hk => absurd hk (by omega)⟩
    obtain ⟨u, m1, m2⟩ := fw (X := X) (x1 := y1) (x2 := nI F) (x3 := nI inc) (I := I3) (J := J3) (c := c) (D := 2 * cn (J1 270) 6) c1 (by omega) (fun i hi => by rw [l3.1 267 (by decide), e267, l3.2.1 285 (by decide) (by decide), e285]; exact c4 i hi) l4.2 l4.1 (2 * cn (J1 270) 6) q_fu q_fu 0 (Nat.zero_add _) (by have := q_fu1; omega) (by have := q_fu1; omega) (Nat.zero_le _)
    obtain ⟨w1, w2, w3⟩ := h2.1.cb l3
    refine ⟨u, I3, X, J3, ?_, ?_, w1, fun a b c => (w2 a b c).trans ((h2.2.1 a b c).trans (cf1 a b c)), fun a ha => (w3 a ha).trans ((h2.2.2 a ha).trans (mf1 a ha))⟩
    · rw [l1]
      unfold b_X11_orderChecked_39 f_X11_firstWrong
      rw [show I3 (64 + 53) 9 = nI (cn (J1 270) 6) by rw [show I3 (64 + 53) = I2 117 from l3.1 117 (by decide)]; exact hC, if_pos (Int32.le_refl _), u_mul, m1, u_s1, u_s2]
    · rw [l2, u_s2]
      unfold b_X12_check_44
      rw [if_pos nI_0, m2]
  simp only [if_neg a0]
  by_cases a1 : y1 = nI 1
  rotate_left
  · simp only [if_neg a1]
    exact ⟨_, I1, X, J1, rfl, by unfold b_X12_check_44; rw [if_neg (by decide)], h1, cf1, mf1⟩
  simp only [if_pos a1]
  unfold f_X11_daysChecked f_X12_rowsOfDays
  simp only [u_within, ii_1_28, u_s1, u_ib, ite_not]
  by_cases b1 : nI 1 ≤ y2 ∧ y2 ≤ nI 28
  rotate_left
  · simp only [if_neg b1]
    rw [u_s3]
    exact ⟨_, I1, X, J1, rfl, by rw [u_s2]; unfold b_X12_check_44; rw [if_neg (by decide)], h1, cf1, mf1⟩
  simp only [if_pos b1]
  obtain ⟨n, rfl, hn1, hn2⟩ := u_range (by decide) b1.1 b1.2 (by decide)
  have hR := h1.rv
  obtain ⟨p1, p2⟩ := h1.kp
  rcases p2 with e | ⟨e, hI⟩
  · rw [if_pos (p1.trans e), u_s3]
    exact ⟨_, I1, X, J1, rfl, by rw [if_pos e, u_s2]; unfold b_X12_check_44; rw [if_neg (by decide)], h1, cf1, mf1⟩
  obtain ⟨I2, X2, g1, g2, g3, g4, g5, g6⟩ := become_ev h1.1 h1.ax (v := 195) (w := 130) (by decide) (by decide) (by decide) I1
  have hX2 := h1.1.ref (v := 195) (by decide) g6 g4
  obtain ⟨J2, j1, j2, j3⟩ := sa (X := X2) (a := 270) (b := 272) (hX2.k (k := 206) rfl rfl) (hX2.k (k := 208) rfl rfl) (by decide) J1
  obtain ⟨J3, j4, j5, j6⟩ := sa (X := X2) (a := 271) (b := 270) (hX2.k (k := 207) rfl rfl) (hX2.k (k := 206) rfl rfl) (by decide) J2
  have r1 : RV X2 195 I2 (J1 271) 0 := hI.copy g2 (fun a ha => g3 a (by omega)) g5 (fun a => q_kd2 g4 a)
  have t3 : ∀ k, k < 3580 → J3 270 k = J1 271 k := fun k hk => by rw [j5 k hk, j3 271 (by decide)]
  have r2 : RV X2 195 I2 (J3 270) 0 := r1.tcg t3
  have d3 : cn (J3 270) 0 ≤ 6999 := by
    have := hI.k0n (by decide)
    unfold cn at this ⊢
    rw [t3 0 (by decide)]; exact this
  have e25 : J3 269 25 = 0 := by rw [j6 269 (by decide), j3 269 (by decide)]; exact h1.bs
  obtain ⟨I4, J4, K, KM, l1, l2, ⟨l3, l5, l6, l7, -⟩, l4⟩ := ck_D (X := X2) (x1 := nI c) (n := n) (d0 := cn (J3 270) 0) (I0 := I2) (J0 := J3) hn2 d3 e25 n q_fu q_fu 0 I2 J3 (Nat.zero_add _) (by have := q_fu1; omega) (by have := q_fu1; omega) ⟨r2, fun _ _ _ => rfl, fun _ _ _ => rfl, fun _ _ _ => rfl, rfl⟩ ⟨by rw [j6 269 (by decide), j3 269 (by decide)]; exact w41, fun k hk => absurd hk (by omega)⟩
  obtain ⟨J5, o1, o2, o3⟩ := sa (X := X2) (a := 272) (b := 270) (hX2.k (k := 208) rfl rfl) (hX2.k (k := 206) rfl rfl) (by decide) J4
  have cI : ∀ a, (a < 195 ∨ 260 ≤ a) → a ≠ 268 → I4 a = I1 a := fun a h1 h2 => (l5 a h1 h2).trans (g3 a (by omega))
  have cJ : ∀ a, (a < 269 ∨ (271 ≤ a ∧ a ≤ 276) ∨ 279 ≤ a) → a ≠ 286 → a ≠ 272 → J5 a = J1 a := fun a h1 h2 h3 => by rw [o3 a (by omega), l6 a h1 h2, j6 a (by omega), j3 a h3]
  have fJ : ∀ k, (k < 7 ∨ 13 ≤ k) → k ≠ 41 → J5 269 k = J1 269 k := fun k h1 h2 => by rw [o3 269 (by decide), l7 k h1 h2, j6 269 (by decide), j3 269 (by decide)]
  have tJ : ∀ k, k < 3580 → J5 270 k = J1 270 k := fun k hk => by rw [o2 k hk, l6 272 (by decide) (by decide), j6 272 (by decide), j2 k hk]
  obtain ⟨u, m1, m2⟩ := fw (X := X2) (x1 := y1) (x2 := nI n) (x3 := y3) (I := I4) (J := J5) (c := c) (D := 2 * n) c1 (by omega) (fun i hi => by rw [cI 267 (by decide) (by decide), cJ 285 (by decide) (by decide) (by decide)]; exact c4 i hi) (fun k hk => by rw [o3 286 (by decide)]; exact l4.2 k hk) (by rw [o3 269 (by decide)]; exact l4.1) (2 * n) q_fu q_fu 0 (Nat.zero_add _) (by have := q_fu1; omega) (by have := q_fu1; omega) (Nat.zero_le _)
  refine ⟨u, I4, X2, J5, ?_, ?_, ⟨hX2, ?_, ⟨?_, Or.inr ⟨?_, ?_⟩⟩, ?_, ?_, ?_, ?_, h1.ax.ref (w := 130) (by decide) g6 g4 g5⟩, fun a b c => (cI a (by omega) (by omega)).trans (cf1 a b c), fun a ha => (cJ a (by omega) (by omega) (by omega)).trans (mf1 a ha)⟩
  · rw [if_neg (by rw [p1, e]; decide), show (64 + 131 : Nat) = 195 from rfl, show (64 + 66 : Nat) = 130 from rfl, g1, u_s2, l1]
    unfold b_X11_daysChecked_36 f_X11_firstWrong
    rw [if_pos (Int32.le_refl _), u_mul, m1, u_s1, u_s3]
  · rw [if_neg (by rw [e]; decide), show (269 + 1 : Nat) = 270 from rfl, show (269 + 2 : Nat) = 271 from rfl, show (269 + 3 : Nat) = 272 from rfl, j1, u_s1, j4, u_s1, l2]
    unfold b_X12_rowsOfDays_52
    rw [if_pos (Int32.le_refl _), show (269 + 1 : Nat) = 270 from rfl, show (269 + 3 : Nat) = 272 from rfl, o1, u_s1, u_s2]
    unfold b_X12_check_44
    rw [if_pos nI_0, m2]
  · exact ((hR.keepC (fun o ho => cI _ (by omega) (by omega)) (fun a ha => cI a (by omega) (by omega))).xcg (g6 _ (by decide)) g4).tcg tJ
  · rw [cI 64 (by decide) (by decide), fJ 3 (by decide) (by decide)]; exact p1
  · rw [fJ 3 (by decide) (by decide)]; exact e
  · rw [cJ 271 (by decide) (by decide) (by decide)]
    exact (hI.keepC (fun o ho => cI _ (by omega) (by omega)) (fun a ha => cI a (by omega) (by omega))).xcg (g6 _ (by decide)) g4
  · unfold BK
    rw [cI 264 (by decide) (by decide), cI 265 (by decide) (by decide), cI 266 (by decide) (by decide), cJ 273 (by decide) (by decide) (by decide), cJ 274 (by decide) (by decide) (by decide), cJ 275 (by decide) (by decide) (by decide)]
    exact h1.bk
  · unfold WT
    rw [cI 64 (by decide) (by decide), cI 267 (by decide) (by decide), fJ 39 (by decide) (by decide), cJ 285 (by decide) (by decide) (by decide)]
    exact h1.wt
  · unfold TP
    rw [cI 260 (by decide) (by decide), cI 261 (by decide) (by decide), fJ 14 (by decide) (by decide), cJ 276 (by decide) (by decide) (by decide)]
    exact h1.tp
  · rw [fJ 25 (by decide) (by decide)]; exact h1.bs
