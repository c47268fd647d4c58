/-! LEVEL B: a week: fines and stops -/
theorem q_up_comm' {I : qI} {a i k : Nat} {x y : Int32} (h : i ≠ k) : q_up (q_up I a i x) a k y = q_up (q_up I a k y) a i x := by
  funext c n
  by_cases e : c = a
  · subst e
    by_cases e1 : n = i
    · subst e1; rw [u_up_j h, u_up_same, u_up_same]
    · by_cases e2 : n = k
      · subst e2; rw [u_up_same, u_up_j e1, u_up_same]
      · rw [u_up_j e2, u_up_j e1, u_up_j e1, u_up_j e2]
  · rw [u_up_a e, u_up_a e, u_up_a e, u_up_a e]
theorem tkM2 {X : qX} {v : Nat} {I J : qI} {j i m L : Nat} (h : RV X v I (J 270) j) (hj : j ≤ 12) (hi : i < cn (J 270) 3) (g : Bool) (C : Int32) (KM : Int32 → Int32 → qI → Option qI) (q7 : J 269 7 = nI L) (hL : L < 2 ^ 31) : b_X12_pays_169 269 (nI m) (ib g) KM C (nI i) J = if tkc (J 270) m 4 i then KM C (nI (i + 1)) (q_up (q_up (q_up (q_up J 269 7 (nI (L - min (cn (J 270) (370 + 8 * i + 2)) L))) 269 10 (J 269 10 + nI (min (cn (J 270) (370 + 8 * i + 2)) L))) 270 (370 + 8 * i + 5) (if g = true then nI 1 else nI 0)) 270 (370 + 8 * i + 2) (if g = true then nI (min (cn (J 270) (370 + 8 * i + 2)) L) else J 270 (370 + 8 * i + 2))) else KM C (nI (i + 1)) J := by
  have b := h.bd
  have hi6 : i < 60 := by omega
  obtain ⟨k1, k2, k3⟩ := h.kd (d := i) hi
  obtain ⟨a1, a2⟩ := h.am hj (d := i) hi
  have k0 := h.k0.2
  unfold b_X12_pays_169 b_X12_pays_309 f_X12_dueAt
  rw [u_rd (by decide) (by decide), u_s1, h.k3.1, if_neg (nI_ge hi (by omega)), u_s1, u_mul, nI_add, nI_add, u_rd (show 370 + 8 * i + 1 < 3580 by omega) (by decide), u_s1, nI_add, u_rd (show 370 + 8 * i + 5 < 3580 by omega) (by decide), u_s1, u_rd (show 370 + 8 * i < 3580 by omega) (by decide), u_s1, show J (269 + 1) = J 270 from rfl, k1, nI_add, u_rd (show 370 + 8 * i + 2 < 3580 by omega) (by decide), u_s1, show J (269 + 1) = J 270 from rfl, q7, q_least, u_s1, nI_add i 1]
  by_cases c1 : J 270 (370 + 8 * i + 1) = nI m
  rotate_left
  · rw [if_neg c1, if_neg (fun q => c1 q.1)]
  by_cases c2 : J 270 (370 + 8 * i + 5) = 0
  rotate_left
  · rw [if_pos c1, if_neg c2, if_neg (fun q => c2 q.2.1)]
  rw [if_pos c1, if_pos c2]
  by_cases c3 : undB (cn (J 270) (370 + 8 * i)) 4 = true
  rotate_left
  · rw [if_neg (nE (by omega) (by decide) (fun q => c3 ((und4 _ k3 k2).mpr q))), if_neg (show ¬ tkc (J 270) m 4 i from fun q => c3 q.2.2)]
  rw [if_pos (by rw [(und4 _ k3 k2).mp c3]), if_pos (show tkc (J 270) m 4 i from ⟨c1, c2, c3⟩)]
  have e4 : q_min (nI L) (J 270 (370 + 8 * i + 2)) = nI (min (cn (J 270) (370 + 8 * i + 2)) L) := by rw [a1, q_min_nI hL (by omega), Nat.min_comm L]
  rw [e4]
  unfold b_X12_pays_281 b_X12_pays_308 b_X12_pays_309
  rw [u_sub (Nat.min_le_right _ _), u_s1, u_s1, u_up_j (by decide), ite_ib', nI_add, nI_add]
  rw [u_wr (show 370 + 8 * i + 5 < 3580 by omega) (by decide), u_wr (show 370 + 8 * i + 5 < 3580 by omega) (by decide), u_s1, u_s1, ite_ib', ite_ib', u_rd (show 370 + 8 * i + 2 < 3580 by omega) (by decide), u_rd (show 370 + 8 * i + 2 < 3580 by omega) (by decide), u_s1, u_s1, u_wr (show 370 + 8 * i + 2 < 3580 by omega) (by decide), u_wr (show 370 + 8 * i + 2 < 3580 by omega) (by decide), u_wr (show 370 + 8 * i + 2 < 3580 by omega) (by decide), u_wr (show 370 + 8 * i + 2 < 3580 by omega) (by decide)]
  simp only [u_s1]
  cases g with
  | true => simp only [if_true]
  | false =>
    simp only [Bool.false_eq_true, if_false]
    rw [show (269 + 1 : Nat) = 270 from rfl, u_up_j (by omega), u_up_a (by decide), u_up_a (by decide)]
theorem pay2 {X : qX} {v j m E n : Nat} (hv : v ≤ 195) (hE : E < 2 ^ 31) (g : Bool) (C : Int32) : ∀ r fC fM i S (I J : qI), i + r = n → r < fC → r < fM → RV X v I (J 270) j → cn (J 270) 3 = n → J 269 7 = nI (E - S) → J 269 10 = nI S → S ≤ E → j ≤ 12 → ∃ S' I' J', q_fix (fun _ _ _ => none) (b_X1_taken_6 (v + 27) (nI m) (nI 4) (nI E) (ib g)) fC (nI S) (nI i) I = some (nI S', I') ∧ q_fix (fun _ _ _ => none) (b_X12_pays_169 269 (nI m) (ib g)) fM C (nI i) J = q_fix (fun _ _ _ => none) (b_X12_pays_318 269 (nI m) (ib g)) q_fu C (nI 0) J' ∧ RD X v j I J I' J' ∧ J' 269 7 = nI (E - S') ∧ J' 269 10 = nI S' ∧ S' ≤ E ∧ FE [7, 10] J J' ∧ I' (v + 61) = I (v + 61) := by
  intro r
  induction r with
  | zero =>
    intro fC fM i S I J h1 h2 h3 h hn q7 q9 hS hj
    obtain ⟨fC, rfl⟩ : ∃ z, fC = z + 1 := ⟨fC - 1, by omega⟩
    obtain ⟨fM, rfl⟩ : ∃ z, fM = z + 1 := ⟨fM - 1, by omega⟩
    have e : i = cn (J 270) 3 := by omega
    subst e
    refine ⟨S, I, J, ?_, ?_, RD.rf h, q7, q9, hS, FE.rf, rfl⟩
    · show b_X1_taken_6 (v + 27) (nI m) (nI 4) (nI E) (ib g) (q_fix _ _ fC) (nI S) (nI _) I = _
      unfold b_X1_taken_6
      rw [h.sc3 rfl, h.k3.1, if_pos (Int32.le_refl _)]
    · show b_X12_pays_169 269 (nI m) (ib g) (q_fix _ _ fM) C (nI _) J = _
      unfold b_X12_pays_169
      rw [u_rd (by decide) (by decide), u_s1, h.k3.1, if_pos (Int32.le_refl _)]
  | succ r ih =>
    intro fC fM i S I J h1 h2 h3 h hn q7 q9 hS hj
    obtain ⟨fC, rfl⟩ : ∃ z, fC = z + 1 := ⟨fC - 1, by omega⟩
    obtain ⟨fM, rfl⟩ : ∃ z, fM = z + 1 := ⟨fM - 1, by omega⟩
    have b := h.bd
    have hi : i < 60 := by omega
    obtain ⟨k1, k2, k3⟩ := h.kd (d := i) (by omega)
    obtain ⟨a1, a2⟩ := h.am hj (d := i) (by omega)
    have ih' := fun S I J => ih fC fM (i + 1) S I J (by omega) (by omega) (by omega)
    show ∃ S' I' J', b_X1_taken_6 (v + 27) (nI m) (nI 4) (nI E) (ib g) (q_fix (fun _ _ _ => none) (b_X1_taken_6 (v + 27) (nI m) (nI 4) (nI E) (ib g)) fC) (nI S) (nI i) I = _ ∧ b_X12_pays_169 269 (nI m) (ib g) (q_fix (fun _ _ _ => none) (b_X12_pays_169 269 (nI m) (ib g)) fM) C (nI i) J = _ ∧ _
    generalize q_fix (fun _ _ _ => none) (b_X1_taken_6 (v + 27) (nI m) (nI 4) (nI E) (ib g)) fC = KC at ih' ⊢
    generalize q_fix (fun _ _ _ => none) (b_X12_pays_169 269 (nI m) (ib g)) fM = KM at ih' ⊢
    rw [tkC h hj (by omega) (by decide) hE hS g KC, tkM2 h hj (by omega) g C KM q7 (by omega)]
    by_cases c : tkc (J 270) m 4 i
    rotate_left
    · rw [if_neg c, if_neg c]; exact ih' S I J h hn q7 q9 hS hj
    rw [if_pos c, if_pos c]
    have n3 := (und4 _ k3 k2).mp c.2.2
    have ck : J 270 (370 + 8 * i) = nI 4 := by rw [k1, n3]
    generalize hp : min (cn (J 270) (370 + 8 * i + 2)) (E - S) = p
    have hp9 : p ≤ 999 := by
      rcases (h.dd.2.2.2.1 i (by omega)).2.2.2 with z | z | ⟨w, z1, -, z2⟩
      · rw [ck] at z; exact absurd z (by decide +kernel)
      · rw [ck] at z; exact absurd z (by decide +kernel)
      · have : cn (J 270) (370 + 8 * i + 2) = w := by unfold cn; rw [z1]; exact nI_clamp (by omega)
        omega
    have dA := RD.fld h (f := 7) (x := nI (E - S - p)) (by decide)
    have dB := RD.fld dA.1 (f := 10) (x := J 269 10 + nI p) (by decide)
    have dAB := dA.tr dB
    have hJ2 : q_up (q_up J 269 7 (nI (E - S - p))) 269 10 (J 269 10 + nI p) 270 = J 270 := by funext z; rw [u_up_a (by decide), u_up_a (by decide)]
    have f7 : ∀ x y, q_up (q_up (q_up (q_up J 269 7 (nI (E - S - p))) 269 10 (J 269 10 + nI p)) 270 (370 + 8 * i + 5) x) 270 (370 + 8 * i + 2) y 269 7 = nI (E - (S + p)) := fun x y => by rw [u_up_a (by decide), u_up_a (by decide), u_up_j (by decide), u_up_same, Nat.sub_sub]
    have f9 : ∀ x y, q_up (q_up (q_up (q_up J 269 7 (nI (E - S - p))) 269 10 (J 269 10 + nI p)) 270 (370 + 8 * i + 5) x) 270 (370 + 8 * i + 2) y 269 10 = nI (S + p) := fun x y => by rw [u_up_a (by decide), u_up_a (by decide), u_up_same, q9, nI_add]
    have fe : ∀ x y, FE [7, 10] J (q_up (q_up (q_up (q_up J 269 7 (nI (E - S - p))) 269 10 (J 269 10 + nI p)) 270 (370 + 8 * i + 5) x) 270 (370 + 8 * i + 2) y) := fun x y => (((FE.up (by decide)).tr (FE.up (by decide))).tr (FE.o (by decide))).tr (FE.o (by decide))
    cases g with
    | true =>
      simp only [if_true] at ih' ⊢
      rw [settle4 h hi ck, u_s1]
      have dC := RD.up dAB.1 hv (vq_due i hi 2 (by decide) (by decide)) (x := nI p) (rgS_n (rn_d2 i hi)) (dAB.1.dd.amount hi _ ⟨p, rfl, by omega, by rw [hJ2]; omega⟩ (Or.inr (Or.inr ⟨p, rfl, by omega, hp9⟩))) (by omega) (by omega) (by rw [hJ2]; omega)
      have dD := RD.up dC.1 hv (vq_due i hi 5 (by decide) (by decide)) (x := nI 1) (rgS_n (rn_d5 i hi)) (dC.1.dd.up (by simp [dr]; omega) _) (by omega) (by omega) (by rw [dC.c (by decide), hJ2]; omega)
      have d := dAB.tr (dC.tr dD)
      rw [q_up_comm' (show 370 + 8 * i + 2 ≠ 370 + 8 * i + 5 by omega)] at d
      obtain ⟨S', I', J', l1, l2, l3, l4, l5, l6, l7, l8⟩ := ih' (S + p) (q_up (q_up I (v + (28 + 2)) i (nI p)) (v + (28 + 5)) i (nI 1)) _ d.1 (by rw [d.c (by decide)]; exact hn) (f7 _ _) (f9 _ _) (by omega) hj
      exact ⟨S', I', J', l1, l2, d.tr l3, l4, l5, l6, (fe _ _).tr l7, l8.trans (by funext z; rw [u_up_a (by omega), u_up_a (by omega)])⟩
    | false =>
      simp only [Bool.false_eq_true, if_false] at ih' ⊢
      have dC := RD.noop dAB.1 (n := 370 + 8 * i + 5) (x := nI 0) (by rw [hJ2, c.2.1, nI_0])
      have dD := (RD.noop dC.1.1 (n := 370 + 8 * i + 2) (x := J 270 (370 + 8 * i + 2)) (by rw [dC.2, hJ2])).1
      have d := dAB.tr (dC.1.tr dD)
      obtain ⟨S', I', J', l1, l2, l3, l4, l5, l6, l7, l8⟩ := ih' (S + p) I _ d.1 (by rw [d.c (by decide)]; exact hn) (f7 _ _) (f9 _ _) (by omega) hj
      exact ⟨S', I', J', l1, l2, d.tr l3, l4, l5, l6, (fe _ _).tr l7, l8⟩
theorem tkM3 {X : qX} {v : Nat} {I J : qI} {j i m L C S : Nat} (h : RV X v I (J 270) j) (hj : j ≤ 12) (hi : i < cn (J 270) 3) (g : Bool) (KM : Int32 → Int32 → qI → Option qI) (q7 : J 269 7 = nI L) (hL : L < 2 ^ 31) (q11 : J 269 11 = nI S) (hS : S ≤ C) (hC : C < 2 ^ 31) : b_X12_pays_318 269 (nI m) (ib g) KM (nI C) (nI i) J = if tkc (J 270) m 5 i then KM (nI C) (nI (i + 1)) (q_up (q_up (q_up J 269 7 (nI (L - min (min L (cn (J 270) (370 + 8 * i + 2))) (C - S)))) 269 11 (nI (S + min (min L (cn (J 270) (370 + 8 * i + 2))) (C - S)))) 270 (370 + 8 * i + 7) (J 270 (370 + 8 * i + 7) + (if g = true then nI (min (min L (cn (J 270) (370 + 8 * i + 2))) (C - S)) else nI 0))) else KM (nI C) (nI (i + 1)) J := by
  have b := h.bd
  have hi6 : i < 60 := by omega
  obtain ⟨k1, k2, k3⟩ := h.kd (d := i) hi
  obtain ⟨a1, a2⟩ := h.am hj (d := i) hi
  have k0 := h.k0.2
  unfold b_X12_pays_318 b_X12_pays_445 b_X12_pays_443 b_X12_pays_445 f_X12_dueAt
  rw [u_rd (by decide) (by decide), u_s1, h.k3.1, if_neg (nI_ge hi (by omega)), u_s1, u_mul, nI_add, nI_add, u_rd (show 370 + 8 * i + 1 < 3580 by omega) (by decide), u_s1, nI_add, u_rd (show 370 + 8 * i + 5 < 3580 by omega) (by decide), u_s1, u_rd (show 370 + 8 * i < 3580 by omega) (by decide), u_s1, show J (269 + 1) = J 270 from rfl, k1, nI_add, u_rd (show 370 + 8 * i + 2 < 3580 by omega) (by decide), u_s1, show J (269 + 1) = J 270 from rfl, q7, q11, q_least, u_s1, q_least, u_s1, nI_add i 1]
  by_cases c1 : J 270 (370 + 8 * i + 1) = nI m
  rotate_left
  · rw [if_neg c1, if_neg (fun q => c1 q.1)]
  by_cases c2 : J 270 (370 + 8 * i + 5) = 0
  rotate_left
  · rw [if_pos c1, if_neg c2, if_neg (fun q => c2 q.2.1)]
  rw [if_pos c1, if_pos c2]
  by_cases c3 : undB (cn (J 270) (370 + 8 * i)) 5 = true
  rotate_left
  · rw [if_neg (nE (by omega) (by decide) (fun q => c3 ((und5 _ k3 k2).mpr q))), if_neg (show ¬ tkc (J 270) m 5 i from fun q => c3 q.2.2)]
  rw [if_pos (by rw [(und5 _ k3 k2).mp c3]), if_pos (show tkc (J 270) m 5 i from ⟨c1, c2, c3⟩)]
  have e4 : q_min (q_min (nI L) (J 270 (370 + 8 * i + 2))) (nI C - nI S) = nI (min (min L (cn (J 270) (370 + 8 * i + 2))) (C - S)) := by rw [a1, u_sub hS, q_min_nI hL (by omega), q_min_nI (by omega) (by omega)]
  rw [e4, u_sub (by omega), u_s1, u_s1, u_up_j (by decide), q11, nI_add S, nI_add (370 + 8 * i) 7, u_rd (show 370 + 8 * i + 7 < 3580 by omega) (by decide), u_s1, ite_ib', u_wr (show 370 + 8 * i + 7 < 3580 by omega) (by decide), u_wr (show 370 + 8 * i + 7 < 3580 by omega) (by decide), u_s1, u_s1, show (269 + 1 : Nat) = 270 from rfl, u_up_a (by decide), u_up_a (by decide)]
  cases g with
  | true => simp only [if_true]
  | false => simp only [Bool.false_eq_true, if_false]
/-- stops: the pence L that are left, at most C -/
theorem pay3 {X : qX} {v j m L C n : Nat} (hv : v ≤ 195) (hL : L < 2 ^ 31) (hC : C < 2 ^ 31) (g : Bool) : ∀ r fC fM i S (I J : qI), i + r = n → r < fC → r < fM → RV X v I (J 270) j → cn (J 270) 3 = n → J 269 7 = nI (L - S) → J 269 11 = nI S → S ≤ min L C → j ≤ 12 → ∃ S' I' J' KM, q_fix (fun _ _ _ => none) (b_X1_taken_6 (v + 27) (nI m) (nI 5) (nI (min L C)) (ib g)) fC (nI S) (nI i) I = some (nI S', I') ∧ q_fix (fun _ _ _ => none) (b_X12_pays_318 269 (nI m) (ib g)) fM (nI C) (nI i) J = b_X12_pays_318 269 (nI m) (ib g) KM (nI C) (nI n) J' ∧ RD X v j I J I' J' ∧ J' 269 7 = nI (L - S') ∧ J' 269 11 = nI S' ∧ S' ≤ min L C ∧ FE [7, 11] J J' ∧ I' (v + 61) = I (v + 61) := by
  intro r
  induction r with
  | zero =>
    intro fC fM i S I J h1 h2 h3 h hn q7 q9 hS hj
    obtain ⟨fC, rfl⟩ : ∃ z, fC = z + 1 := ⟨fC - 1, by omega⟩
    obtain ⟨fM, rfl⟩ : ∃ z, fM = z + 1 := ⟨fM - 1, by omega⟩
    have e : i = n := by omega
    subst e
    refine ⟨S, I, J, _, ?_, rfl, RD.rf h, q7, q9, hS, FE.rf, rfl⟩
    show b_X1_taken_6 (v + 27) (nI m) (nI 5) (nI (min L C)) (ib g) (q_fix _ _ fC) (nI S) (nI _) I = _
    unfold b_X1_taken_6
    rw [h.sc3 rfl, h.k3.1, hn, if_pos (Int32.le_refl _)]
  | succ r ih =>
    intro fC fM i S I J h1 h2 h3 h hn q7 q9 hS hj
    obtain ⟨fC, rfl⟩ : ∃ z, fC = z + 1 := ⟨fC - 1, by omega⟩
    obtain ⟨fM, rfl⟩ : ∃ z, fM = z + 1 := ⟨fM - 1, by omega⟩
    have b := h.bd
    have hi : i < 60 := by omega
    obtain ⟨k1, k2, k3⟩ := h.kd (d := i) (by omega)
    have ih' := fun S I J => ih fC fM (i + 1) S I J (by omega) (by omega) (by omega)
    show ∃ S' I' J' KM, b_X1_taken_6 (v + 27) (nI m) (nI 5) (nI (min L C)) (ib g) (q_fix (fun _ _ _ => none) (b_X1_taken_6 (v + 27) (nI m) (nI 5) (nI (min L C)) (ib g)) fC) (nI S) (nI i) I = _ ∧ b_X12_pays_318 269 (nI m) (ib g) (q_fix (fun _ _ _ => none) (b_X12_pays_318 269 (nI m) (ib g)) fM) (nI C) (nI i) J = _ ∧ _
    generalize q_fix (fun _ _ _ => none) (b_X1_taken_6 (v + 27) (nI m) (nI 5) (nI (min L C)) (ib g)) fC = KC at ih' ⊢
    generalize q_fix (fun _ _ _ => none) (b_X12_pays_318 269 (nI m) (ib g)) fM = KM at ih' ⊢
    rw [tkC h hj (by omega) (by decide) (by omega) hS g KC, tkM3 h hj (by omega) g KM q7 (by omega) q9 (by omega) hC]
    by_cases c : tkc (J 270) m 5 i
    rotate_left
    · rw [if_neg c, if_neg c]; exact ih' S I J h hn q7 q9 hS hj
    rw [if_pos c, if_pos c]
    have n3 := (und5 _ k3 k2).mp c.2.2
    have ck : J 270 (370 + 8 * i) = nI 5 := by rw [k1, n3]
    have ep : min (min (L - S) (cn (J 270) (370 + 8 * i + 2))) (C - S) = min (cn (J 270) (370 + 8 * i + 2)) (min L C - S) := by omega
    rw [ep]
    generalize hp : min (cn (J 270) (370 + 8 * i + 2)) (min L C - S) = p
    have dA := RD.fld h (f := 7) (x := nI (L - S - p)) (by decide)
    have dB := RD.fld dA.1 (f := 11) (x := nI (S + p)) (by decide)
    have dAB := dA.tr dB
    have hJ2 : q_up (q_up J 269 7 (nI (L - S - p))) 269 11 (nI (S + p)) 270 = J 270 := by funext z; rw [u_up_a (by decide), u_up_a (by decide)]
    have f7 : ∀ x, q_up (q_up (q_up J 269 7 (nI (L - S - p))) 269 11 (nI (S + p))) 270 (370 + 8 * i + 7) x 269 7 = nI (L - (S + p)) := fun x => by rw [u_up_a (by decide), u_up_j (by decide), u_up_same, Nat.sub_sub]
    have f9 : ∀ x, q_up (q_up (q_up J 269 7 (nI (L - S - p))) 269 11 (nI (S + p))) 270 (370 + 8 * i + 7) x 269 11 = nI (S + p) := fun x => by rw [u_up_a (by decide), u_up_same]
    have fe : ∀ x, FE [7, 11] J (q_up (q_up (q_up J 269 7 (nI (L - S - p))) 269 11 (nI (S + p))) 270 (370 + 8 * i + 7) x) := fun x => ((FE.up (by decide)).tr (FE.up (by decide))).tr (FE.o (by decide))
    cases g with
    | true =>
      simp only [if_true] at ih' ⊢
      rw [settle5 h hi ck, u_s1]
      have dC := RD.up dAB.1 hv (vq_due i hi 7 (by decide) (by decide)) (x := J 270 (370 + 8 * i + 7) + nI p) (rgS_n (rn_d7 i hi)) (dAB.1.dd.up (by simp [dr]; omega) _) (by omega) (by omega) (by rw [hJ2]; omega)
      have d := dAB.tr dC
      obtain ⟨S', I', J', KM', l1, l2, l3, l4, l5, l6, l7, l8⟩ := ih' (S + p) (q_up I (v + (28 + 7)) i (J 270 (370 + 8 * i + 7) + nI p)) _ d.1 (by rw [d.c (by decide)]; exact hn) (f7 _) (f9 _) (by omega) hj
      exact ⟨S', I', J', KM', l1, l2, d.tr l3, l4, l5, l6, (fe _).tr l7, l8.trans (by funext z; rw [u_up_a (by omega)])⟩
    | false =>
      simp only [Bool.false_eq_true, if_false] at ih' ⊢
      have dC := (RD.noop dAB.1 (n := 370 + 8 * i + 7) (x := J 270 (370 + 8 * i + 7) + nI 0) (by rw [hJ2, nI_0, Int32.add_zero])).1
      have d := dAB.tr dC
      obtain ⟨S', I', J', KM', l1, l2, l3, l4, l5, l6, l7, l8⟩ := ih' (S + p) I _ d.1 (by rw [d.c (by decide)]; exact hn) (f7 _) (f9 _) (by omega) hj
      exact ⟨S', I', J', KM', l1, l2, d.tr l3, l4, l5, l6, (fe _).tr l7, l8⟩
