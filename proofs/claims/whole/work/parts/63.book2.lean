/-! LEVEL B: book, copy, prove -/
theorem op_lp {p : Nat} (hp : p < 8) {s n : Int32} : ∀ r f i (I : qI), i + r = 30 → r < f → ∃ I', q_fix (fun _ _ => none) (b_X0_open_17 263 (nI p) s n) f (nI i) I = some I' ∧ (∀ a, a ≠ 266 → I' a = I a) ∧ ∀ z, I' 266 z = if 30 * p + i ≤ z ∧ z < 30 * p + 30 then nI 0 else I 266 z := by
  intro r
  induction r with
  | zero =>
    intro f i I h1 h2
    obtain ⟨f, rfl⟩ : ∃ z, f = z + 1 := ⟨f - 1, by omega⟩
    have e : i = 30 := by omega
    subst e
    refine ⟨I, ?_, fun _ _ => rfl, fun z => by rw [if_neg (by omega)]⟩
    show b_X0_open_17 263 (nI p) s n (q_fix _ _ f) (nI 30) I = _
    unfold b_X0_open_17
    rw [if_pos (Int32.le_refl _)]
  | succ r ih =>
    intro f i I h1 h2
    obtain ⟨f, rfl⟩ : ∃ z, f = z + 1 := ⟨f - 1, by omega⟩
    obtain ⟨I', g1, g2, g3⟩ := ih f (i + 1) (q_up I 266 (30 * p + i) (nI 0)) (by omega) (by omega)
    refine ⟨I', ?_, fun a ha => (g2 a ha).trans (by funext z; rw [u_up_a ha]), fun z => ?_⟩
    · show b_X0_open_17 263 (nI p) s n (q_fix (fun _ _ => none) (b_X0_open_17 263 (nI p) s n) f) (nI i) I = _
      generalize q_fix (fun _ _ => none) (b_X0_open_17 263 (nI p) s n) f = KC at g1 ⊢
      unfold b_X0_open_17 f_X0_start
      rw [if_neg (nI_ge (by omega) (by decide)), u_s1, u_mul, nI_add, show p * 30 + i = 30 * p + i by omega, u_wr (show 30 * p + i < 240 by omega) (by decide), u_s1, nI_add]
      exact g1
    · rw [g3 z]
      by_cases e : z = 30 * p + i
      · subst e; rw [if_neg (by omega), u_up_same, if_pos (by omega)]
      · rw [u_up_j e]
        by_cases c : 30 * p + (i + 1) ≤ z ∧ z < 30 * p + 30
        · rw [if_pos c, if_pos (by omega)]
        · rw [if_neg c, if_neg (by omega)]
theorem bo69 {p : Nat} (hp : p < 8) {s n : Int32} : ∀ r f i (J : qI), i + r = 30 → r < f → ∃ J', q_fix (fun _ _ => none) (b_X12_book_69 269 (nI p) s n) f (nI i) J = some (J 274 p, J') ∧ (∀ a, a ≠ 275 → J' a = J a) ∧ ∀ z, J' 275 z = if 30 * p + i ≤ z ∧ z < 30 * p + 30 then nI 0 else J 275 z := by
  intro r
  induction r with
  | zero =>
    intro f i I h1 h2
    obtain ⟨f, rfl⟩ : ∃ z, f = z + 1 := ⟨f - 1, by omega⟩
    have e : i = 30 := by omega
    subst e
    refine ⟨I, ?_, fun _ _ => rfl, fun z => by rw [if_neg (by omega)]⟩
    show b_X12_book_69 269 (nI p) s n (q_fix _ _ f) (nI 30) I = _
    unfold b_X12_book_69
    rw [if_pos (Int32.le_refl _), u_rd hp (by decide), u_s1]
  | succ r ih =>
    intro f i I h1 h2
    obtain ⟨f, rfl⟩ : ∃ z, f = z + 1 := ⟨f - 1, by omega⟩
    obtain ⟨I', g1, g2, g3⟩ := ih f (i + 1) (q_up I 275 (30 * p + i) (nI 0)) (by omega) (by omega)
    refine ⟨I', ?_, fun a ha => (g2 a ha).trans (by funext z; rw [u_up_a ha]), fun z => ?_⟩
    · show b_X12_book_69 269 (nI p) s n (q_fix (fun _ _ => none) (b_X12_book_69 269 (nI p) s n) f) (nI i) I = _
      generalize q_fix (fun _ _ => none) (b_X12_book_69 269 (nI p) s n) f = KC at g1 ⊢
      unfold b_X12_book_69
      rw [if_neg (nI_ge (by omega) (by decide)), u_mul, nI_add, u_wr (show 30 * p + i < 240 by omega) (by decide), u_s1, nI_add]
      rw [u_up_a (show (274 : Nat) ≠ 275 by decide)] at g1
      exact g1
    · rw [g3 z]
      by_cases e : z = 30 * p + i
      · subst e; rw [if_neg (by omega), u_up_same, if_pos (by omega)]
      · rw [u_up_j e]
        by_cases c : 30 * p + (i + 1) ≤ z ∧ z < 30 * p + 30
        · rw [if_pos c, if_pos (by omega)]
        · rw [if_neg c, if_neg (by omega)]
theorem bk_set {X : qX} {I J : qI} (h : WW X I J) {p : Nat} (hp : p < 8) {s : Int32} (hs : s = -1 ∨ s = 0 ∨ s = 1) {n : Nat} (hn : n ≤ 30) (y3 : Int32) : G2 X I J (b_X11_book_65 64 (nI p) s y3 (nI n) I) (b_X12_book_65 269 (nI p) s y3 (nI n) (q_up J 273 p s)) := by
  have hB := h.bk
  have fu : 31 < q_fu := by decide
  unfold b_X11_book_65 b_X12_book_65 f_X0_open
  obtain ⟨I', g1, g2, g3⟩ := op_lp hp (s := s) (n := nI n) 30 q_fu 0 (q_up (q_up I 264 p s) 265 p (nI n)) (by decide) (by decide)
  obtain ⟨J', k1, k2, k3⟩ := bo69 hp (s := s) (n := y3) 30 q_fu 0 (q_up (q_up J 273 p s) 274 p (nI n)) (by decide) (by decide)
  rw [u_wr hp (by decide), u_s1, u_wr hp (by decide), u_s1, show (64 + 199 : Nat) = 263 from rfl, show (263 + 1 : Nat) = 264 from rfl, show (263 + 2 : Nat) = 265 from rfl, g1, u_s1, u_rd hp (by decide), u_s1, u_wr hp (by decide), u_s1, show (269 + 5 : Nat) = 274 from rfl, k1]
  rw [show I' (64 + 201) p = nI n by rw [show I' (64 + 201) = _ from g2 265 (by decide), u_up_same], show q_up (q_up J 273 p s) 274 p (nI n) 274 p = nI n from u_up_same]
  refine h.bks (fun a h1 h2 h3 => (g2 a h3).trans (by funext z; rw [u_up_a h2, u_up_a h1])) (fun a h1 h2 h3 _ => (k2 a h3).trans (by funext z; rw [u_up_a h2, u_up_a h1])) ⟨fun q hq => ?_, fun i hi => ?_⟩ _
  · rw [g2 264 (by decide), g2 265 (by decide), k2 273 (by decide), k2 274 (by decide), u_up_a (show (264 : Nat) ≠ 265 by decide), u_up_a (show (273 : Nat) ≠ 274 by decide)]
    by_cases e : q = p
    · subst e
      rw [u_up_same, u_up_same, u_up_same, u_up_same]
      exact ⟨rfl, rfl, hs, ⟨n, rfl, by omega, hn⟩⟩
    · rw [u_up_j e, u_up_j e, u_up_j e, u_up_j e, u_up_a (show (265 : Nat) ≠ 264 by decide), u_up_a (show (274 : Nat) ≠ 273 by decide)]
      exact hB.1 q hq
  · rw [g3, k3]
    by_cases c : 30 * p + 0 ≤ i ∧ i < 30 * p + 30
    · rw [if_pos c, if_pos c]
    · rw [if_neg c, if_neg c, u_up_a (by decide), u_up_a (by decide), u_up_a (by decide), u_up_a (by decide)]
      exact hB.2 i hi
theorem in_m1 {y : Int32} (h : -1 ≤ y ∧ y ≤ nI 1) : y = -1 ∨ y = 0 ∨ y = 1 := by
  by_cases c : y < 0
  · left
    rw [Int32.lt_iff_toInt_lt, Int32.toInt_zero] at c
    have h1 := h.1
    rw [Int32.le_iff_toInt_le, show (-1 : Int32).toInt = -1 by decide] at h1
    apply Int32.toInt_inj.mp
    rw [show (-1 : Int32).toInt = -1 by decide]
    omega
  · obtain ⟨k, hk, rfl⟩ := nI_of c
    have := (nI_leI hk (by decide)).mp h.2
    rcases (show k = 0 ∨ k = 1 by omega) with rfl | rfl
    · exact Or.inr (Or.inl rfl)
    · exact Or.inr (Or.inr rfl)
theorem W_book {X : qX} (y1 y2 y3 : Int32) : P2 X (f_X11_book 64 y1 y2 y3) (f_X12_book 269 y1 y2 y3) := by
  intro I J h
  show G2 X I J (f_X11_book 64 y1 y2 y3 I) (f_X12_book 269 y1 y2 y3 J)
  unfold f_X11_book f_X12_book b_X11_book_36 b_X11_book_49 b_X12_book_32 b_X12_book_44
  rw [l64_m1, l64_1, u_isIn32]
  simp only [u_within, u_isPit, u_s1, u_ib, ite_not]
  refine G2.ite (fun c1 => ?_) (fun _ => h.same _)
  refine G2.ite (fun c2 => ?_) (fun _ => h.same _)
  obtain ⟨p, rfl, -, hp⟩ := u_range (by decide) c1.1 c1.2 (by decide)
  have hp8 : p < 8 := by omega
  rw [u_wr hp8 (by decide), u_s1, show (269 + 4 : Nat) = 273 from rfl]
  rcases in_m1 c2 with rfl | hs
  · simp only [if_true]
    rw [if_pos (show (-1 : Int32) < 0 by decide), if_neg neg1]
    try rw [if_pos (show (-1 : Int32) < 0 by decide)]
    exact bk_set h hp8 (Or.inl rfl) (n := 0) (by decide) y3
  · have n1 : ¬ y2 = -1 := by rcases hs with rfl | rfl <;> decide
    have n2 : ¬ y2 < 0 := by rcases hs with rfl | rfl <;> decide
    have n3 : (0 : Int32) ≤ y2 := by rcases hs with rfl | rfl <;> decide
    rw [if_neg n1, if_neg n1, if_neg n1, if_neg n2, if_neg n2, if_pos n3]
    by_cases c3 : y3 ≤ nI 30
    · rw [if_pos c3, if_pos c3]
      by_cases c4 : 0 ≤ y3
      · rw [if_pos c4, if_pos c4]
        obtain ⟨n, rfl, -, hn⟩ := u_range (a := 0) (b := 30) (by decide) (by rw [nI_0]; exact c4) c3 (by decide)
        exact bk_set h hp8 (Or.inr hs) hn (nI n)
      · rw [if_neg c4, if_neg c4]; exact h.same _
    · rw [if_neg c3, if_neg c3]; exact h.same _
theorem ii_xy_99 (x y : Int32) : f_X12_isIn y.toInt64 x.toInt64 (99 : Int64) = some (if x ≤ y ∧ y ≤ nI 99 then 1 else 0) := by rw [l64_99, u_isIn32]
theorem W_prove {X : qX} (y1 y2 y3 y4 : Int32) : P0 X (f_X11_prove 64 y1 y2 y3 y4) (f_X12_prove 269 y1 y2 y3 y4) := by
  intro I J h
  show G0 (f_X11_prove 64 y1 y2 y3 y4 I) (f_X12_prove 269 y1 y2 y3 y4 J)
  have hR := h.rv
  have k0 := hR.k0.2
  unfold f_X11_prove f_X12_prove b_X11_prove_69
  simp only [u_within, u_isPit, ii_0_1, ii_1_99, ii_xy_99, u_s1, u_ib, ite_not]
  by_cases c1 : nI 0 ≤ y1 ∧ y1 ≤ nI 7
  rotate_left
  · rw [if_neg c1, if_neg c1]; exact G0.rf _
  by_cases c2 : nI 0 ≤ y4 ∧ y4 ≤ nI 1
  rotate_left
  · rw [if_pos c1, if_pos c1]; simp only [if_neg c2, ite_self]; exact G0.rf _
  by_cases c3 : nI 1 ≤ y2 ∧ y2 ≤ nI 99
  rotate_left
  · simp only [if_pos c1, if_pos c2, if_neg c3]; exact G0.rf _
  by_cases c4 : y2 ≤ y3 ∧ y3 ≤ nI 99
  rotate_left
  · simp only [if_pos c1, if_pos c2, if_pos c3, if_neg c4]; exact G0.rf _
  simp only [if_pos c1, if_pos c2, if_pos c3, if_pos c4]
  obtain ⟨p, rfl, -, hp⟩ := u_range (by decide) c1.1 c1.2 (by decide)
  have hp8 : p < 8 := by omega
  obtain ⟨a, rfl, ha1, ha2⟩ := u_range (by decide) c3.1 c3.2 (by decide)
  obtain ⟨b, rfl, hb1, hb2⟩ := u_range (by decide) c4.1 c4.2 (by omega)
  obtain ⟨t1, t2⟩ := hR.tb (by decide) hp8
  simp only [u_mul, nI_add]
  rw [u_rd hp8 (by decide), u_s1, hR.p4 (a := 64 + 7) rfl hp8, u_rd hp8 (by decide), u_s1, u_s1, hR.p3 (a := 64 + 6) rfl hp8, u_rd (show 10 + 5 * p + 4 < 3580 by omega) (by decide), u_s1, u_rd (show 10 + 5 * p + 3 < 3580 by omega) (by decide), u_s1, u_s1, show J (269 + 1) = J 270 from rfl, t1]
  generalize cn (J 270) (10 + 5 * p + 4) = tb at *
  generalize J 270 (10 + 5 * p + 3) = w
  have tb31 : tb < 2 ^ 31 := by omega
  have key : ∀ m : Nat, 1 ≤ m → m ≤ 99 → (if 0 < lg_cmp ((nI tb).toInt64 * (nI m).toInt64) (0 : Int64) then (if (nI tb).toInt64 * (nI m).toInt64 = 0 then none else some ((w.toInt64 * (100 : Int64)) / ((nI tb).toInt64 * (nI m).toInt64)).toInt32) else some (-1000000005)) = (if nI tb = 0 then some (-1000000005) else (if (nI tb).toInt64 * (nI m).toInt64 = 0 then none else some ((w.toInt64 * (100 : Int64)) / ((nI tb).toInt64 * (nI m).toInt64)).toInt32)) ∧ (nI tb = 0 ∨ ¬ (nI tb).toInt64 * (nI m).toInt64 = 0) := by
    intro m h1 h2
    have hmul : tb * m ≤ tb * 99 := Nat.mul_le_mul_left tb h2
    rw [nI_l tb31, nI_l (show m < 2 ^ 31 by omega), lN_mul]
    rcases Nat.eq_zero_or_pos tb with e | e
    · subst e
      rw [Nat.zero_mul, if_pos nI_0, if_neg (by decide)]
      exact ⟨rfl, Or.inl nI_0⟩
    · have hpos : 0 < tb * m := Nat.mul_pos e h1
      have n0 : ¬ lN (tb * m) = 0 := fun q => by
        have := (pk_lEQ (a := tb * m) (b := 0) (by omega) (by decide)).mp q
        omega
      have cmp : 0 < lg_cmp (lN (tb * m)) (0 : Int64) := by
        unfold lg_cmp
        rw [if_pos (show (0 : Int64) < lN (tb * m) from (pk_lLT (a := 0) (b := tb * m) (by decide) (by omega)).mpr hpos)]
        decide
      rw [if_pos cmp, if_neg (nI_ne0 e tb31)]
      exact ⟨rfl, Or.inr n0⟩
  by_cases c5 : y4 = 0
  · rw [if_pos c5, if_pos c5]
    obtain ⟨k1, k2⟩ := key b (by omega) hb2
    rw [k1]
    rcases k2 with e | e
    · rw [if_pos e]; exact G0.rf _
    · by_cases z : nI tb = 0
      · rw [if_pos z]; exact G0.rf _
      · rw [if_neg z, if_neg e]; exact G0.rf _
  · rw [if_neg c5, if_neg c5]
    obtain ⟨k1, k2⟩ := key a ha1 ha2
    rw [k1]
    rcases k2 with e | e
    · rw [if_pos e]; exact G0.rf _
    · by_cases z : nI tb = 0
      · rw [if_pos z]; exact G0.rf _
      · rw [if_neg z, if_neg e]; exact G0.rf _
