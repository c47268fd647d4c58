/-! LEVEL B: a week: what dues take -/
theorem RD.fld {X : qX} {v j : Nat} {I J : qI} (h : RV X v I (J 270) j) {f : Nat} {x : Int32} (hf : 7 ≤ f ∧ f ≤ 12) : RD X v j I J I (q_up J 269 f x) := by
  have e : q_up J 269 f x 270 = J 270 := by funext k; rw [u_up_a (by decide)]
  exact ⟨by rw [e]; exact h, FC.rfl', GM.rfl'.fl (by omega), fun n _ => by rw [e]⟩
def vq_61b (n : Nat) : Bool := match vq n with
  | some (o, _) => decide (o < 61)
  | none => true
theorem vq_61a : (List.range 3580).all vq_61b = true := by decide +kernel
theorem vq_61 {n o j : Nat} (h : vq n = some (o, j)) : o < 61 := by
  by_cases hn : n < 3580
  · have h1 := List.all_eq_true.mp vq_61a n (List.mem_range.mpr hn)
    unfold vq_61b at h1
    rw [h] at h1
    simpa using h1
  · rw [vq_hi hn] at h; cases h
/-- a write to one of the Valley's own rows for reckoning -/
theorem RV.own {X : qX} {v : Nat} {I : qI} {t : Nat → Int32} {j : Nat} (h : RV X v I t j) (hv : v ≤ 195) {o i : Nat} {x : Int32} (ho : 61 ≤ o ∧ o ≤ 64) : RV X v (q_up I (v + o) i x) t j := by
  obtain ⟨hA, hF, hR, hD, hH, hT⟩ := h
  refine ⟨hA.keep fun n p k hn _ => by rw [u_up_a (by have := vq_61 hn; omega)], fun m a b => ⟨(hF m a b).1, fun k hk => ?_⟩, hR, hD, fun d hd => ?_, fun k hk => ?_⟩
  · rw [u_up_a (by omega)]; exact (hF m a b).2 k hk
  · rw [u_up_a (by omega)]; exact hH d hd
  · obtain ⟨a, L, d, e1, e2, e⟩ := hT k hk
    refine ⟨a, L, d, e1, e2, ?_⟩
    rw [show q_up I (v + o) i x a = I a by funext z; rw [u_up_a (by omega)]]; exact e
theorem RD.own {X : qX} {v j : Nat} {I J : qI} (h : RV X v I (J 270) j) (hv : v ≤ 195) {o i : Nat} {x : Int32} (ho : 61 ≤ o ∧ o ≤ 64) : RD X v j I J (q_up I (v + o) i x) J := ⟨h.own hv ho, FC.rfl'.up (by omega) (by omega), GM.rfl', fun _ _ => rfl⟩
theorem und2 : ∀ k, k < 7 → 0 < k → (undB k 2 = true ↔ k = 2 ∨ k = 3) := by decide
theorem und4 : ∀ k, k < 7 → 0 < k → (undB k 4 = true ↔ k = 4) := by decide
theorem und5 : ∀ k, k < 7 → 0 < k → (undB k 5 = true ↔ k = 5) := by decide
theorem nE {a b : Nat} (ha : a < 2 ^ 31) (hb : b < 2 ^ 31) (h : a ≠ b) : ¬ nI a = nI b := fun q => h ((nI_eq ha hb).mp q)
/-- fields of the model that the reckoning leaves -/
def FE (s : List Nat) (J J' : qI) : Prop := ∀ k, k ∉ s → J' 269 k = J 269 k
theorem FE.tr {s : List Nat} {J J' J'' : qI} (h : FE s J J') (h' : FE s J' J'') : FE s J J'' := fun k hk => (h' k hk).trans (h k hk)
theorem FE.rf {s : List Nat} {J : qI} : FE s J J := fun _ _ => rfl
theorem FE.up {s : List Nat} {J : qI} {f : Nat} {x : Int32} (hf : f ∈ s) : FE s J (q_up J 269 f x) := fun k hk => u_up_j (fun e => hk (e ▸ hf))
theorem FE.o {s : List Nat} {J : qI} {a i : Nat} {x : Int32} (ha : a ≠ 269) : FE s J (q_up J a i x) := fun k _ => u_up_a (Ne.symm ha)
theorem settle5 {X : qX} {v : Nat} {I : qI} {t : Nat → Int32} {j i : Nat} (h : RV X v I t j) (hi : i < 60) (hk : t (370 + 8 * i) = nI 5) (p : Int32) : f_X1_settle (v + 27) (nI i) p I = some (q_up I (v + 35) i (t (370 + 8 * i + 7) + p)) := by
  unfold f_X1_settle
  rw [u_rd hi (by decide), u_s1, h.d0 rfl hi, hk, if_pos rfl, u_rd hi (by decide), u_s1, h.d7 rfl hi, u_wr hi (by decide), u_s1]
theorem settle4 {X : qX} {v : Nat} {I : qI} {t : Nat → Int32} {j i : Nat} (h : RV X v I t j) (hi : i < 60) (hk : t (370 + 8 * i) = nI 4) (p : Int32) : f_X1_settle (v + 27) (nI i) p I = some (q_up (q_up I (v + 30) i p) (v + 33) i (nI 1)) := by
  unfold f_X1_settle b_X1_settle_38
  rw [u_rd hi (by decide), u_s1, h.d0 rfl hi, hk, if_neg (by decide +kernel), u_s1, if_pos rfl, u_wr hi (by decide), u_s1, u_wr hi (by decide), u_s1]
theorem settle2 {X : qX} {v : Nat} {I : qI} {t : Nat → Int32} {j i : Nat} (h : RV X v I t j) (hi : i < 60) (h5 : ¬ t (370 + 8 * i) = nI 5) (h4 : ¬ t (370 + 8 * i) = nI 4) (p : Int32) : f_X1_settle (v + 27) (nI i) p I = some (q_up I (v + 33) i (nI 1)) := by
  unfold f_X1_settle b_X1_settle_38
  rw [u_rd hi (by decide), u_s1, h.d0 rfl hi, if_neg h5, u_s1, if_neg h4, u_wr hi (by decide), u_s1]
/-- the open dues of a man, of a kind or under it -/
abbrev tkc (t : Nat → Int32) (m K i : Nat) : Prop := t (370 + 8 * i + 1) = nI m ∧ t (370 + 8 * i + 5) = 0 ∧ undB (cn t (370 + 8 * i)) K = true
theorem tkC {X : qX} {v : Nat} {I : qI} {t : Nat → Int32} {j i m K E S : Nat} (h : RV X v I t j) (hj : j ≤ 12) (hi : i < cn t 3) (hK : K < 7) (hE : E < 2 ^ 31) (hS : S ≤ E) (g : Bool) (KC : Int32 → Int32 → qI → Option (Int32 × qI)) : b_X1_taken_6 (v + 27) (nI m) (nI K) (nI E) (ib g) KC (nI S) (nI i) I = if tkc t m K i then (if g = true then q_b1 (f_X1_settle (v + 27) (nI i) (nI (min (cn t (370 + 8 * i + 2)) (E - S))) I) fun I20 => KC (nI (S + min (cn t (370 + 8 * i + 2)) (E - S))) (nI (i + 1)) I20 else KC (nI (S + min (cn t (370 + 8 * i + 2)) (E - S))) (nI (i + 1)) I) else KC (nI S) (nI (i + 1)) I := by
  have b := h.bd
  have hi6 : i < 60 := by omega
  obtain ⟨k1, k2, k3⟩ := h.kd (d := i) hi
  obtain ⟨a1, a2⟩ := h.am hj (d := i) hi
  have k0 := h.k0.2
  unfold b_X1_taken_6 b_X1_taken_89
  rw [h.sc3 rfl, h.k3.1, if_neg (nI_ge hi (by omega)), u_rd hi6 (by decide), u_s1, h.d1 rfl hi6, u_rd hi6 (by decide), u_s1, h.d5 rfl hi6, u_rd hi6 (by decide), u_s1, h.d0 rfl hi6, k1, isUnder_ev k3 k2 hK, u_s1, u_rd hi6 (by decide), u_s1, h.d2 rfl hi6, a1, nI_add i 1, u_sub hS, q_min_nI (by omega) (by omega), nI_add S, ite_ib']
  by_cases c1 : t (370 + 8 * i + 1) = nI m
  rotate_left
  · rw [if_neg c1, if_neg (fun q => c1 q.1)]
  by_cases c2 : t (370 + 8 * i + 5) = 0
  rotate_left
  · rw [if_pos c1, if_neg c2, if_neg (fun q => c2 q.2.1)]
  by_cases c3 : undB (cn t (370 + 8 * i)) K = true
  rotate_left
  · rw [if_pos c1, if_pos c2, if_neg c3, if_pos rfl, if_neg (fun q => c3 q.2.2)]
  rw [if_pos c1, if_pos c2, if_pos c3, if_neg u_one, if_pos (show tkc t m K i from ⟨c1, c2, c3⟩)]
theorem tkM1 {X : qX} {v : Nat} {I J : qI} {j i m L : Nat} (h : RV X v I (J 270) j) (hj : j ≤ 12) (hi : i < cn (J 270) 3) (g : Bool) (C : Int32) (KM : Int32 → Int32 → qI → Option qI) (q7 : J 269 7 = nI L) (hL : L < 2 ^ 31) : b_X12_pays_36 269 (nI m) (ib g) KM C (nI i) J = if tkc (J 270) m 2 i then KM C (nI (i + 1)) (q_up (q_up (q_up J 269 7 (nI (L - min (cn (J 270) (370 + 8 * i + 2)) L))) 269 9 (J 269 9 + nI (min (cn (J 270) (370 + 8 * i + 2)) L))) 270 (370 + 8 * i + 5) (if g = true then nI 1 else nI 0)) else KM C (nI (i + 1)) J := by
  have b := h.bd
  have hi6 : i < 60 := by omega
  obtain ⟨k1, k2, k3⟩ := h.kd (d := i) hi
  obtain ⟨a1, a2⟩ := h.am hj (d := i) hi
  have k0 := h.k0.2
  have e102 : b_X12_pays_102 269 (nI m) (ib g) KM C (nI i) (nI (370 + 8 * i)) J = KM C (nI (i + 1)) (q_up (q_up (q_up J 269 7 (nI (L - min (cn (J 270) (370 + 8 * i + 2)) L))) 269 9 (J 269 9 + nI (min (cn (J 270) (370 + 8 * i + 2)) L))) 270 (370 + 8 * i + 5) (if g = true then nI 1 else nI 0)) := by
    unfold b_X12_pays_102 b_X12_pays_159 b_X12_pays_160
    rw [nI_add, u_rd (show 370 + 8 * i + 2 < 3580 by omega) (by decide), u_s1, show J (269 + 1) = J 270 from rfl, a1, q7, q_least, u_s1, q_min_nI hL (by omega), Nat.min_comm L, u_sub (Nat.min_le_right _ _), u_s1, u_s1, u_up_j (by decide), ite_ib', nI_add, nI_add, u_wr (show 370 + 8 * i + 5 < 3580 by omega) (by decide), u_wr (show 370 + 8 * i + 5 < 3580 by omega) (by decide), u_s1, u_s1]
    cases g with
    | true => simp only [if_true]
    | false => simp only [Bool.false_eq_true, if_false]
  unfold b_X12_pays_36 b_X12_pays_160 f_X12_dueAt
  rw [u_rd (by decide) (by decide), u_s1, h.k3.1, if_neg (nI_ge hi (by omega)), u_s1, u_mul, nI_add, nI_add, u_rd (show 370 + 8 * i + 1 < 3580 by omega) (by decide), u_s1, nI_add, u_rd (show 370 + 8 * i + 5 < 3580 by omega) (by decide), u_s1, u_rd (show 370 + 8 * i < 3580 by omega) (by decide), u_s1, u_s1, show J (269 + 1) = J 270 from rfl, k1, e102, nI_add]
  by_cases c1 : J 270 (370 + 8 * i + 1) = nI m
  rotate_left
  · rw [if_neg c1, if_neg (fun q => c1 q.1)]
  by_cases c2 : J 270 (370 + 8 * i + 5) = 0
  rotate_left
  · rw [if_pos c1, if_neg c2, if_neg (fun q => c2 q.2.1)]
  rw [if_pos c1, if_pos c2]
  by_cases c3 : undB (cn (J 270) (370 + 8 * i)) 2 = true
  · rw [if_pos (show tkc (J 270) m 2 i from ⟨c1, c2, c3⟩)]
    rcases (und2 _ k3 k2).mp c3 with e | e
    · rw [e, if_pos rfl]
    · rw [e, if_neg (by decide +kernel), if_pos rfl]
  · have n3 := fun q => c3 ((und2 _ k3 k2).mpr q)
    rw [if_neg (show ¬ tkc (J 270) m 2 i from fun q => c3 q.2.2), if_neg (nE (by omega) (by decide) (fun q => n3 (Or.inl q))), if_neg (nE (by omega) (by decide) (fun q => n3 (Or.inr q)))]
/-- draws and checks -/
theorem pay1 {X : qX} {v j m E n : Nat} (hv : v ≤ 195) (hE : E < 2 ^ 31) (g : Bool) (C : Int32) : ∀ r fC fM i S (I J : qI), i + r = n → r < fC → r < fM → RV X v I (J 270) j → cn (J 270) 3 = n → J 269 7 = nI (E - S) → J 269 9 = nI S → S ≤ E → j ≤ 12 → ∃ S' I' J', q_fix (fun _ _ _ => none) (b_X1_taken_6 (v + 27) (nI m) (nI 2) (nI E) (ib g)) fC (nI S) (nI i) I = some (nI S', I') ∧ q_fix (fun _ _ _ => none) (b_X12_pays_36 269 (nI m) (ib g)) fM C (nI i) J = q_fix (fun _ _ _ => none) (b_X12_pays_169 269 (nI m) (ib g)) q_fu C (nI 0) J' ∧ RD X v j I J I' J' ∧ J' 269 7 = nI (E - S') ∧ J' 269 9 = nI S' ∧ S' ≤ E ∧ FE [7, 9] J J' ∧ I' (v + 61) = I (v + 61) := by
  intro r
  induction r with
  | zero =>
    intro fC fM i S I J h1 h2 h3 h hn q7 q9 hS hj
    obtain ⟨fC, rfl⟩ : ∃ z, fC = z + 1 := ⟨fC - 1, by omega⟩
    obtain ⟨fM, rfl⟩ : ∃ z, fM = z + 1 := ⟨fM - 1, by omega⟩
    have e : i = cn (J 270) 3 := by omega
    subst e
    refine ⟨S, I, J, ?_, ?_, RD.rf h, q7, q9, hS, FE.rf, rfl⟩
    · show b_X1_taken_6 (v + 27) (nI m) (nI 2) (nI E) (ib g) (q_fix _ _ fC) (nI S) (nI _) I = _
      unfold b_X1_taken_6
      rw [h.sc3 rfl, h.k3.1, if_pos (Int32.le_refl _)]
    · show b_X12_pays_36 269 (nI m) (ib g) (q_fix _ _ fM) C (nI _) J = _
      unfold b_X12_pays_36
      rw [u_rd (by decide) (by decide), u_s1, h.k3.1, if_pos (Int32.le_refl _)]
  | succ r ih =>
    intro fC fM i S I J h1 h2 h3 h hn q7 q9 hS hj
    obtain ⟨fC, rfl⟩ : ∃ z, fC = z + 1 := ⟨fC - 1, by omega⟩
    obtain ⟨fM, rfl⟩ : ∃ z, fM = z + 1 := ⟨fM - 1, by omega⟩
    have b := h.bd
    have hi : i < 60 := by omega
    obtain ⟨k1, k2, k3⟩ := h.kd (d := i) (by omega)
    have ih' := fun S I J => ih fC fM (i + 1) S I J (by omega) (by omega) (by omega)
    show ∃ S' I' J', b_X1_taken_6 (v + 27) (nI m) (nI 2) (nI E) (ib g) (q_fix (fun _ _ _ => none) (b_X1_taken_6 (v + 27) (nI m) (nI 2) (nI E) (ib g)) fC) (nI S) (nI i) I = _ ∧ b_X12_pays_36 269 (nI m) (ib g) (q_fix (fun _ _ _ => none) (b_X12_pays_36 269 (nI m) (ib g)) fM) C (nI i) J = _ ∧ _
    generalize q_fix (fun _ _ _ => none) (b_X1_taken_6 (v + 27) (nI m) (nI 2) (nI E) (ib g)) fC = KC at ih' ⊢
    generalize q_fix (fun _ _ _ => none) (b_X12_pays_36 269 (nI m) (ib g)) fM = KM at ih' ⊢
    rw [tkC h hj (by omega) (by decide) hE hS g KC, tkM1 h hj (by omega) g C KM q7 (by omega)]
    by_cases c : tkc (J 270) m 2 i
    rotate_left
    · rw [if_neg c, if_neg c]; exact ih' S I J h hn q7 q9 hS hj
    rw [if_pos c, if_pos c]
    have n3 := (und2 _ k3 k2).mp c.2.2
    generalize hp : min (cn (J 270) (370 + 8 * i + 2)) (E - S) = p
    have dA := RD.fld h (f := 7) (x := nI (E - S - p)) (by decide)
    have dB := RD.fld dA.1 (f := 9) (x := J 269 9 + nI p) (by decide)
    have dAB := dA.tr dB
    have hJ2 : q_up (q_up J 269 7 (nI (E - S - p))) 269 9 (J 269 9 + nI p) 270 = J 270 := by funext z; rw [u_up_a (by decide), u_up_a (by decide)]
    have f7 : ∀ x, q_up (q_up (q_up J 269 7 (nI (E - S - p))) 269 9 (J 269 9 + nI p)) 270 (370 + 8 * i + 5) x 269 7 = nI (E - (S + p)) := fun x => by rw [u_up_a (by decide), u_up_j (by decide), u_up_same, Nat.sub_sub]
    have f9 : ∀ x, q_up (q_up (q_up J 269 7 (nI (E - S - p))) 269 9 (J 269 9 + nI p)) 270 (370 + 8 * i + 5) x 269 9 = nI (S + p) := fun x => by rw [u_up_a (by decide), u_up_same, q9, nI_add]
    have fe : ∀ x, FE [7, 9] J (q_up (q_up (q_up J 269 7 (nI (E - S - p))) 269 9 (J 269 9 + nI p)) 270 (370 + 8 * i + 5) x) := fun x => ((FE.up (by decide)).tr (FE.up (by decide))).tr (FE.o (by decide))
    cases g with
    | true =>
      simp only [if_true] at ih' ⊢
      rw [settle2 h hi (by rw [k1]; exact nE (by omega) (by decide) (by omega)) (by rw [k1]; exact nE (by omega) (by decide) (by omega)), u_s1]
      have dC := RD.up dAB.1 hv (vq_due i hi 5 (by decide) (by decide)) (x := nI 1) (rgS_n (rn_d5 i hi)) (dAB.1.dd.up (by simp [dr]; omega) _) (by omega) (by omega) (by rw [hJ2]; omega)
      have d := dAB.tr dC
      obtain ⟨S', I', J', l1, l2, l3, l4, l5, l6, l7, l8⟩ := ih' (S + p) (q_up I (v + (28 + 5)) i (nI 1)) _ d.1 (by rw [d.c (by decide)]; exact hn) (f7 _) (f9 _) (by omega) hj
      exact ⟨S', I', J', l1, l2, d.tr l3, l4, l5, l6, (fe _).tr l7, l8.trans (by funext z; rw [u_up_a (by omega)])⟩
    | false =>
      simp only [Bool.false_eq_true, if_false] at ih' ⊢
      have dC := (RD.noop dAB.1 (n := 370 + 8 * i + 5) (x := nI 0) (by rw [hJ2, c.2.1, nI_0])).1
      have d := dAB.tr dC
      obtain ⟨S', I', J', l1, l2, l3, l4, l5, l6, l7, l8⟩ := ih' (S + p) I _ d.1 (by rw [d.c (by decide)]; exact hn) (f7 _) (f9 _) (by omega) hj
      exact ⟨S', I', J', l1, l2, d.tr l3, l4, l5, l6, (fe _).tr l7, l8⟩
