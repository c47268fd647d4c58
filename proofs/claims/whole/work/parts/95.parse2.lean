/-! LEVEL B: texts: the parsers -/
def GP (key A : Nat) (T : Nat → Int32) (n : Nat) (I0 J0 : qI) (dp tn : Nat) (C M : qI → Option (Int32 × qI)) : Prop := ∀ I J L d p, PP key A T n I0 J0 dp tn L d p I J → ∃ I' J', (C I = some (nI 0, I') ∧ M J = some (nI 0, J') ∧ FF A I0 J0 I' J') ∨ (C I = some (nI 1, I') ∧ M J = some (nI 1, J') ∧ ∃ L' p', PP key A T n I0 J0 dp tn L' (d + 1) p' I' J' ∧ (L' + p ≤ L + p' ∧ p ≤ p'))
theorem PP.le {key A : Nat} {T : Nat → Int32} {n : Nat} {I0 J0 : qI} {dp tn L d p : Nat} {I J : qI} (h : PP key A T n I0 J0 dp tn L d p I J) (hC : CX key A T n I0 J0) : L ≤ p ∧ p ≤ n ∧ n ≤ 96 := by
  obtain ⟨e, k, h1, h2⟩ := h
  have := h1.2.1.1
  have := hC.2.2.1.1
  omega
theorem bz1 : q_bz (nI 1) = some (nI 1) := by decide +kernel
theorem bz0 : q_bz (nI 0) = some (nI 0) := by decide +kernel
/-- an operand's end: both go on -/
theorem op_end {key A : Nat} {T : Nat → Int32} {n : Nat} {I0 J0 : qI} (hC : CX key A T n I0 J0) {dp tn L d p e k : Nat} {I J : qI} (h : PQ key A T n I0 J0 dp tn L d p e k I J) (hL : L ≤ p) (hk : k ≠ 0) {x w y : Int32} (hs : stR key x w y d (d + 1)) (hx : 0 ≤ x) : ∃ I' J', f_X5_operand 260 x I = some (nI 1, I') ∧ (q_b1 (f_X12_step 269 w y J) fun I13 => q_b1 (some (q_up I13 269 24 ((I13 269 24) + (nI 1)))) fun I15 => q_b1 (f_X12_next 269 I15) fun I17 => some ((nI 1), I17)) = some (nI 1, J') ∧ ∃ L' p', PP key A T n I0 J0 dp tn L' (d + 1) p' I' J' ∧ (L' + p ≤ L + p' ∧ p ≤ p') := by
  have hn := hC.2.2.1.1
  have hl := h.2.1.1
  have pe := hl.2.2.2 hk
  obtain ⟨I1, J1, a1, a2, a3, a4, a5⟩ := h.emit hC (by omega) hs
  obtain ⟨I2, J2, p', e', k', b1, b2, b3, b4⟩ := a3.said.nx hC
  refine ⟨I2, J2, ?_, ?_, L + 1, p', ⟨e', k', b3, by omega⟩, by omega⟩
  · unfold f_X5_operand
    rw [if_pos hx, a1, u_s1, u_s1, b1, u_s1]
  · rw [a2, u_s1, u_s1, b2, u_s1]
theorem part_GP {key A : Nat} {T : Nat → Int32} {n : Nat} {I0 J0 : qI} (hC : CX key A T n I0 J0) {dp tn : Nat} (hdp : dp ≤ 8) (htn : tn ≤ 8) {Fe : Nat → Int32 → Int32 → Int32 → qI → Option (Int32 × qI)} {Fp : Nat → Int32 → Int32 → qI → Option (Int32 × qI)} {M1 M2 M3 M4 M5 M6 : Nat → Int32 → qI → Option (Int32 × qI)} (hE : dp < 8 → GP key A T n I0 J0 (dp + 1) tn (Fe 260 (nI 0) (nI (dp + 1)) (nI tn)) (M2 269 (nI key))) (hP : tn < 8 → GP key A T n I0 J0 dp (tn + 1) (Fp 260 (nI dp) (nI (tn + 1))) (M3 269 (nI key))) : GP key A T n I0 J0 dp tn (B_X5_part Fe Fp 260 (nI dp) (nI tn)) (B_X12_part0 M1 M2 M3 M4 M5 M6 269 (nI key)) := by
  intro I J L d p hh
  obtain ⟨e, k, h, hL⟩ := hh
  have hT := h.tt hC
  have hn := hC.2.2.1.1
  have hl := h.2.1.1
  have k3 : I 260 3 = nI k := h.2.1.2.1.2.2
  have k17 : J 269 17 = nI k := h.2.1.2.2.1.2.2
  have h7 : I 260 7 = nI key := (h.1.1.2 7 (by decide)).trans hC.2.2.2.1
  have h20 : J 269 20 = nI dp := h.2.2.2.2.1.1
  have h21 : J 269 21 = nI tn := h.2.2.2.2.1.2
  have ff := h.ff hC
  unfold B_X5_part B_X12_part0
  rw [k3, k17]
  by_cases c2 : k = 2
  · have e2 : nI k = nI 2 := by rw [c2]
    rw [if_pos e2, if_pos e2]
    obtain ⟨n1, n2⟩ := num_ev h.2.1 hT c2
    have n3 : J 269 18 = nI (nv T p (e - p)) := (h.2.1.2.2.2.2.2 c2).2.2
    obtain ⟨I', J', a1, a2, a3⟩ := op_end hC h hL (by omega) (x := nI (nv T p (e - p))) (w := nI 0) (y := nI (nv T p (e - p))) (Or.inl ⟨_, n2, rfl, rfl, rfl, rfl⟩) (nI_pos' (by omega))
    rw [n1, u_s1, a1, u_s2, bz1, u_s1, n3, a2]
    exact ⟨I', J', Or.inr ⟨rfl, rfl, a3⟩⟩
  have e2 : ¬ nI k = nI 2 := fun q => c2 ((nI_eq (by omega) (by omega)).mp q)
  rw [if_neg e2, if_neg e2]
  have sg := fun c => h.2.1.sg hT c
  by_cases c1 : k = 1
  · have e1 : nI k = nI 1 := by rw [c1]
    rw [if_pos e1, if_pos e1]
    have no : ∀ c : Nat, ¬ (k = 3 ∧ T p = nI c) := fun c q => by omega
    have rest : b_X12_part0_84 269 (nI key) M1 M2 M3 M4 M5 M6 J = some (nI 0, J) := by
      unfold b_X12_part0_84 b_X12_part0_145
      rw [(sg 33).2, u_s1, if_neg (no 33), if_pos nI_0, (sg 40).2, u_s1, if_neg (no 40), if_pos nI_0]
    rcases name_ev h.2.1 hT c1 hC.1 h7 with ⟨i, i1, i2, i3, i4, i5⟩ | ⟨i2, i3⟩
    · obtain ⟨I', J', a1, a2, a3⟩ := op_end hC h hL (by omega) (x := nI (10000 + i)) (w := nI 1) (y := J 269 19) (Or.inr (Or.inl ⟨i, i1, rfl, rfl, i3, rfl⟩)) (nI_pos' (by
        have : nmN key ≤ 3 := by
          have := hC.1
          rcases (show key = 0 ∨ key = 1 ∨ key = 2 ∨ key = 3 ∨ key = 4 ∨ key = 5 ∨ key = 6 by omega) with rfl | rfl | rfl | rfl | rfl | rfl | rfl <;> decide
        omega))
      rw [i2, u_s1, a1, u_s2, bz1, u_s1, if_neg i4, i5, u_s1, if_neg nI1, a2]
      exact ⟨I', J', Or.inr ⟨rfl, rfl, a3⟩⟩
    · have oc : f_X5_operand 260 (-1) I = some (nI 0, I) := by unfold f_X5_operand; rw [if_neg (by decide)]
      rw [i2, u_s1, oc, u_s2, bz0, u_s1]
      refine ⟨I, J, Or.inl ⟨rfl, ?_, ff⟩⟩
      rcases i3 with z | ⟨z1, z2⟩
      · rw [if_pos z]; exact rest
      · rw [if_neg z1, z2, u_s1, if_pos nI_0]; exact rest
  have e1 : ¬ nI k = nI 1 := fun q => c1 ((nI_eq (by omega) (by omega)).mp q)
  rw [if_neg e1, if_neg e1]
  -- brackets
  have br : ∃ I' J', (b_X5_part_74 260 (nI dp) (nI tn) Fe Fp I = some (nI 0, I') ∧ b_X12_part0_145 269 (nI key) M1 M2 M3 M4 M5 M6 J = some (nI 0, J') ∧ FF A I0 J0 I' J') ∨ (b_X5_part_74 260 (nI dp) (nI tn) Fe Fp I = some (nI 1, I') ∧ b_X12_part0_145 269 (nI key) M1 M2 M3 M4 M5 M6 J = some (nI 1, J') ∧ ∃ L' p', PP key A T n I0 J0 dp tn L' (d + 1) p' I' J' ∧ (L' + p ≤ L + p' ∧ p ≤ p')) := by
    unfold b_X5_part_74 b_X12_part0_145
    rw [(sg 40).1, (sg 40).2, u_s1, u_s1]
    by_cases c : k = 3 ∧ T p = nI 40
    rotate_left
    · rw [if_neg c, if_pos nI_0, if_pos nI_0]; exact ⟨I, J, Or.inl ⟨rfl, rfl, ff⟩⟩
    rw [if_pos c, if_neg nI1, if_neg nI1, h20]
    by_cases c8 : dp = 8
    · rw [if_neg (by rw [c8]; decide +kernel), if_pos (by rw [c8])]
      exact ⟨I, J, Or.inl ⟨rfl, rfl, ff⟩⟩
    have pe := hl.2.2.2 (show k ≠ 0 by omega)
    obtain ⟨I1, J1, p1, e1', k1', a1, a2, a3, a4⟩ := PQ.nx (h.deep (dp + 1)).1 hC
    rw [if_pos (nI_lt (by omega) (by decide)), if_neg (fun q => c8 ((nI_eq (by omega) (by omega)).mp q)), nI_add, a1, u_s1, u_s1, a2, u_s1]
    obtain ⟨I2, J2, b⟩ := hE (by omega) I1 J1 L d p1 ⟨_, _, a3, by omega⟩
    rcases b with ⟨b1, b2, b3⟩ | ⟨b1, b2, L2, p2, ⟨e2', k2', b3, b4⟩, b5⟩
    · rw [b1, b2, u_s2, u_s2, if_pos nI_0, if_pos nI_0]; exact ⟨I2, J2, Or.inl ⟨rfl, rfl, b3⟩⟩
    rw [b1, b2, u_s2, u_s2, if_neg nI1, if_neg nI1]
    have sg2 := b3.2.1.sg (b3.tt hC) 41
    rw [sg2.1, sg2.2, u_s1, u_s1]
    by_cases c41 : k2' = 3 ∧ T p2 = nI 41
    rotate_left
    · rw [if_neg c41, if_pos nI_0, if_pos nI_0]; exact ⟨I2, J2, Or.inl ⟨rfl, rfl, b3.ff hC⟩⟩
    rw [if_pos c41, if_neg nI1, if_neg nI1, u_s1, show J2 269 20 = nI (dp + 1) from b3.2.2.2.2.1.1, u_sub (by omega), show dp + 1 - 1 = dp by omega]
    have pe2 := b3.2.1.1.2.2.2 (show k2' ≠ 0 by omega)
    obtain ⟨I3, J3, p3, e3', k3', d1, d2, d3, d4⟩ := PQ.nx (b3.deep dp).1 hC
    rw [d1, u_s1, d2, u_s1]
    exact ⟨I3, J3, Or.inr ⟨rfl, rfl, L2, p3, ⟨_, _, d3, by omega⟩, by omega⟩⟩
  unfold b_X12_part0_84
  rw [(sg 33).1, (sg 33).2, u_s1, u_s1]
  by_cases c : k = 3 ∧ T p = nI 33
  rotate_left
  · rw [if_neg c, if_pos nI_0, if_pos nI_0]; exact br
  rw [if_pos c, if_neg nI1, if_neg nI1, h21]
  by_cases c8 : 8 ≤ tn
  · rw [if_pos (nI_le c8 (by omega)), if_pos (nI_le c8 (by omega))]; exact br
  have pe := hl.2.2.2 (show k ≠ 0 by omega)
  obtain ⟨I1, J1, p1, e1', k1', a1, a2, a3, a4⟩ := PQ.nx (h.deep (tn + 1)).2 hC
  rw [if_neg (nI_ge (by omega) (by decide)), if_neg (nI_ge (by omega) (by decide)), nI_add, a1, u_s1, u_s1, a2, u_s1]
  obtain ⟨I2, J2, b⟩ := hP (by omega) I1 J1 L d p1 ⟨_, _, a3, by omega⟩
  rcases b with ⟨b1, b2, b3⟩ | ⟨b1, b2, L2, p2, ⟨e2', k2', b3, b4⟩, b5⟩
  · rw [b1, b2, u_s2, u_s2, if_pos nI_0, if_pos nI_0]; exact ⟨I2, J2, Or.inl ⟨rfl, rfl, b3⟩⟩
  have l2 := b3.2.1.1
  rw [b1, b2, u_s2, u_s2, if_neg nI1, if_neg nI1, u_s1, show J2 269 21 = nI (tn + 1) from b3.2.2.2.2.1.2, u_sub (by omega), show tn + 1 - 1 = tn by omega]
  obtain ⟨I3, J3, d1, d2, d3, -, -⟩ := PQ.emit (b3.deep tn).2 hC (by omega) (x := -33) (w := nI 2) (y := nI 33) (d' := d + 1) (Or.inr (Or.inr (Or.inl ⟨rfl, rfl, rfl, by omega, rfl⟩)))
  rw [d1, u_s1, d2, u_s1]
  exact ⟨I3, J3, Or.inr ⟨rfl, rfl, L2 + 1, p2, ⟨_, _, d3, by omega⟩, by omega⟩⟩
/-- the signs of a level -/
def jn : Nat → Int32 → Bool
  | 0, x => decide (x = nI 124)
  | 1, x => decide (x = nI 38)
  | 2, x => decide (x = nI 60) || decide (x = nI 61) || decide (x = nI 62)
  | 3, x => decide (x = nI 43) || decide (x = nI 45)
  | _, x => decide (x = nI 42) || decide (x = nI 47)
theorem jn_op {l : Nat} {x : Int32} (hl : l < 5) (h : jn l x = true) : ∃ s, isOp s ∧ x = nI s := by
  rcases (show l = 0 ∨ l = 1 ∨ l = 2 ∨ l = 3 ∨ l = 4 by omega) with rfl | rfl | rfl | rfl | rfl <;> unfold jn at h <;> simp only [Bool.or_eq_true, decide_eq_true_eq] at h
  · exact ⟨124, by unfold isOp; omega, h⟩
  · exact ⟨38, by unfold isOp; omega, h⟩
  · rcases h with (h | h) | h
    · exact ⟨60, by unfold isOp; omega, h⟩
    · exact ⟨61, by unfold isOp; omega, h⟩
    · exact ⟨62, by unfold isOp; omega, h⟩
  · rcases h with h | h
    · exact ⟨43, by unfold isOp; omega, h⟩
    · exact ⟨45, by unfold isOp; omega, h⟩
  · rcases h with h | h
    · exact ⟨42, by unfold isOp; omega, h⟩
    · exact ⟨47, by unfold isOp; omega, h⟩
theorem sg_if {k : Nat} {x y : Int32} : (if k = 3 ∧ x = y then nI 1 else nI 0) = if k = 3 then (if x = y then nI 1 else nI 0) else nI 0 := by
  by_cases a : k = 3
  · by_cases b : x = y
    · rw [if_pos ⟨a, b⟩, if_pos a, if_pos b]
    · rw [if_neg (fun q => b q.2), if_pos a, if_neg b]
  · rw [if_neg (fun q => a q.1), if_neg a]
theorem joins_ev {T : Nat → Int32} {n p e k l : Nat} {I J : qI} (h : LX T n p e k I J) (hT : TT T n I J) (hl : l < 5) : f_X5_joinsAt 260 (nI l) I = some (if k = 3 ∧ jn l (T p) = true then nI 1 else nI 0) := by
  have sg := fun c => (h.sg hT c).1
  unfold f_X5_joinsAt
  simp only [sg, u_s1]
  by_cases k3 : k = 3
  rotate_left
  · have no : ∀ P : Prop, ¬ (k = 3 ∧ P) := fun P q => k3 q.1
    simp only [if_neg (no _), bz0, u_s1, if_pos nI_0, ite_self]
  have z0 : (nI 0 = (0 : Int32)) := nI_0
  rcases (show l = 0 ∨ l = 1 ∨ l = 2 ∨ l = 3 ∨ l = 4 by omega) with rfl | rfl | rfl | rfl | rfl
  · rw [if_pos rfl]
    show (q_b1 (q_bz (if k = 3 ∧ T p = nI 124 then nI 1 else nI 0)) fun _ => some (if k = 3 ∧ T p = nI 124 then nI 1 else nI 0)) = some (if k = 3 ∧ decide (T p = nI 124) = true then nI 1 else nI 0)
    by_cases c : T p = nI 124
    · rw [if_pos ⟨k3, c⟩, bz1, u_s1, if_pos ⟨k3, decide_eq_true c⟩]
    · rw [if_neg (fun q => c q.2), bz0, u_s1, if_neg (fun q => c (of_decide_eq_true q.2))]
  · rw [if_neg (by decide +kernel), if_pos rfl]
    show (q_b1 (q_bz (if k = 3 ∧ T p = nI 38 then nI 1 else nI 0)) fun _ => some (if k = 3 ∧ T p = nI 38 then nI 1 else nI 0)) = some (if k = 3 ∧ decide (T p = nI 38) = true then nI 1 else nI 0)
    by_cases c : T p = nI 38
    · rw [if_pos ⟨k3, c⟩, bz1, u_s1, if_pos ⟨k3, decide_eq_true c⟩]
    · rw [if_neg (fun q => c q.2), bz0, u_s1, if_neg (fun q => c (of_decide_eq_true q.2))]
  · rw [if_neg (by decide +kernel), if_neg (by decide +kernel), if_pos rfl]
    unfold jn
    by_cases c : T p = nI 60
    · simp only [if_pos (show k = 3 ∧ T p = nI 60 from ⟨k3, c⟩), if_neg nI1]
      rw [if_pos ⟨k3, by rw [decide_eq_true c]; rfl⟩]
    simp only [if_neg (show ¬ (k = 3 ∧ T p = nI 60) from fun q => c q.2), if_pos z0]
    by_cases c' : T p = nI 61
    · simp only [if_pos (show k = 3 ∧ T p = nI 61 from ⟨k3, c'⟩), if_neg nI1]
      rw [if_pos ⟨k3, by rw [decide_eq_true c', Bool.or_true]; rfl⟩]
    simp only [if_neg (show ¬ (k = 3 ∧ T p = nI 61) from fun q => c' q.2), if_pos z0]
    by_cases c'' : T p = nI 62
    · simp only [if_pos (show k = 3 ∧ T p = nI 62 from ⟨k3, c''⟩), if_neg nI1]
      rw [if_pos ⟨k3, by rw [decide_eq_true c'', Bool.or_true]⟩]
    simp only [if_neg (show ¬ (k = 3 ∧ T p = nI 62) from fun q => c'' q.2), if_pos z0]
    rw [if_neg (fun q => by have := q.2; rw [decide_eq_false c, decide_eq_false c', decide_eq_false c''] at this; cases this)]
  · rw [if_neg (by decide +kernel), if_neg (by decide +kernel), if_neg (by decide +kernel), if_pos rfl]
    unfold jn
    by_cases c : T p = nI 43
    · simp only [if_pos (show k = 3 ∧ T p = nI 43 from ⟨k3, c⟩), if_neg nI1]
      rw [if_pos ⟨k3, by rw [decide_eq_true c]; rfl⟩]
    simp only [if_neg (show ¬ (k = 3 ∧ T p = nI 43) from fun q => c q.2), if_pos z0]
    by_cases c' : T p = nI 45
    · simp only [if_pos (show k = 3 ∧ T p = nI 45 from ⟨k3, c'⟩), if_neg nI1]
      rw [if_pos ⟨k3, by rw [decide_eq_true c', Bool.or_true]⟩]
    simp only [if_neg (show ¬ (k = 3 ∧ T p = nI 45) from fun q => c' q.2), if_pos z0]
    rw [if_neg (fun q => by have := q.2; rw [decide_eq_false c, decide_eq_false c'] at this; cases this)]
  · rw [if_neg (by decide +kernel), if_neg (by decide +kernel), if_neg (by decide +kernel), if_neg (by decide +kernel)]
    unfold jn
    by_cases c : T p = nI 42
    · simp only [if_pos (show k = 3 ∧ T p = nI 42 from ⟨k3, c⟩), if_neg nI1]
      rw [if_pos ⟨k3, by rw [decide_eq_true c]; rfl⟩]
    simp only [if_neg (show ¬ (k = 3 ∧ T p = nI 42) from fun q => c q.2), if_pos z0]
    by_cases c' : T p = nI 47
    · simp only [if_pos (show k = 3 ∧ T p = nI 47 from ⟨k3, c'⟩), if_neg nI1]
      rw [if_pos ⟨k3, by rw [decide_eq_true c', Bool.or_true]⟩]
    simp only [if_neg (show ¬ (k = 3 ∧ T p = nI 47) from fun q => c' q.2), if_pos z0]
    rw [if_neg (fun q => by have := q.2; rw [decide_eq_false c, decide_eq_false c'] at this; cases this)]
