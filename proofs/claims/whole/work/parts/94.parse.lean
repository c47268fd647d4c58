/-! LEVEL B: texts: what both parsers keep -/
def nmB (key z : Nat) : Bool := match f_J0_indexOf_0f7a4 (7 + key) (((nI z).toUInt32 % 65536).toInt32), f_X12_isName (nI key) (nI z) with
  | some a, some b => (decide (a = -1) && decide (b = nI 0)) || (decide (a.toNatClampNeg < nmN key) && decide (a = nI a.toNatClampNeg) && decide (nmL key a.toNatClampNeg = z) && decide (b = nI 1))
  | _, _ => false
theorem nmA : (List.range 7).all (fun key => (List.range 26).all fun z => nmB key (97 + z)) = true := by decide +kernel
theorem nm_ev {key z : Nat} (hk : key < 7) (h1 : 97 ≤ z) (h2 : z ≤ 122) : (∃ i, i < nmN key ∧ f_J0_indexOf_0f7a4 (7 + key) (((nI z).toUInt32 % 65536).toInt32) = some (nI i) ∧ nmL key i = z ∧ f_X12_isName (nI key) (nI z) = some (nI 1)) ∨ (f_J0_indexOf_0f7a4 (7 + key) (((nI z).toUInt32 % 65536).toInt32) = some (-1) ∧ f_X12_isName (nI key) (nI z) = some (nI 0)) := by
  have h := List.all_eq_true.mp (List.all_eq_true.mp nmA key (List.mem_range.mpr hk)) (z - 97) (List.mem_range.mpr (by omega))
  rw [show 97 + (z - 97) = z by omega] at h
  unfold nmB at h
  split at h
  · rename_i a b e1 e2
    rw [e1, e2]
    rw [Bool.or_eq_true, Bool.and_eq_true, Bool.and_eq_true, Bool.and_eq_true, Bool.and_eq_true, decide_eq_true_eq, decide_eq_true_eq, decide_eq_true_eq, decide_eq_true_eq, decide_eq_true_eq, decide_eq_true_eq] at h
    rcases h with ⟨a1, a2⟩ | ⟨⟨⟨a1, a2⟩, a3⟩, a4⟩
    · right; rw [a1, a2]; exact ⟨rfl, rfl⟩
    · left; exact ⟨_, a1, congrArg some a2, a3, congrArg some a4⟩
  · cases h
theorem names_ev {key : Nat} (hk : key < 7) : f_X5_names (nI key) = some (7 + key) := by
  rcases (show key = 0 ∨ key = 1 ∨ key = 2 ∨ key = 3 ∨ key = 4 ∨ key = 5 ∨ key = 6 by omega) with rfl | rfl | rfl | rfl | rfl | rfl | rfl <;> decide +kernel
/-- a word as an operand -/
theorem name_ev {T : Nat → Int32} {n p e k key : Nat} {I J : qI} (h : LX T n p e k I J) (hT : TT T n I J) (hk : k = 1) (hkey : key < 7) (h7 : I 260 7 = nI key) : (∃ i, i < nmN key ∧ f_X5_name 260 I = some (nI (10000 + i)) ∧ J 269 19 = nI (nmL key i) ∧ ¬ J 269 19 = 0 ∧ f_X12_isName (nI key) (J 269 19) = some (nI 1)) ∨ (f_X5_name 260 I = some (-1) ∧ (J 269 19 = 0 ∨ (¬ J 269 19 = 0 ∧ f_X12_isName (nI key) (J 269 19) = some (nI 0)))) := by
  obtain ⟨⟨a1, a2, a3, a4⟩, ⟨b1, b2, b3⟩, ⟨c1, c2, c3⟩, -, d, -⟩ := h
  obtain ⟨d1, d2⟩ := d hk
  have hn := hT.1
  have pe := a4 (by omega)
  unfold f_X5_name b_X5_name_37
  rw [b1, b2, u_sub (by omega)]
  by_cases c : e - p = 1
  · rw [if_pos c] at d2
    have dl := of_decide_eq_true (d1 p (Nat.le_refl _) (by omega))
    obtain ⟨z, z1, z2, z3⟩ := u_range (by decide) dl.1 dl.2 (by decide)
    have ne : ¬ nI z = (0 : Int32) := nI_ne0 (by omega) (by omega)
    rw [if_pos (by rw [c]), h7, names_ev hkey, u_s1, if_neg (by omega), u_rd (show p < 96 by omega) (by decide), u_s1, show I (260 + 1) p = T p from (hT.2.2.2 p (by omega)).1, d2, z1]
    rcases nm_ev hkey z2 z3 with ⟨i, i1, i2, i3, i4⟩ | ⟨i2, i4⟩
    · left
      have : i < 3 := by
        have : nmN key ≤ 3 := by
          rcases (show key = 0 ∨ key = 1 ∨ key = 2 ∨ key = 3 ∨ key = 4 ∨ key = 5 ∨ key = 6 by omega) with rfl | rfl | rfl | rfl | rfl | rfl | rfl <;> decide
        omega
      rw [i2, u_s1, if_pos (nI_pos' (by omega)), nI_add]
      exact ⟨i, i1, rfl, by rw [i3], ne, i4⟩
    · right
      rw [i2, u_s1, if_neg (by decide)]
      exact ⟨rfl, Or.inr ⟨ne, i4⟩⟩
  · rw [if_neg c] at d2
    right
    rw [if_neg (fun q => c ((nI_eq (by omega) (by omega)).mp q)), if_neg (by decide), d2]
    exact ⟨rfl, Or.inl nI_0⟩
def PZ (A : Nat) (I0 J0 I J : qI) : Prop := ((∀ a, a ≠ 260 → a ≠ 262 → I a = I0 a) ∧ ∀ k, (k < 2 ∨ k = 6 ∨ k = 7 ∨ 8 < k) → I 260 k = I0 260 k) ∧ (∀ a, a ≠ 269 → a ≠ 270 → J a = J0 a) ∧ (∀ k, (k < 15 ∨ k = 23 ∨ 24 < k) → J 269 k = J0 269 k) ∧ ∀ m, (m < A ∨ A + 192 ≤ m) → J 270 m = J0 270 m
theorem PZ.lx {A : Nat} {I0 J0 I J I' J' : qI} (h : PZ A I0 J0 I J) (hC : LC I I') (hM : LM J J') : PZ A I0 J0 I' J' := by
  obtain ⟨⟨h1, h2⟩, h3, h4, h5⟩ := h
  exact ⟨⟨fun a a1 a2 => (hC.1 a a1).trans (h1 a a1 a2), fun k hk => (hC.2 k (by omega)).trans (h2 k hk)⟩, fun a a1 a2 => (hM.1 a a1).trans (h3 a a1 a2), fun k hk => (hM.2 k (by omega)).trans (h4 k hk), fun m hm => by rw [hM.1 270 (by decide)]; exact h5 m hm⟩
def CX (key A : Nat) (T : Nat → Int32) (n : Nat) (I0 J0 : qI) : Prop := key < 7 ∧ A + 192 ≤ 3580 ∧ TT T n I0 J0 ∧ I0 260 7 = nI key ∧ J0 269 23 = nI A
/-- in the midst of a text: L ops, d on the stack, the token at p -/
def PQ (key A : Nat) (T : Nat → Int32) (n : Nat) (I0 J0 : qI) (dp tn L d p e k : Nat) (I J : qI) : Prop := PZ A I0 J0 I J ∧ LX T n p e k I J ∧ (I 260 2 = nI L ∧ J 269 22 = nI L) ∧ I 260 8 = J 269 24 ∧ (J 269 20 = nI dp ∧ J 269 21 = nI tn) ∧ ∃ dd : Nat → Nat, wfc key L (I 262) (fun m => J 270 (A + m)) dd ∧ dd L = d
def PP (key A : Nat) (T : Nat → Int32) (n : Nat) (I0 J0 : qI) (dp tn L d p : Nat) (I J : qI) : Prop := ∃ e k, PQ key A T n I0 J0 dp tn L d p e k I J ∧ L ≤ p
def FF (A : Nat) (I0 J0 I J : qI) : Prop := PZ A I0 J0 I J ∧ ∃ p, p ≤ 96 ∧ I 260 4 = nI p ∧ J 269 15 = nI p
theorem PQ.tt {key A : Nat} {T : Nat → Int32} {n : Nat} {I0 J0 : qI} {dp tn L d p e k : Nat} {I J : qI} (h : PQ key A T n I0 J0 dp tn L d p e k I J) (hC : CX key A T n I0 J0) : TT T n I J := by
  obtain ⟨⟨⟨h1, h2⟩, h3, h4, h5⟩, -⟩ := h
  exact hC.2.2.1.cg (h2 6 (by decide)) (h4 14 (by decide)) (h1 261 (by decide) (by decide)) (h3 276 (by decide) (by decide))
theorem PQ.ff {key A : Nat} {T : Nat → Int32} {n : Nat} {I0 J0 : qI} {dp tn L d p e k : Nat} {I J : qI} (h : PQ key A T n I0 J0 dp tn L d p e k I J) (hC : CX key A T n I0 J0) : FF A I0 J0 I J := ⟨h.1, p, by have := hC.2.2.1.1; have := h.2.1.1; omega, h.2.1.2.1.1, h.2.1.2.2.1.1⟩
theorem PQ.nx {key A : Nat} {T : Nat → Int32} {n : Nat} {I0 J0 : qI} {dp tn L d p e k : Nat} {I J : qI} (h : PQ key A T n I0 J0 dp tn L d p e k I J) (hC : CX key A T n I0 J0) : ∃ I' J' p' e' k', f_X5_goOn 260 I = some I' ∧ f_X12_next 269 J = some J' ∧ PQ key A T n I0 J0 dp tn L d p' e' k' I' J' ∧ e ≤ p' := by
  have hT := h.tt hC
  obtain ⟨h1, h2, ⟨h3, h4⟩, h5, ⟨h6, h7⟩, dd, h8, h9⟩ := h
  obtain ⟨I', J', p', e', k', a1, a2, a3, a4, a5, a6⟩ := h2.nx hT
  refine ⟨I', J', p', e', k', a1, a2, ⟨h1.lx a5 a6, a3, ⟨by rw [a5.2 2 (by decide)]; exact h3, by rw [a6.2 22 (by decide)]; exact h4⟩, by rw [a5.2 8 (by decide), a6.2 24 (by decide)]; exact h5, ⟨by rw [a6.2 20 (by decide)]; exact h6, by rw [a6.2 21 (by decide)]; exact h7⟩, dd, ?_, h9⟩, a4⟩
  rw [a5.1 262 (by decide), a6.1 270 (by decide)]
  exact h8
theorem PQ.emit {key A : Nat} {T : Nat → Int32} {n : Nat} {I0 J0 : qI} {dp tn L d d' p e k : Nat} {I J : qI} (h : PQ key A T n I0 J0 dp tn L d p e k I J) (hC : CX key A T n I0 J0) (hL : L < 96) {x w y : Int32} (hs : stR key x w y d d') : ∃ I' J', f_X5_emit 260 x I = some I' ∧ f_X12_step 269 w y J = some J' ∧ PQ key A T n I0 J0 dp tn (L + 1) d' p e k I' J' ∧ (∀ i, i ≠ 2 → I' 260 i = I 260 i) ∧ ∀ i, i ≠ 22 → J' 269 i = J 269 i := by
  obtain ⟨⟨⟨h1, h2⟩, f3, f4, f5⟩, ⟨l1, ⟨l2, l3, l4⟩, ⟨l5, l6, l7⟩, l8, l9, l10⟩, ⟨h3, h4⟩, h5, ⟨h6, h7⟩, dd, h8, h9⟩ := h
  have hA := hC.2.1
  have h23 : J 269 23 = nI A := (f4 23 (by decide)).trans hC.2.2.2.2
  have c2 : ∀ i, i ≠ 2 → q_up (q_up I 262 L x) 260 2 (nI (L + 1)) 260 i = I 260 i := fun i hi => by rw [u_up_j hi, u_up_a (by decide)]
  have c22 : ∀ i, i ≠ 22 → q_up (q_up (q_up J 270 (A + 2 * L) w) 270 (A + 2 * L + 1) y) 269 22 (nI (L + 1)) 269 i = J 269 i := fun i hi => by rw [u_up_j hi, u_up_a (by decide), u_up_a (by decide)]
  have r270 : ∀ m, m ≠ A + 2 * L → m ≠ A + 2 * L + 1 → q_up (q_up (q_up J 270 (A + 2 * L) w) 270 (A + 2 * L + 1) y) 269 22 (nI (L + 1)) 270 m = J 270 m := fun m a b => by rw [u_up_a (by decide), u_up_j b, u_up_j a]
  refine ⟨_, _, ?_, ?_, ⟨⟨⟨fun a a1 a2 => ?_, fun i hi => ?_⟩, fun a a1 a2 => ?_, fun i hi => ?_, fun m hm => ?_⟩, ⟨l1, ⟨?_, ?_, ?_⟩, ⟨?_, ?_, ?_⟩, ?_, ?_, ?_⟩, ⟨u_up_same, u_up_same⟩, ?_, ⟨?_, ?_⟩, fun m => if m ≤ L then dd m else d', ⟨?_, fun m hm => ?_⟩, ?_⟩, c2, c22⟩
  · unfold f_X5_emit
    rw [h3, if_pos (nI_lt hL (by decide)), u_wr hL (by decide), u_s1, u_s1, u_up_a (by decide), h3, nI_add]
  · unfold f_X12_step
    rw [h23, h4, u_mul, nI_add, u_wr (show A + 2 * L < 3580 by omega) (by decide), u_s1, u_up_a (by decide), u_up_a (by decide), h23, h4, u_mul, nI_add, nI_add, u_wr (show A + 2 * L + 1 < 3580 by omega) (by decide), u_s1, u_s1, u_up_a (by decide), u_up_a (by decide), h4, nI_add]
  · funext i; rw [u_up_a a1, u_up_a a2, h1 a a1 a2]
  · rw [c2 i (by omega)]; exact h2 i hi
  · funext i; rw [u_up_a a1, u_up_a a2, u_up_a a2, f3 a a1 a2]
  · rw [c22 i (by omega)]; exact f4 i hi
  · rw [r270 m (by omega) (by omega)]; exact f5 m hm
  · rw [c2 4 (by decide)]; exact l2
  · rw [c2 5 (by decide)]; exact l3
  · rw [c2 3 (by decide)]; exact l4
  · rw [c22 15 (by decide)]; exact l5
  · rw [c22 16 (by decide)]; exact l6
  · rw [c22 17 (by decide)]; exact l7
  · rw [c22 19 (by decide)]; exact l8
  · rw [c22 19 (by decide)]; exact l9
  · rw [c22 18 (by decide)]; exact l10
  · rw [c2 8 (by decide), c22 24 (by decide)]; exact h5
  · rw [c22 20 (by decide)]; exact h6
  · rw [c22 21 (by decide)]; exact h7
  · show (if 0 ≤ L then dd 0 else d') = 0
    rw [if_pos (Nat.zero_le _)]; exact h8.1
  · show stR key (q_up (q_up I 262 L x) 260 2 (nI (L + 1)) 262 m) (q_up (q_up (q_up J 270 (A + 2 * L) w) 270 (A + 2 * L + 1) y) 269 22 (nI (L + 1)) 270 (A + 2 * m)) (q_up (q_up (q_up J 270 (A + 2 * L) w) 270 (A + 2 * L + 1) y) 269 22 (nI (L + 1)) 270 (A + (2 * m + 1))) (if m ≤ L then dd m else d') (if m + 1 ≤ L then dd (m + 1) else d')
    rw [if_pos (show m ≤ L by omega)]
    by_cases em : m = L
    · subst em
      rw [if_neg (by omega), u_up_a (by decide), u_up_same, u_up_a (by decide), u_up_j (by omega), u_up_same, u_up_a (by decide), show A + (2 * m + 1) = A + 2 * m + 1 by omega, u_up_same, h9]
      exact hs
    · rw [if_pos (show m + 1 ≤ L by omega), u_up_a (by decide), u_up_j em, r270 _ (by omega) (by omega), r270 _ (by omega) (by omega)]
      exact h8.2 m (by omega)
  · show (if L + 1 ≤ L then dd (L + 1) else d') = d'
    rw [if_neg (by omega)]
/-- one operand more -/
theorem PQ.said {key A : Nat} {T : Nat → Int32} {n : Nat} {I0 J0 : qI} {dp tn L d p e k : Nat} {I J : qI} (h : PQ key A T n I0 J0 dp tn L d p e k I J) : PQ key A T n I0 J0 dp tn L d p e k (q_up I 260 8 (I 260 8 + nI 1)) (q_up J 269 24 (J 269 24 + nI 1)) := by
  obtain ⟨⟨⟨h1, h2⟩, f3, f4, f5⟩, ⟨l1, ⟨l2, l3, l4⟩, ⟨l5, l6, l7⟩, l8, l9, l10⟩, ⟨h3, h4⟩, h5, ⟨h6, h7⟩, dd, h8, h9⟩ := h
  have cI : ∀ a, a ≠ 260 → q_up I 260 8 (I 260 8 + nI 1) a = I a := fun a ha => by funext i; exact u_up_a ha
  have cJ : ∀ a, a ≠ 269 → q_up J 269 24 (J 269 24 + nI 1) a = J a := fun a ha => by funext i; exact u_up_a ha
  refine ⟨⟨⟨fun a a1 a2 => by rw [cI a a1]; exact h1 a a1 a2, fun i hi => by rw [u_up_j (by omega)]; exact h2 i hi⟩, fun a a1 a2 => by rw [cJ a a1]; exact f3 a a1 a2, fun i hi => by rw [u_up_j (by omega)]; exact f4 i hi, fun m hm => by rw [cJ 270 (by decide)]; exact f5 m hm⟩, ⟨l1, ⟨by rw [u_up_j (by decide)]; exact l2, by rw [u_up_j (by decide)]; exact l3, by rw [u_up_j (by decide)]; exact l4⟩, ⟨by rw [u_up_j (by decide)]; exact l5, by rw [u_up_j (by decide)]; exact l6, by rw [u_up_j (by decide)]; exact l7⟩, by rw [u_up_j (by decide)]; exact l8, by rw [u_up_j (by decide)]; exact l9, by rw [u_up_j (by decide)]; exact l10⟩, ⟨by rw [u_up_j (by decide)]; exact h3, by rw [u_up_j (by decide)]; exact h4⟩, by rw [u_up_same, u_up_same, h5], ⟨by rw [u_up_j (by decide)]; exact h6, by rw [u_up_j (by decide)]; exact h7⟩, dd, ?_, h9⟩
  rw [cI 262 (by decide), cJ 270 (by decide)]
  exact h8
/-- the model's own depth -/
theorem PQ.deep {key A : Nat} {T : Nat → Int32} {n : Nat} {I0 J0 : qI} {dp tn L d p e k : Nat} {I J : qI} (h : PQ key A T n I0 J0 dp tn L d p e k I J) (x : Nat) : PQ key A T n I0 J0 x tn L d p e k I (q_up J 269 20 (nI x)) ∧ PQ key A T n I0 J0 dp x L d p e k I (q_up J 269 21 (nI x)) := by
  obtain ⟨⟨⟨h1, h2⟩, f3, f4, f5⟩, ⟨l1, ⟨l2, l3, l4⟩, ⟨l5, l6, l7⟩, l8, l9, l10⟩, ⟨h3, h4⟩, h5, ⟨h6, h7⟩, dd, h8, h9⟩ := h
  have cJ : ∀ j a, a ≠ 269 → q_up J 269 j (nI x) a = J a := fun j a ha => by funext i; exact u_up_a ha
  constructor
  · refine ⟨⟨⟨h1, h2⟩, fun a a1 a2 => by rw [cJ _ a a1]; exact f3 a a1 a2, fun i hi => by rw [u_up_j (by omega)]; exact f4 i hi, fun m hm => by rw [cJ _ 270 (by decide)]; exact f5 m hm⟩, ⟨l1, ⟨l2, l3, l4⟩, ⟨by rw [u_up_j (by decide)]; exact l5, by rw [u_up_j (by decide)]; exact l6, by rw [u_up_j (by decide)]; exact l7⟩, by rw [u_up_j (by decide)]; exact l8, by rw [u_up_j (by decide)]; exact l9, by rw [u_up_j (by decide)]; exact l10⟩, ⟨h3, by rw [u_up_j (by decide)]; exact h4⟩, by rw [u_up_j (by decide)]; exact h5, ⟨u_up_same, by rw [u_up_j (by decide)]; exact h7⟩, dd, ?_, h9⟩
    rw [cJ _ 270 (by decide)]
    exact h8
  · refine ⟨⟨⟨h1, h2⟩, fun a a1 a2 => by rw [cJ _ a a1]; exact f3 a a1 a2, fun i hi => by rw [u_up_j (by omega)]; exact f4 i hi, fun m hm => by rw [cJ _ 270 (by decide)]; exact f5 m hm⟩, ⟨l1, ⟨l2, l3, l4⟩, ⟨by rw [u_up_j (by decide)]; exact l5, by rw [u_up_j (by decide)]; exact l6, by rw [u_up_j (by decide)]; exact l7⟩, by rw [u_up_j (by decide)]; exact l8, by rw [u_up_j (by decide)]; exact l9, by rw [u_up_j (by decide)]; exact l10⟩, ⟨h3, by rw [u_up_j (by decide)]; exact h4⟩, by rw [u_up_j (by decide)]; exact h5, ⟨by rw [u_up_j (by decide)]; exact h6, u_up_same⟩, dd, ?_, h9⟩
    rw [cJ _ 270 (by decide)]
    exact h8
