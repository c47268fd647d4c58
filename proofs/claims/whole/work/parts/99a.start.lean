/-! LEVEL B: the start -/
def rgB (t : Nat → Int32) (n : Nat) : Bool := match rgT n with
  | some (b, lo, hi) => (b && t n == -1) || (decide (lo ≤ (t n).toNatClampNeg) && decide ((t n).toNatClampNeg ≤ hi) && t n == nI (t n).toNatClampNeg)
  | none => true
theorem rgB_S {t : Nat → Int32} {n : Nat} (h : rgB t n = true) : rgS n (t n) := by
  unfold rgB at h
  unfold rgS
  split at h
  · rename_i b lo hi e
    rw [e]
    rw [Bool.or_eq_true, Bool.and_eq_true, Bool.and_eq_true, Bool.and_eq_true, beq_iff_eq, beq_iff_eq, decide_eq_true_eq, decide_eq_true_eq] at h
    rcases h with ⟨a1, a2⟩ | ⟨⟨a1, a2⟩, a3⟩
    · exact Or.inl ⟨a1, a2⟩
    · exact Or.inr ⟨_, a3, a1, a2⟩
  · rename_i e
    rw [e]; trivial
theorem r0_0 : (List.range' 0 80).all (rgB (q_z2.1 270)) = true := by decide +kernel
theorem r0_80 : (List.range' 80 100).all (rgB (q_z2.1 270)) = true := by decide +kernel
theorem r0_180 : (List.range' 180 100).all (rgB (q_z2.1 270)) = true := by decide +kernel
theorem r0_280 : (List.range' 280 90).all (rgB (q_z2.1 270)) = true := by decide +kernel
theorem r0_370 : (List.range' 370 80).all (rgB (q_z2.1 270)) = true := by decide +kernel
theorem r0_450 : (List.range' 450 80).all (rgB (q_z2.1 270)) = true := by decide +kernel
theorem r0_530 : (List.range' 530 80).all (rgB (q_z2.1 270)) = true := by decide +kernel
theorem r0_610 : (List.range' 610 80).all (rgB (q_z2.1 270)) = true := by decide +kernel
theorem r0_690 : (List.range' 690 80).all (rgB (q_z2.1 270)) = true := by decide +kernel
theorem r0_770 : (List.range' 770 80).all (rgB (q_z2.1 270)) = true := by decide +kernel
theorem r0_t : (List.range 12).all (fun t => rgB (q_z2.1 270) (850 + 200 * t) && rgB (q_z2.1 270) (851 + 200 * t)) = true := by decide +kernel
theorem r0_w : (List.range' 3250 50).all (rgB (q_z2.1 270)) = true := by decide +kernel
theorem r0_b : (List.range' 3300 80).all (rgB (q_z2.1 270)) = true := by decide +kernel
theorem r0_all (n : Nat) : rgS n (q_z2.1 270 n) := by
  by_cases h0 : 0 ≤ n ∧ n < 80
  · exact rgB_S (t := q_z2.1 270) (List.all_eq_true.mp r0_0 n (List.mem_range'_1.mpr (by omega)))
  by_cases h80 : 80 ≤ n ∧ n < 180
  · exact rgB_S (t := q_z2.1 270) (List.all_eq_true.mp r0_80 n (List.mem_range'_1.mpr (by omega)))
  by_cases h180 : 180 ≤ n ∧ n < 280
  · exact rgB_S (t := q_z2.1 270) (List.all_eq_true.mp r0_180 n (List.mem_range'_1.mpr (by omega)))
  by_cases h280 : 280 ≤ n ∧ n < 370
  · exact rgB_S (t := q_z2.1 270) (List.all_eq_true.mp r0_280 n (List.mem_range'_1.mpr (by omega)))
  by_cases h370 : 370 ≤ n ∧ n < 450
  · exact rgB_S (t := q_z2.1 270) (List.all_eq_true.mp r0_370 n (List.mem_range'_1.mpr (by omega)))
  by_cases h450 : 450 ≤ n ∧ n < 530
  · exact rgB_S (t := q_z2.1 270) (List.all_eq_true.mp r0_450 n (List.mem_range'_1.mpr (by omega)))
  by_cases h530 : 530 ≤ n ∧ n < 610
  · exact rgB_S (t := q_z2.1 270) (List.all_eq_true.mp r0_530 n (List.mem_range'_1.mpr (by omega)))
  by_cases h610 : 610 ≤ n ∧ n < 690
  · exact rgB_S (t := q_z2.1 270) (List.all_eq_true.mp r0_610 n (List.mem_range'_1.mpr (by omega)))
  by_cases h690 : 690 ≤ n ∧ n < 770
  · exact rgB_S (t := q_z2.1 270) (List.all_eq_true.mp r0_690 n (List.mem_range'_1.mpr (by omega)))
  by_cases h770 : 770 ≤ n ∧ n < 850
  · exact rgB_S (t := q_z2.1 270) (List.all_eq_true.mp r0_770 n (List.mem_range'_1.mpr (by omega)))
  by_cases h3250 : 3250 ≤ n ∧ n < 3300
  · exact rgB_S (t := q_z2.1 270) (List.all_eq_true.mp r0_w n (List.mem_range'_1.mpr (by omega)))
  by_cases h3300 : 3300 ≤ n ∧ n < 3380
  · exact rgB_S (t := q_z2.1 270) (List.all_eq_true.mp r0_b n (List.mem_range'_1.mpr (by omega)))
  by_cases hx : 2 ≤ (n - 850) % 200 ∨ 3374 ≤ n
  · exact rgS_n (rgT_x (by omega))
  have hq := List.all_eq_true.mp r0_t ((n - 850) / 200) (List.mem_range.mpr (by omega))
  simp only [Bool.and_eq_true] at hq
  by_cases h0 : (n - 850) % 200 = 0
  · have e : 850 + 200 * ((n - 850) / 200) = n := by omega
    rw [e] at hq
    exact rgB_S (t := q_z2.1 270) hq.1
  · have e : 851 + 200 * ((n - 850) / 200) = n := by omega
    rw [e] at hq
    exact rgB_S (t := q_z2.1 270) hq.2
theorem s0_c : (List.range 5).all (fun k => q_z2.1 270 k == (0 : Int32)) = true := by decide +kernel
theorem s0_p : (List.range 8).all (fun p => q_z2.1 270 (10 + 5 * p + 4) == (0 : Int32)) = true := by decide +kernel
theorem s0_64 : q_z2.1 64 8 = 0 ∧ q_z2.1 64 7 = 0 ∧ q_z2.1 260 6 = 0 := by decide +kernel
theorem s0_269 : q_z2.1 269 3 = 0 ∧ q_z2.1 269 39 = 0 ∧ q_z2.1 269 14 = 0 ∧ q_z2.1 269 25 = 0 := by decide +kernel
theorem s0_b : (List.range 8).all (fun p => q_z2.1 264 p == q_z2.1 273 p && q_z2.1 265 p == q_z2.1 274 p && (q_z2.1 273 p == -1 || q_z2.1 273 p == 0 || q_z2.1 273 p == 1) && q_z2.1 274 p == 0) = true := by decide +kernel
theorem s0_n1 : (List.range 240).all (fun i => q_z2.1 266 i == q_z2.1 275 i) = true := by decide +kernel
theorem s0_x : (List.range 12).all (fun i => q_z2.2.1 105 i == none && q_z2.2.1 170 i == none && q_z2.2.1 235 i == none) = true := by decide +kernel
theorem W0g {I : qI} {X : qX} (hX : VX X) (hV : VM 65 (I 270) I 0) (hr : ∀ n, rgS n (I 270 n)) (hc : ∀ k, k < 5 → I 270 k = 0) (hp : ∀ p, p < 8 → I 270 (10 + 5 * p + 4) = 0) (h64 : I 64 8 = 0 ∧ I 64 7 = 0 ∧ I 260 6 = 0) (h269 : I 269 3 = 0 ∧ I 269 39 = 0 ∧ I 269 14 = 0 ∧ I 269 25 = 0) (hb : ∀ p, p < 8 → I 264 p = I 273 p ∧ I 265 p = I 274 p ∧ (I 273 p = -1 ∨ I 273 p = 0 ∨ I 273 p = 1) ∧ I 274 p = 0) (hn : ∀ i, i < 240 → I 266 i = I 275 i) (hx : ∀ i, i < 12 → X.1 105 i = none ∧ X.1 170 i = none ∧ X.1 235 i = none) : WW X I I := by
  have c0 : ∀ k, k < 5 → cn (I 270) k = 0 := fun k hk => by unfold cn; rw [hc k hk]; rfl
  obtain ⟨⟨-, -⟩, hA, hF⟩ := hV
  refine ⟨hX, ⟨by rw [c0 2 (by decide)]; exact hA, ?_, fun n => ⟨hr n, fun e _ => by rw [e, hc 0 (by decide)]; exact ⟨0, nI_0.symm, by decide, by decide⟩⟩, ?_, ?_, ?_⟩, ⟨h64.1.trans h269.1.symm, Or.inl h269.1⟩, ⟨fun p h => ⟨(hb p h).1, (hb p h).2.1, (hb p h).2.2.1, by rw [(hb p h).2.2.2]; exact ⟨0, nI_0.symm, by decide, by decide⟩⟩, hn⟩, ⟨0, by decide, h64.2.1.trans nI_0.symm, h269.2.1.trans nI_0.symm, fun i hi => absurd hi (Nat.not_lt_zero _)⟩, ⟨0, by decide, h64.2.2.trans nI_0.symm, h269.2.2.1.trans nI_0.symm, fun i hi => absurd hi (Nat.not_lt_zero _)⟩, h269.2.2.2, ?_⟩
  · intro m h1 h3
    exact hF m (Nat.zero_le _) h3
  · unfold DD
    rw [c0 0 (by decide), c0 1 (by decide), c0 2 (by decide), c0 3 (by decide)]
    exact ⟨⟨by decide, by decide, by decide⟩, fun m hm => absurd hm (Nat.not_lt_zero _), fun m hm => absurd hm (Nat.not_lt_zero _), fun m hm => absurd hm (Nat.not_lt_zero _), fun p h => by rw [hp p h]; exact ⟨0, nI_0.symm, by decide, by decide⟩⟩
  · intro d hd
    rw [c0 3 (by decide)] at hd
    exact absurd hd (Nat.not_lt_zero _)
  · intro d hd
    rw [c0 4 (by decide)] at hd
    exact absurd hd (Nat.not_lt_zero _)
  · intro v hv i hi
    obtain ⟨x1, x2, x3⟩ := hx i hi
    rcases hv with rfl | rfl | rfl
    · exact Or.inl x1
    · exact Or.inl x2
    · exact Or.inl x3
theorem all0 {f : Nat → Int32} {n : Nat} (h : (List.range n).all (fun k => f k == (0 : Int32)) = true) : ∀ k, k < n → f k = 0 := fun k hk => beq_iff_eq.mp (List.all_eq_true.mp h k (List.mem_range.mpr hk))
theorem allB {a b c d : Nat → Int32} {n : Nat} (h : (List.range n).all (fun p => a p == b p && c p == d p && (b p == -1 || b p == 0 || b p == 1) && d p == 0) = true) : ∀ p, p < n → a p = b p ∧ c p = d p ∧ (b p = -1 ∨ b p = 0 ∨ b p = 1) ∧ d p = 0 := fun p hp => by
  have q := List.all_eq_true.mp h p (List.mem_range.mpr hp)
  rw [Bool.and_eq_true, Bool.and_eq_true, Bool.and_eq_true, Bool.or_eq_true, Bool.or_eq_true, beq_iff_eq, beq_iff_eq, beq_iff_eq, beq_iff_eq, beq_iff_eq, beq_iff_eq] at q
  exact ⟨q.1.1.1, q.1.1.2, q.1.2.elim (fun z => z.elim Or.inl (fun y => Or.inr (Or.inl y))) (fun z => Or.inr (Or.inr z)), q.2⟩
theorem allE2 {a b : Nat → Int32} {n : Nat} (h : (List.range n).all (fun p => a p == b p) = true) : ∀ p, p < n → a p = b p := fun p hp => beq_iff_eq.mp (List.all_eq_true.mp h p (List.mem_range.mpr hp))
theorem allX {a b c : Nat → Option Nat} {n : Nat} (h : (List.range n).all (fun i => a i == none && b i == none && c i == none) = true) : ∀ p, p < n → a p = none ∧ b p = none ∧ c p = none := fun p hp => by
  have q := List.all_eq_true.mp h p (List.mem_range.mpr hp)
  rw [Bool.and_eq_true, Bool.and_eq_true, beq_iff_eq, beq_iff_eq, beq_iff_eq] at q
  exact ⟨q.1.1, q.1.2, q.2⟩
theorem V2_0 : V2 q_z2.1 q_z2.2 := W0g (I := q_z2.1) (X := q_z2.2) VX0 VM0 r0_all (all0 (f := q_z2.1 270) s0_c) (all0 (f := fun p => q_z2.1 270 (10 + 5 * p + 4)) s0_p) s0_64 s0_269 (allB (a := q_z2.1 264) (b := q_z2.1 273) (c := q_z2.1 265) (d := q_z2.1 274) s0_b) (allE2 (a := q_z2.1 266) (b := q_z2.1 275) s0_n1) (allX (a := q_z2.2.1 105) (b := q_z2.2.1 170) (c := q_z2.2.1 235) s0_x)
