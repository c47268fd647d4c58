/-! THE ENTRY: what the Statement gives of the start, in the words of the pure heap; the law up to its loop -/
def q_nr : List Cond := flatC (Jvm.Cond.and given_1 narrow_1)
def q_stm (i : Nat) : Term := .string "TokenValley$Reader" (80 + 2 * i)
def q_sva (i : Nat) : Term := .field (q_stm i) "java/lang/String" "value" "[B"
theorem q_n1 : ∀ i, i < 14 → Cond.exactly (q_stm i) "java/lang/String" ∈ q_nr := by decide +kernel
theorem q_n2 : ∀ i, i < 14 → Cond.eq (.field (q_stm i) "java/lang/String" "coder" "B") (.int 0) ∈ q_nr := by decide +kernel
theorem q_n3 : ∀ i, i < 14 → Cond.arrayOf (q_sva i) .byte ∈ q_nr := by decide +kernel
theorem q_n4 : ∀ i, i < 14 → Cond.eq (.length (q_sva i)) (.int (Int32.ofNat (q_slen.getD i 0))) ∈ q_nr := by decide +kernel
theorem q_n5 : ∀ i, i < 14 → ∀ j, j < q_slen.getD i 0 → Cond.eq (.elem (q_sva i) (.int (Int32.ofNat j))) (.int ((q_sbyt.getD i []).getD j 0)) ∈ q_nr := by decide +kernel
theorem q_n6 : ∀ j, j < 14 → ∀ i, i < j → Cond.not (Cond.eq (q_stm i) (q_stm j)) ∈ q_nr := by decide +kernel
theorem q_sLEAST : Cond.arrayOf (.static "TokenValley$Men" "LEAST_V" "[I") .int ∈ q_nr ∧ Cond.eq (.length (.static "TokenValley$Men" "LEAST_V" "[I")) (.int (Int32.ofNat 6)) ∈ q_nr ∧ ∀ j, j < 6 → Cond.eq (.elem (.static "TokenValley$Men" "LEAST_V" "[I") (.int (Int32.ofNat j))) (.int (q_LEAST j)) ∈ q_nr := by decide +kernel
theorem q_sMOST : Cond.arrayOf (.static "TokenValley$Men" "MOST_V" "[I") .int ∈ q_nr ∧ Cond.eq (.length (.static "TokenValley$Men" "MOST_V" "[I")) (.int (Int32.ofNat 6)) ∈ q_nr ∧ ∀ j, j < 6 → Cond.eq (.elem (.static "TokenValley$Men" "MOST_V" "[I") (.int (Int32.ofNat j))) (.int (q_MOST j)) ∈ q_nr := by decide +kernel
theorem q_sABOVE : Cond.arrayOf (.static "TokenValley$Dues" "ABOVE" "[I") .int ∈ q_nr ∧ Cond.eq (.length (.static "TokenValley$Dues" "ABOVE" "[I")) (.int (Int32.ofNat 7)) ∈ q_nr ∧ ∀ j, j < 7 → Cond.eq (.elem (.static "TokenValley$Dues" "ABOVE" "[I") (.int (Int32.ofNat j))) (.int (q_ABOVE j)) ∈ q_nr := by decide +kernel
theorem q_sCS : Cond.eq (.static "java/lang/String" "COMPACT_STRINGS" "Z") (.int 1) ∈ q_nr ∧ Cond.isRef (.static "jdk/internal/util/Preconditions" "SIOOBE_FORMATTER" "Ljava/util/function/BiFunction;") ∈ q_nr := by decide +kernel
theorem q_Xof {args : Array Value} {s : State} {tm : Term} {N : Nat} {f : Nat → Int32} (hN : N < 2 ^ 31) (harr : (Cond.arrayOf tm .int).before args s = true) (hlen : (Cond.eq (.length tm) (.int (Int32.ofNat N))).before args s = true) (hel : ∀ j : Nat, j < N → (Cond.eq (.elem tm (.int (Int32.ofNat j))) (.int (f j))).before args s = true) : ∃ t : Nat, tm.eval args s none [] s = some (.ref t) ∧ t < s.heap.size ∧ va_X t N f s s.heap := by
  have hv := va_eqt hlen
  obtain ⟨b, cell, ht, hat, -⟩ := Term.length_spec hv
  have hsz : cell.slots.size < 2 ^ 31 := by
    have hv' := hv
    simp only [Term.eval, ht, hat, Option.bind_eq_bind, Option.bind_some] at hv'
    by_cases hlt : cell.slots.size < 2147483648
    · exact hlt
    · simp [hlt] at hv'
  obtain ⟨t, ht2, cell2, c1, c2, c3, c4, c5, c6, -⟩ := va_Tof (f := fun j => .int (f j)) (A := fun q => s.heap.size ≤ q) hN harr hv (fun j hj => va_eqt (hel j hj)) (fun a h => Nat.not_le.mpr h)
  cases ht.symm.trans ht2
  obtain ⟨hcell, -, -, -⟩ := State.arrayAt?_spec hat
  cases hcell.symm.trans c1
  have e : cell.slots.size = N := by
    have h := congrArg Int32.toNatClampNeg c5
    rw [Int32.toNatClampNeg_ofNat_of_lt hN] at h
    rw [← h]
    exact (Int32.toNatClampNeg_ofNat_of_lt hsz).symm
  exact ⟨b, ht, (Array.getElem?_eq_some_iff.mp c1).1, cell, c1, c2, c3, e, c6⟩
theorem q_Scongr {N : Nat} {len : List Nat} {byt : List (List Int32)} {k v k' v' : Nat → Nat} {A : Nat → Prop} {U : State} {H : Heap} (h : vk_S N len byt k v A U H) (e1 : ∀ i, i < N → k' i = k i) (e2 : ∀ i, i < N → v' i = v i) : vk_S N len byt k' v' A U H :=
  ⟨fun i hi => by rw [e1 i hi, e2 i hi]; exact h.1 i hi, fun i j hi hj e => h.2 i j hi hj (by rw [← e1 i hi, ← e1 j hj]; exact e)⟩
def q_old (b a1 a2 a3 fm : Nat) (adK adV : Nat → Nat) (k : Nat) : Nat := match k with
  | 0 => b
  | 1 => a1
  | 2 => a2
  | 3 => a3
  | k + 4 => if k < 14 then adK k else if k < 28 then adV (k - 14) else fm
theorem q_old_K {b a1 a2 a3 fm : Nat} {adK adV : Nat → Nat} {i : Nat} (h : i < 14) : q_old b a1 a2 a3 fm adK adV (i + 4) = adK i := if_pos h
theorem q_old_V {b a1 a2 a3 fm : Nat} {adK adV : Nat → Nat} {i : Nat} (h : i < 14) : q_old b a1 a2 a3 fm adK adV (i + 18) = adV i := by
  show (if i + 14 < 14 then adK (i + 14) else if i + 14 < 28 then adV (i + 14 - 14) else fm) = adV i
  rw [if_neg (by omega), if_pos (by omega), Nat.add_sub_cancel]
def q_ol0 (L k : Nat) : Nat := match k with
  | 0 => L
  | 1 => 6
  | 2 => 6
  | _ => 7
def q_ov0 (xs : Nat → Int32) (k : Nat) : Nat → Int32 := match k with
  | 0 => xs
  | 1 => q_LEAST
  | 2 => q_MOST
  | _ => q_ABOVE
def q_cC (c0 c1 c2 c3 c4 c5 c6 c7 c8 c9 c10 c11 c12 : ClassId) (k : Nat) : ClassId := match k with
  | 0 => c0
  | 1 => c1
  | 2 => c2
  | 3 => c3
  | 4 => c4
  | 5 => c5
  | 6 => c6
  | 7 => c7
  | 8 => c8
  | 9 => c9
  | 10 => c10
  | 11 => c11
  | _ => c12
def q_cS (c0 c1 c2 c3 c4 c5 c6 c7 c8 c9 c10 c11 c12 : Nat → Nat) (k : Nat) : Nat → Nat := match k with
  | 0 => c0
  | 1 => c1
  | 2 => c2
  | 3 => c3
  | 4 => c4
  | 5 => c5
  | 6 => c6
  | 7 => c7
  | 8 => c8
  | 9 => c9
  | 10 => c10
  | 11 => c11
  | _ => c12
set_option maxHeartbeats 4000000 in
theorem q_start {s : State} {b L : Nat} {xs : Nat → Int32} (hts : ∀ w ∈ lw_tbl, w.before #[Value.ref b] s = true) (hX : va_X b L xs s s.heap) (hbl : b < s.heap.size) (hgv : (Jvm.Cond.and given_1 narrow_1).before #[Value.ref b] s = true) : ∃ Γ : qC, Γ.1 0 = b ∧ q_sz Γ = s.heap.size ∧ q_gm Γ ∧ (q_ol Γ 0 = L ∧ q_ov Γ 0 = xs) ∧ q_Old Γ s ∧ va_K (q_D Γ) vwCl (q_tys Γ) s := by
  have hs : ∀ w ∈ q_nr, w.before #[Value.ref b] s = true := flat_of_before _ hgv
  have hq : ∀ w ∈ q_tbl, w.before #[Value.ref b] s = true := fun w h => hts w (List.mem_filter.mp h).1
  have hA : ∀ a : Nat, a < s.heap.size → ¬ (fun q : Nat => s.heap.size ≤ q) a := fun a h => Nat.not_le.mpr h
  obtain ⟨c0, i0, hk0⟩ := u_known (C := RX0) (T := TX0) (N := 3) (n := 3) hq q_in0 (hts (.instantiable RX0 3) (List.mem_of_getElem? (i := 522) (by decide +kernel)))
  obtain ⟨c1, i1, hk1⟩ := u_known (C := RX1) (T := TX1) (N := 9) (n := 9) hq q_in1 (hts (.instantiable RX1 9) (List.mem_of_getElem? (i := 270) (by decide +kernel)))
  obtain ⟨c2, i2, hk2⟩ := u_known (C := RX2) (T := TX2) (N := 15) (n := 15) hq q_in2 (hts (.instantiable RX2 15) (List.mem_of_getElem? (i := 200) (by decide +kernel)))
  obtain ⟨c3, i3, hk3⟩ := u_known (C := RX3) (T := TX3) (N := 5) (n := 5) hq q_in3 (hts (.instantiable RX3 5) (List.mem_of_getElem? (i := 141) (by decide +kernel)))
  obtain ⟨c4, i4, hk4⟩ := u_known (C := RX4) (T := TX4) (N := 10) (n := 10) hq q_in4 (hts (.instantiable RX4 10) (List.mem_of_getElem? (i := 391) (by decide +kernel)))
  obtain ⟨c5, i5, hk5⟩ := u_known (C := RX5) (T := TX5) (N := 9) (n := 9) hq q_in5 (hts (.instantiable RX5 9) (List.mem_of_getElem? (i := 485) (by decide +kernel)))
  obtain ⟨c6, i6, hk6⟩ := u_known (C := RX6) (T := TX6) (N := 9) (n := 9) hq q_in6 (hts (.instantiable RX6 9) (List.mem_of_getElem? (i := 355) (by decide +kernel)))
  obtain ⟨c7, i7, hk7⟩ := u_known (C := RX7) (T := TX7) (N := 6) (n := 6) hq q_in7 (hts (.instantiable RX7 6) (List.mem_of_getElem? (i := 315) (by decide +kernel)))
  obtain ⟨c8, i8, hk8⟩ := u_known (C := RX8) (T := TX8) (N := 5) (n := 5) hq q_in8 (hts (.instantiable RX8 5) (List.mem_of_getElem? (i := 171) (by decide +kernel)))
  obtain ⟨c9, i9, hk9⟩ := u_known (C := RX9) (T := TX9) (N := 14) (n := 14) hq q_in9 (hts (.instantiable RX9 14) (List.mem_of_getElem? (i := 135) (by decide +kernel)))
  obtain ⟨c10, i10, hk10⟩ := u_known (C := RX10) (T := TX10) (N := 1) (n := 1) hq q_in10 (hts (.instantiable RX10 1) (List.mem_of_getElem? (i := 344) (by decide +kernel)))
  obtain ⟨c11, i11, hk11⟩ := u_known (C := RX11) (T := TX11) (N := 9) (n := 9) hq q_in11 (hts (.instantiable RX11 9) (List.mem_of_getElem? (i := 127) (by decide +kernel)))
  obtain ⟨c12, i12, hk12⟩ := u_known (C := RX12) (T := TX12) (N := 42) (n := 42) hq q_in12 (hts (.instantiable RX12 42) (List.mem_of_getElem? (i := 1488) (by decide +kernel)))
  obtain ⟨cI, kI, pI, j1, j2, j3⟩ := Cond.arrayClass_spec (hts (.arrayClass .int) (List.mem_of_getElem? (i := 169) (by decide +kernel)))
  have hAO : (Cond.arrayOver (.array .int)).before #[] s = true := by
    have h := (hts (.arrayOver (.array .int)) (List.mem_of_getElem? (i := 321) (by decide +kernel)))
    unfold Cond.before Cond.holds at h ⊢
    simp only [Cond.value] at h ⊢
    exact h
  obtain ⟨pA, cA, kA, m1, m2, m3, m4, m5⟩ := arrayOverA_spec hAO
  obtain ⟨a1, e1, l1, x1⟩ := q_Xof (f := q_LEAST) (N := 6) (by decide) (hs _ q_sLEAST.1) (hs _ q_sLEAST.2.1) (fun j hj => hs _ (q_sLEAST.2.2 j hj))
  have z1 := va_Zof (hts (.laysStatic "TokenValley$Men" "LEAST_V" "[I") (List.mem_of_getElem? (i := 632) (by decide +kernel))) (hts (.initialized "TokenValley$Men") (List.mem_of_getElem? (i := 109) (by decide +kernel))) e1 hA
  obtain ⟨a2, e2, l2, x2⟩ := q_Xof (f := q_MOST) (N := 6) (by decide) (hs _ q_sMOST.1) (hs _ q_sMOST.2.1) (fun j hj => hs _ (q_sMOST.2.2 j hj))
  have z2 := va_Zof (hts (.laysStatic "TokenValley$Men" "MOST_V" "[I") (List.mem_of_getElem? (i := 634) (by decide +kernel))) (hts (.initialized "TokenValley$Men") (List.mem_of_getElem? (i := 109) (by decide +kernel))) e2 hA
  obtain ⟨a3, e3, l3, x3⟩ := q_Xof (f := q_ABOVE) (N := 7) (by decide) (hs _ q_sABOVE.1) (hs _ q_sABOVE.2.1) (fun j hj => hs _ (q_sABOVE.2.2 j hj))
  have z3 := va_Zof (hts (.laysStatic "TokenValley$Dues" "ABOVE" "[I") (List.mem_of_getElem? (i := 812) (by decide +kernel))) (hts (.initialized "TokenValley$Dues") (List.mem_of_getElem? (i := 110) (by decide +kernel))) e3 hA
  obtain ⟨adK, adV, hSt, hRf⟩ := vk_Sof (N := 14) (tm := q_stm) (len := q_slen) (byt := q_sbyt) (by decide) (fun i hi => hs _ (q_n1 i hi)) (fun i hi => hs _ (q_n2 i hi)) (fun i hi => hs _ (q_n3 i hi)) (fun i hi => hs _ (q_n4 i hi)) (fun i hi j hj => hs _ (q_n5 i hi j hj)) (fun i j hi hj hn => by
    rcases Nat.lt_or_gt_of_ne hn with h | h
    · exact Or.inl (hs _ (q_n6 j hj i h))
    · exact Or.inr (hs _ (q_n6 i hi j h))) hA
  have zC := va_Zof (hts (.laysStatic "java/lang/String" "COMPACT_STRINGS" "Z") (List.mem_of_getElem? (i := 1066) (by decide +kernel))) (hts (.initialized "java/lang/String") (List.mem_of_getElem? (i := 120) (by decide +kernel))) (va_eqi (hs _ q_sCS.1)) hA
  obtain ⟨vF, eF, rF⟩ := Cond.isRef_spec (hs _ q_sCS.2)
  have zF := va_Zof (hts (.laysStatic "jdk/internal/util/Preconditions" "SIOOBE_FORMATTER" "Ljava/util/function/BiFunction;") (List.mem_of_getElem? (i := 1082) (by decide +kernel))) (hts (.initialized "jdk/internal/util/Preconditions") (List.mem_of_getElem? (i := 122) (by decide +kernel))) eF hA
  obtain ⟨fm, zF⟩ : ∃ fm : Nat, va_Z "jdk/internal/util/Preconditions" "SIOOBE_FORMATTER" "Ljava/util/function/BiFunction;" .null (fun q : Nat => s.heap.size ≤ q) s s.heap ∨ va_Z "jdk/internal/util/Preconditions" "SIOOBE_FORMATTER" "Ljava/util/function/BiFunction;" (.ref fm) (fun q : Nat => s.heap.size ≤ q) s s.heap := by
    cases vF with
    | null => exact ⟨0, Or.inl zF⟩
    | ref t => exact ⟨t, Or.inr zF⟩
    | _ => first | (cases rF; done) | (simp [Value.isRef] at rF; done)
  refine ⟨(q_old b a1 a2 a3 fm adK adV, s.heap.size, (q_cC c0 c1 c2 c3 c4 c5 c6 c7 c8 c9 c10 c11 c12, q_cS i0 i1 i2 i3 i4 i5 i6 i7 i8 i9 i10 i11 i12), (cI, cA), q_ol0 L, q_ov0 xs), rfl, rfl, ⟨⟨rfl, rfl⟩, ⟨rfl, rfl⟩, rfl, rfl⟩, ⟨rfl, rfl⟩, ⟨Nat.le_refl _, fun k hk => ?_, ⟨z1, z2, z3⟩, ?_, hAO, q_Scongr hSt (fun i hi => q_old_K (b := b) (a1 := a1) (a2 := a2) (a3 := a3) (fm := fm) (adK := adK) (adV := adV) hi) (fun i hi => q_old_V (b := b) (a1 := a1) (a2 := a2) (a3 := a3) (fm := fm) (adK := adK) (adV := adV) hi), ?_, zC, zF⟩, fun k q hk => ?_, fun k q hk => ?_⟩
  · match k, hk with
    | 0, _ => exact ⟨hbl, hX⟩
    | 1, _ => exact ⟨l1, x1⟩
    | 2, _ => exact ⟨l2, x2⟩
    | 3, _ => exact ⟨l3, x3⟩
    | k + 4, hk => exact absurd hk (by omega)
  · intro w hw
    simp only [q_nest, List.mem_cons, List.not_mem_nil, or_false] at hw
    rcases hw with rfl | rfl | rfl | rfl | rfl | rfl | rfl
    · exact va_Nw.of rfl (hts (.methodLinkNest RX9 20 yX8_init RX11) (List.mem_of_getElem? (i := 172) (by decide +kernel)))
    · exact va_Nw.of rfl (hts (.methodLinkNest RX9 34 yX1_init RX11) (List.mem_of_getElem? (i := 271) (by decide +kernel)))
    · exact va_Nw.of rfl (hts (.methodLinkNest RX9 41 yX7_init RX11) (List.mem_of_getElem? (i := 316) (by decide +kernel)))
    · exact va_Nw.of rfl (hts (.methodLinkNest RX9 48 yX10_init RX11) (List.mem_of_getElem? (i := 345) (by decide +kernel)))
    · exact va_Nw.of rfl (hts (.methodLinkNest RX9 55 yX6_init RX11) (List.mem_of_getElem? (i := 356) (by decide +kernel)))
    · exact va_Nw.of rfl (hts (.methodLinkNest RX9 62 yX4_init RX11) (List.mem_of_getElem? (i := 392) (by decide +kernel)))
    · exact va_Nw.of rfl (hts (.methodLinkNest RX11 24 yX5_init RX11) (List.mem_of_getElem? (i := 486) (by decide +kernel)))
  · intro i q hq
    match i, hq with
    | 0, hq => obtain rfl := Option.some.inj (show some (80, "wage") = some q from hq); exact vk_R.of (hts (.stringRef RX5 80 "wage") (List.mem_of_getElem? (i := 1046) (by decide +kernel))) (hRf 0 (by decide))
    | 1, hq => obtain rfl := Option.some.inj (show some (82, "stop") = some q from hq); exact vk_R.of (hts (.stringRef RX5 82 "stop") (List.mem_of_getElem? (i := 1047) (by decide +kernel))) (hRf 1 (by decide))
    | 2, hq => obtain rfl := Option.some.inj (show some (84, "due") = some q from hq); exact vk_R.of (hts (.stringRef RX5 84 "due") (List.mem_of_getElem? (i := 1048) (by decide +kernel))) (hRf 2 (by decide))
    | 3, hq => obtain rfl := Option.some.inj (show some (86, "coin") = some q from hq); exact vk_R.of (hts (.stringRef RX5 86 "coin") (List.mem_of_getElem? (i := 1049) (by decide +kernel))) (hRf 3 (by decide))
    | 4, hq => obtain rfl := Option.some.inj (show some (88, "fine") = some q from hq); exact vk_R.of (hts (.stringRef RX5 88 "fine") (List.mem_of_getElem? (i := 1050) (by decide +kernel))) (hRf 4 (by decide))
    | 5, hq => obtain rfl := Option.some.inj (show some (90, "keep") = some q from hq); exact vk_R.of (hts (.stringRef RX5 90 "keep") (List.mem_of_getElem? (i := 1051) (by decide +kernel))) (hRf 5 (by decide))
    | 6, hq => obtain rfl := Option.some.inj (show some (92, "act") = some q from hq); exact vk_R.of (hts (.stringRef RX5 92 "act") (List.mem_of_getElem? (i := 1052) (by decide +kernel))) (hRf 6 (by decide))
    | 7, hq => obtain rfl := Option.some.inj (show some (94, "ts") = some q from hq); exact vk_R.of (hts (.stringRef RX5 94 "ts") (List.mem_of_getElem? (i := 1132) (by decide +kernel))) (hRf 7 (by decide))
    | 8, hq => obtain rfl := Option.some.inj (show some (96, "e") = some q from hq); exact vk_R.of (hts (.stringRef RX5 96 "e") (List.mem_of_getElem? (i := 1133) (by decide +kernel))) (hRf 8 (by decide))
    | 9, hq => obtain rfl := Option.some.inj (show some (98, "w") = some q from hq); exact vk_R.of (hts (.stringRef RX5 98 "w") (List.mem_of_getElem? (i := 1134) (by decide +kernel))) (hRf 9 (by decide))
    | 10, hq => obtain rfl := Option.some.inj (show some (100, "lw") = some q from hq); exact vk_R.of (hts (.stringRef RX5 100 "lw") (List.mem_of_getElem? (i := 1135) (by decide +kernel))) (hRf 10 (by decide))
    | 11, hq => obtain rfl := Option.some.inj (show some (102, "ab") = some q from hq); exact vk_R.of (hts (.stringRef RX5 102 "ab") (List.mem_of_getElem? (i := 1136) (by decide +kernel))) (hRf 11 (by decide))
    | 12, hq => obtain rfl := Option.some.inj (show some (104, "bd") = some q from hq); exact vk_R.of (hts (.stringRef RX5 104 "bd") (List.mem_of_getElem? (i := 1137) (by decide +kernel))) (hRf 12 (by decide))
    | 13, hq => obtain rfl := Option.some.inj (show some (106, "mpt") = some q from hq); exact vk_R.of (hts (.stringRef RX5 106 "mpt") (List.mem_of_getElem? (i := 1138) (by decide +kernel))) (hRf 13 (by decide))
    | i + 14, hq => cases (show (none : Option (Nat × String)) = some q from hq)
  · match k, hk with
    | 0, hk => obtain rfl := Option.some.inj (show some (RX0, TX0, 3) = some q from hk); exact hk0
    | 1, hk => obtain rfl := Option.some.inj (show some (RX1, TX1, 9) = some q from hk); exact hk1
    | 2, hk => obtain rfl := Option.some.inj (show some (RX2, TX2, 15) = some q from hk); exact hk2
    | 3, hk => obtain rfl := Option.some.inj (show some (RX3, TX3, 5) = some q from hk); exact hk3
    | 4, hk => obtain rfl := Option.some.inj (show some (RX4, TX4, 10) = some q from hk); exact hk4
    | 5, hk => obtain rfl := Option.some.inj (show some (RX5, TX5, 9) = some q from hk); exact hk5
    | 6, hk => obtain rfl := Option.some.inj (show some (RX6, TX6, 9) = some q from hk); exact hk6
    | 7, hk => obtain rfl := Option.some.inj (show some (RX7, TX7, 6) = some q from hk); exact hk7
    | 8, hk => obtain rfl := Option.some.inj (show some (RX8, TX8, 5) = some q from hk); exact hk8
    | 9, hk => obtain rfl := Option.some.inj (show some (RX9, TX9, 14) = some q from hk); exact hk9
    | 10, hk => obtain rfl := Option.some.inj (show some (RX10, TX10, 1) = some q from hk); exact hk10
    | 11, hk => obtain rfl := Option.some.inj (show some (RX11, TX11, 9) = some q from hk); exact hk11
    | 12, hk => obtain rfl := Option.some.inj (show some (RX12, TX12, 42) = some q from hk); exact hk12
    | k + 13, hk => cases (show (none : Option vw_C) = some q from hk)
  · match k, hk with
    | 0, hk => obtain rfl := Option.some.inj (show some (cI, FieldType.int) = some q from hk); exact ⟨fun n z => ⟨fun k h => (by cases h), kI, j2, pI, j3⟩, j1⟩
    | 1, hk => obtain rfl := Option.some.inj (show some (cA, FieldType.array .int) = some q from hk); exact ⟨fun n z => ⟨fun k h => (by cases h), kA, m3, pA, m4⟩, m5⟩
    | k + 2, hk => cases (show (none : Option (ClassId × FieldType)) = some q from hk)
theorem dL_law_0 : q_at cL_law 0 (.new 7) 3 3 := ⟨by decide +kernel, rfl⟩
theorem dL_law_3 : q_at cL_law 3 (.dup) 1 4 := ⟨by decide +kernel, rfl⟩
theorem dL_law_4 : q_at cL_law 4 (.invokespecial 9) 3 7 := ⟨by decide +kernel, rfl⟩
theorem dL_law_7 : q_at cL_law 7 (.astore_n 1) 1 8 := ⟨by decide +kernel, rfl⟩
theorem dL_law_8 : q_at cL_law 8 (.new 10) 3 11 := ⟨by decide +kernel, rfl⟩
theorem dL_law_11 : q_at cL_law 11 (.dup) 1 12 := ⟨by decide +kernel, rfl⟩
theorem dL_law_12 : q_at cL_law 12 (.invokespecial 12) 3 15 := ⟨by decide +kernel, rfl⟩
theorem dL_law_15 : q_at cL_law 15 (.astore_n 2) 1 16 := ⟨by decide +kernel, rfl⟩
theorem dL_law_16 : q_at cL_law 16 (.iconst 0) 1 17 := ⟨by decide +kernel, rfl⟩
theorem dL_law_17 : q_at cL_law 17 (.istore_n 3) 1 18 := ⟨by decide +kernel, rfl⟩
def q_i0 : qI := fun _ _ => 0
def q_x0 : qX := (fun _ _ => none, [])
/-- what level B owes: both objects are made, and the loop answers 1 -/
def q_good (L : Nat) (xs : Nat → Int32) : Prop := ∃ (J1 J2 J3 J4 : qI) (Y1 Y2 Y3 Y4 : qX) (n : Nat) (z : Int32 × qI × qX), q_nO 11 9 q_i0 q_x0 = some (64, J1, Y1) ∧ f_X11_init 64 Y1 J1 = some (J2, Y2) ∧ q_nO 12 42 J2 Y2 = some (269, J3, Y3) ∧ f_X12_init 269 Y3 J3 = some (J4, Y4) ∧ q_Lay Y4 ∧ q_kd Y4 64 = some (13, 9) ∧ q_kd Y4 269 = some (14, 42) ∧ n ≤ 5000 ∧ q_fix (fun _ _ _ => none) (b_L_law_18 L xs) n 0 Y4 J4 = some z ∧ z.1 = 1
theorem L_start {l : Launch} {Γ : qC} {g : qG} {z : Int32 × qI × qX} {L : Nat} {xs : Nat → Int32} {nm : String} (hΓ : q_gm Γ) (hg : q_Ok l Γ RL cL_law 4 room_1 nm (some .boolean) g) (hr : q_Rt cL_law (some .boolean) room_1 (some (.int z.1), z.2.1, z.2.2) g) (hS : q_ol Γ 0 = L ∧ q_ov Γ 0 = xs) {J1 J2 J3 J4 : qI} {Y1 Y2 Y3 Y4 : qX} {n : Nat}
    (e1 : q_nO 11 9 q_i0 q_x0 = some (64, J1, Y1)) (e2 : f_X11_init 64 Y1 J1 = some (J2, Y2)) (e3 : q_nO 12 42 J2 Y2 = some (269, J3, Y3)) (e4 : f_X12_init 269 Y3 J3 = some (J4, Y4)) (hX : q_Lay Y4) (k1 : q_kd Y4 64 = some (13, 9)) (k2 : q_kd Y4 269 = some (14, 42)) (hn : n ≤ 5000) (h : q_fix (fun _ _ _ => none) (b_L_law_18 L xs) n 0 Y4 J4 = some z) : g 0 0 0 [(0, .ref 0)] [] q_i0 q_x0 := by
  refine r_nOD hg dL_law_0 (ci := 11) rfl nw_L_7 df_11 (Nat.le_of_ble_eq_true rfl) (Nat.le_of_ble_eq_true rfl) e1 ?_
  refine r_dup hg dL_law_3 rfl ?_
  refine r_callI (av := []) hg dL_law_4 mt_X11_init ml_L_9 mi_X11_init (s_X11_init hΓ (q_nO_kd e1).1 e2) rfl ⟨Nat.le_of_ble_eq_true rfl, Nat.le_of_ble_eq_true rfl⟩ ⟨Nat.le_of_ble_eq_true rfl, Nat.le_of_ble_eq_true rfl⟩ (Nat.le_of_ble_eq_true rfl) ?_
  refine r_astore_n hg dL_law_7 rfl (by decide) rfl ?_
  refine r_nOD hg dL_law_8 (ci := 12) rfl nw_L_10 df_12 (Nat.le_of_ble_eq_true rfl) (Nat.le_of_ble_eq_true rfl) e3 ?_
  refine r_dup hg dL_law_11 rfl ?_
  refine r_callI (av := []) hg dL_law_12 mt_X12_init ml_L_12 mi_X12_init (s_X12_init hΓ (q_nO_kd e3).1 e4) rfl ⟨Nat.le_of_ble_eq_true rfl, Nat.le_of_ble_eq_true rfl⟩ ⟨Nat.le_of_ble_eq_true rfl, Nat.le_of_ble_eq_true rfl⟩ (Nat.le_of_ble_eq_true rfl) ?_
  refine r_astore_n hg dL_law_15 rfl (by decide) rfl ?_
  refine r_iconst hg dL_law_16 (v := 0) rfl ?_
  refine r_istore_n hg dL_law_17 rfl (by decide) rfl ?_
  refine r_sub hg [3, 2, 1, 0] (L' := [(0, .ref 0), (1, .ref 64), (2, .ref 269), (3, .int 0)]) rfl ?_
  exact pl_L_law hΓ hg hr hS n _ _ (by show 0 + 1 + 204 + 1 + 17 + n ≤ 600000; omega) (by show 0 + 9 + 4438 + 42 + 11530 + 96 * n ≤ 7302250; omega) 0 Y4 J4 hX k1 k2 h
def R_law : String := "TokenValleyLaw"
def lw_P (b : Addr) (xs : List Int32) (args : Array Value) (s : State) : Prop := args = #[.ref b] ∧ s.IntsAt b xs ∧ xs.length ≤ 3072 ∧ (Jvm.Cond.and given_1 narrow_1).before args s = true
def lw_Q (_ : Array Value) (s : State) (o : Outcome) (t : State) : Prop := o = .returned (some (.int 1)) ∧ Framed s o t [] 600000 7302250
def lw_Z (below : List Frame) (a : Array Value) (s : State) : State → Prop := fun t => ∃ o, t.status = .running ∧ Ended t below o ∧ lw_Q a s o t
/-- the law's own end, with 1 on the stack, nothing written that was there before, its room as the claim has it -/
theorem lw_ret {p : Program} {l : Launch} {e : Env} {s : State} {m : MethodId} {below : List Frame} {meth : Method} {c : Code} {b : Nat} (hx : p.tables.exec = Jvm.exec) (hb : c.code = code) (hr : meth.sig.returnType = ret) (hlocks : meth.locks = false) {pc : Nat} {H : Heap} {ls : Array Slot} (hdg : decode code pc = .ok (.ireturn, 1)) : W p l e room_1 s m #[Value.ref b] below meth c H [] 600000 7302250 (lw_Z below #[Value.ref b] s) (F0 m pc ls [.int 1]) := by
  intro T hT X
  obtain ⟨fs, hret, hrun, hended, hW, hframe⟩ := X.leave (v := some (.int 1)) (hlocks := hlocks) (fun h => by rw [hr] at h; cases h)
  have hmeth' : T.vm.method? m = some meth := X.method'
  refine ⟨T.setFrames fs, ?_, .returned (some (.int 1)), hrun, hended, rfl, ⟨_, rfl⟩, hW, hframe⟩
  jvm_step X.here [X.here.top, hx, hb, hdg, hmeth', hr, ret, narrow_b1]
  (try refine ⟨rfl, ?_⟩); (try refine ⟨rfl, ?_⟩)
  first | (intro acts; rw [hret _ acts rfl rfl rfl]) | rw [hret _ _ rfl rfl rfl]
  exact Steps.refl _
/-- what holds at the law's entry: the machine, the code, the tables' words (any of lw_tbl by 'hts w (by decide +kernel)'), the script of L ints xs at the cell b, what the Statement gives of the start (any of its parts by flat_of_before) -/
def lw_At (p : Program) (s : State) (m : MethodId) (meth : Method) (c : Code) (b L : Nat) (xs : Nat → Int32) : Prop :=
  p.tables.exec = Jvm.exec ∧ c.code = code ∧ meth.sig.returnType = ret ∧ c.maxLocals = 4 ∧ s.vm.findClass R_law = some m.cls ∧ (∀ w ∈ lw_tbl, w.before #[Value.ref b] s = true) ∧ va_X b L xs s s.heap ∧ b < s.heap.size ∧ meth.locks = false ∧ (Jvm.Cond.and given_1 narrow_1).before #[Value.ref b] s = true
theorem whole_of (HB : ∀ (L : Nat) (xs : Nat → Int32), L ≤ 3072 → q_good L xs) {p : Program} {e : Env} {s : State} {m : MethodId} {below : List Frame} {meth : Method} {c : Code} (l : Launch) {b L : Nat} {xs : Nat → Int32} (hL : L ≤ 3072) (C0 : lw_At p s m meth c b L xs) : W p l e room_1 s m #[Value.ref b] below meth c s.heap [] 0 0 (lw_Z below #[Value.ref b] s) (entryFrame m ([Value.ref b] : List Value).toArray 4) := by
  obtain ⟨hx, hb, hr, hml, hown, hts, hX, hbl, hlocks, hgv⟩ := id C0
  obtain ⟨Γ, h0, hsz, hΓ, hS, hO, hK⟩ := q_start hts hX hbl hgv
  obtain ⟨J1, J2, J3, J4, Y1, Y2, Y3, Y4, n, z, e1, e2, e3, e4, hY, k1, k2, hn, h, hz1⟩ := HB L xs hL
  have hq : ∀ w ∈ q_tbl, w.before #[Value.ref b] s = true := fun w h => hts w (List.mem_filter.mp h).1
  have hS0 : va_S (q_A Γ) s.heap s.heap [] := va_S.rf
  have hl := lv_entry ([.ref b]) (n := 4) (Nat.le_of_ble_eq_true rfl)
  rw [lg_entry_eq]
  generalize (lg_sl ([.ref b]) ++ List.replicate (4 - (lg_sl ([.ref b])).length) Slot.unset).toArray = ls at hl ⊢
  have hl : lv_has ls 4 ([(0, Value.ref 0)].map (fun q => (q.1, q_v Γ q.2))) := by
    show lv_has ls 4 [(0, .ref (Γ.1 0))]
    rw [h0]; exact hl
  have hP : va_P (q_D Γ) vwCl (q_w Γ q_i0 q_x0) s.heap := fun k q h => by cases (show (none : Option (Nat × va_E)) = some q from h)
  refine L_start (g := q_G p l e room_1 s m #[Value.ref b] below meth c Γ 4 (lw_Z below #[Value.ref b] s)) (nm := meth.name) hΓ ⟨p, e, s, m, _, below, meth, c, _, ⟨hx, hb, hr, hml, hown, hq, hK, hO, hlocks, rfl⟩, rfl⟩ ⟨?_, ?_, ?_⟩ hS e1 e2 e3 e4 hY k1 k2 hn h s.heap [] ls hP hsz.symm hS0 hl
  · intro cells slots pc L v h1 h2 hd _ he H locs ls hP hz hS hL
    have hv : v = 1 := by
      have := Value.int.inj (Option.some.inj he)
      rw [← this]; exact hz1
    subst hv
    refine va_forget (fun q hq => ?_) (W.widen h1 h2 (lw_ret hx hb hr hlocks hd))
    have := hS.2.2 q hq
    rw [← hsz]; exact this
  · intro cells slots pc L r h1 h2 hd ht he
    obtain ⟨ty, ht, hn⟩ := ht
    cases ht
    rcases hn with ⟨_, h⟩ | ⟨_, h⟩ <;> cases h
  · intro cells slots pc L h1 h2 hd ht he
    cases ht
