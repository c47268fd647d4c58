/-! LEVEL B: plan, planned: the search's end -/
theorem pn {X : qX} {I0 J0 : qI} (h0 : RV X 65 I0 (J0 270) 0) : ∀ r d1 d2 many had w Fu inc I J, many + r = cn (J0 270) 6 → r < d1 → r < d2 → w ≤ 999 → Fu ≤ 20000 → inc ≤ 99 + 99 * many → PL I0 J0 (cn (J0 270) 6) many I J → ∃ v I' J', G_X4_putNext d1 117 had (nI many) (nI w) (nI Fu) (nI inc) I = some (v, I') ∧ G_X12_seek d2 269 (nI many) had (nI w) (nI Fu) (nI inc) J = some J' ∧ PE I0 J0 (cn (J0 270) 6) many v I' J' := by
  obtain ⟨k6, c8⟩ := h0.k6
  intro r
  induction r with
  | zero =>
    intro d1 d2 many had w Fu inc I J h1 hd1 hd2 hw hF hi h
    obtain ⟨d1, rfl⟩ : ∃ z, d1 = z + 1 := ⟨d1 - 1, by omega⟩
    obtain ⟨d2, rfl⟩ : ∃ z, d2 = z + 1 := ⟨d2 - 1, by omega⟩
    have hR := h0.sx (by decide) h.1
    have hJ : J 270 = J0 270 := h.2.1.1 270 (by decide) (by decide)
    have em : many = cn (J0 270) 6 := by omega
    subst em
    have hC : I 117 9 = nI (cn (J0 270) 6) := (hR.sc6 (a := 117) rfl).trans k6
    show ∃ v I' J', B_X4_putNext (G_X4_putNext d1) 117 had _ _ _ _ I = some (v, I') ∧ B_X12_seek (G_X12_seek d2) 269 _ had _ _ _ J = some J' ∧ _
    unfold B_X4_putNext B_X12_seek b_X4_putNext_23
    rw [hC, if_neg (fun z => Int32.lt_irrefl z), u_rd (show 6 < 3580 by decide) (by decide), u_s1, show J (269 + 1) = J0 270 from hJ, k6, if_pos rfl, h.2.2.1]
    obtain ⟨I', J', q1, q2, q3⟩ := kp c8 hw h hC had (nI Fu) (nI inc) (G_X12_seek d2)
    rw [q1, u_s1, q2]
    by_cases z : J 269 35 < 0
    · rw [if_pos z, if_pos z]
      exact ⟨_, _, _, rfl, rfl, Or.inl ⟨rfl, q3⟩⟩
    rw [if_neg z, if_neg z]
    by_cases y : J 269 35 ≤ nI w
    · rw [if_pos y, if_pos y]
      exact ⟨_, _, _, rfl, rfl, Or.inl ⟨rfl, h⟩⟩
    · rw [if_neg y, if_neg y]
      exact ⟨_, _, _, rfl, rfl, Or.inl ⟨rfl, q3⟩⟩
  | succ r IH =>
    intro d1 d2 many had w Fu inc I J h1 hd1 hd2 hw hF hi h
    obtain ⟨d1, rfl⟩ : ∃ z, d1 = z + 1 := ⟨d1 - 1, by omega⟩
    obtain ⟨d2, rfl⟩ : ∃ z, d2 = z + 1 := ⟨d2 - 1, by omega⟩
    have hm8 : many < 8 := by omega
    have inner : ∀ s f g i I J, i + s = cn (J0 270) 6 → s < f → s < g → PL I0 J0 (cn (J0 270) 6) many I J → ∃ v I' J', q_fix (fun _ _ => none) (b_X4_putNext_33 117 had (nI many) (nI w) (nI Fu) (nI inc) (G_X4_putNext d1)) f (nI i) I = some (v, I') ∧ q_fix (fun _ _ => none) (b_X12_seek_78 269 (nI many) had (nI w) (nI Fu) (nI inc) (G_X12_seek d2)) g (nI i) J = some J' ∧ PE I0 J0 (cn (J0 270) 6) many v I' J' := by
      intro s
      induction s with
      | zero =>
        intro f g i I J e1 e2 e3 h
        obtain ⟨f, rfl⟩ : ∃ z, f = z + 1 := ⟨f - 1, by omega⟩
        obtain ⟨g, rfl⟩ : ∃ z, g = z + 1 := ⟨g - 1, by omega⟩
        have ei : i = cn (J0 270) 6 := by omega
        subst ei
        have hR := h0.sx (by decide) h.1
        have hJ : J 270 = J0 270 := h.2.1.1 270 (by decide) (by decide)
        have hC : I 117 9 = nI (cn (J0 270) 6) := (hR.sc6 (a := 117) rfl).trans k6
        refine ⟨nI 1, I, J, ?_, ?_, Or.inl ⟨rfl, h⟩⟩
        · show b_X4_putNext_33 117 had (nI many) (nI w) (nI Fu) (nI inc) (G_X4_putNext d1) _ _ I = _
          unfold b_X4_putNext_33
          rw [hC, if_pos (Int32.le_refl _)]
        · show b_X12_seek_78 269 (nI many) had (nI w) (nI Fu) (nI inc) (G_X12_seek d2) _ _ J = _
          unfold b_X12_seek_78
          rw [u_rd (show 6 < 3580 by decide) (by decide), u_s1, show J (269 + 1) = J0 270 from hJ, k6, if_pos (Int32.le_refl _)]
      | succ s ih =>
        intro f g i I J e1 e2 e3 h
        obtain ⟨f, rfl⟩ : ∃ z, f = z + 1 := ⟨f - 1, by omega⟩
        obtain ⟨g, rfl⟩ : ∃ z, g = z + 1 := ⟨g - 1, by omega⟩
        have ih' := fun I J => ih f g (i + 1) I J (by omega) (by omega) (by omega)
        have hi8 : i < 8 := by omega
        have hR := h0.sx (by decide) h.1
        have hJ : J 270 = J0 270 := h.2.1.1 270 (by decide) (by decide)
        have hC : I 117 9 = nI (cn (J0 270) 6) := (hR.sc6 (a := 117) rfl).trans k6
        obtain ⟨a1, -, a2⟩ := h0.r_c0 (c := i) hi8
        obtain ⟨b1, -, b2⟩ := h0.r_c1 (c := i) hi8
        obtain ⟨q1, q2, q3, ⟨T, t1, t2, t3⟩, q5, q6, q7⟩ := h
        have spent : ∀ J', J' 270 = J0 270 → J' 269 37 = nI 1 → q_fix (fun _ _ => none) (b_X12_seek_78 269 (nI many) had (nI w) (nI Fu) (nI inc) (G_X12_seek d2)) g (nI (i + 1)) J' = some J' := by
          intro J' z1 z2
          obtain ⟨g, rfl⟩ : ∃ z, g = z + 1 := ⟨g - 1, by omega⟩
          exact seek_sp (by rw [z1]; exact k6) z2 _ _ _ _ _ _ g _
        show ∃ v I' J', b_X4_putNext_33 117 had (nI many) (nI w) (nI Fu) (nI inc) (G_X4_putNext d1) (q_fix (fun _ _ => none) (b_X4_putNext_33 117 had (nI many) (nI w) (nI Fu) (nI inc) (G_X4_putNext d1)) f) (nI i) I = some (v, I') ∧ b_X12_seek_78 269 (nI many) had (nI w) (nI Fu) (nI inc) (G_X12_seek d2) (q_fix (fun _ _ => none) (b_X12_seek_78 269 (nI many) had (nI w) (nI Fu) (nI inc) (G_X12_seek d2)) g) (nI i) J = some J' ∧ _
        generalize q_fix (fun _ _ => none) (b_X4_putNext_33 117 had (nI many) (nI w) (nI Fu) (nI inc) (G_X4_putNext d1)) f = KC at *
        generalize q_fix (fun _ _ => none) (b_X12_seek_78 269 (nI many) had (nI w) (nI Fu) (nI inc) (G_X12_seek d2)) g = KM at *
        unfold b_X4_putNext_33 b_X12_seek_78
        rw [hC, if_neg (nI_ge (by omega) (by omega)), u_rd (show 6 < 3580 by decide) (by decide), u_s1, show J (269 + 1) = J0 270 from hJ, k6, u_s1, if_neg (nI_ge (by omega) (by omega)), q6, if_pos nI_0]
        have skip : ∃ v I' J', b_X4_putNext_187 117 had (nI many) (nI w) (nI Fu) (nI inc) (G_X4_putNext d1) KC (nI i) I = some (v, I') ∧ b_X12_seek_275 269 (nI many) had (nI w) (nI Fu) (nI inc) (G_X12_seek d2) KM (nI i) J = some J' ∧ PE I0 J0 (cn (J0 270) 6) many v I' J' := by
          unfold b_X4_putNext_187 b_X12_seek_275
          rw [nI_add]
          exact ih' I J ⟨q1, q2, q3, ⟨T, t1, t2, t3⟩, q5, q6, q7⟩
        rcases and1 (had >>> (nI i &&& 31)) with z | z
        rotate_left
        · rw [z, if_neg (show ¬ nI 1 = (0 : Int32) by decide +kernel), if_pos rfl]; exact skip
        rw [z, if_pos rfl, if_neg (show ¬ (0 : Int32) = nI 1 by decide +kernel), u_rd hi8 (by decide), u_s1, hR.c2 (a := 117 + 3) rfl hi8, u_mul, nI_add, nI_add, nI_add, u_rd (show 3350 + 3 * i + 2 < 3580 by omega) (by decide), u_s1, show J (269 + 1) = J0 270 from hJ]
        by_cases y : J0 270 (3350 + 3 * i + 2) &&& (had ^^^ -1) = 0
        rotate_left
        · rw [if_neg y, if_neg y]; exact skip
        rw [if_pos y, if_pos y, t2, t3]
        by_cases T0 : T = 0
        · subst T0
          rw [if_neg (show ¬ (0 : Int32) < nI 0 by decide +kernel), if_pos nI_0]
          unfold b_X12_seek_149
          rw [show q_bz (nI 1) = some (nI 1) from by unfold q_bz; rw [if_pos (Or.inr u_n1)], u_s1, u_s1, u_up_same, if_neg (by decide +kernel)]
          exact ⟨_, _, _, rfl, rfl, Or.inr ⟨rfl, q1, q2.fl (by decide), u_up_same⟩⟩
        rw [if_pos (show (0 : Int32) < nI T by rw [← nI_0]; exact nI_lt (by omega) (by omega)), if_neg (nI_ne0 (by omega) (by omega)), u_sub (by omega)]
        unfold b_X12_seek_149
        rw [show q_bz (nI 0) = some (nI 0) from by unfold q_bz; rw [if_pos (Or.inl nI_0)], u_s1, u_s1, u_up_same, if_pos nI_0, u_s1, u_up_j (show (36 : Nat) ≠ 37 by decide), t3, u_sub (by omega)]
        -- a try less
        generalize hI8 : q_up I 117 8 (nI (T - 1)) = I8
        generalize hJ8 : q_up (q_up J 269 37 (nI 0)) 269 36 (nI (T - 1)) = J8
        have P8 : PL I0 J0 (cn (J0 270) 6) many I8 J8 := by
          subst hI8 hJ8
          refine ⟨q1.up (o := 52) rfl (by decide) (by unfold scO; omega), (q2.fl (by decide)).fl (by decide), ?_, ⟨T - 1, by omega, u_up_same, u_up_same⟩, ?_, ?_, fun k hk => ?_⟩
          · rw [u_up_j (by decide), u_up_j (by decide), u_up_j (by decide)]; exact q3
          · rw [u_up_j (by decide), u_up_j (by decide)]
            refine q5.imp id (fun q => ⟨q.1, fun k hk => ?_⟩)
            rw [u_up_a (show (123 : Nat) ≠ 117 by decide), u_up_a (show (124 : Nat) ≠ 117 by decide), u_up_a (show (283 : Nat) ≠ 269 by decide), u_up_a (show (283 : Nat) ≠ 269 by decide), u_up_a (show (284 : Nat) ≠ 269 by decide), u_up_a (show (284 : Nat) ≠ 269 by decide)]; exact q.2 k hk
          · rw [u_up_j (by decide), u_up_same]
          · rw [u_up_a (show (121 : Nat) ≠ 117 by decide), u_up_a (show (122 : Nat) ≠ 117 by decide), u_up_a (show (281 : Nat) ≠ 269 by decide), u_up_a (show (281 : Nat) ≠ 269 by decide), u_up_a (show (282 : Nat) ≠ 269 by decide), u_up_a (show (282 : Nat) ≠ 269 by decide)]; exact q7 k hk
        clear skip hI8 hJ8
        have hR8 := h0.sx (by decide) P8.1
        have hJ8 : J8 270 = J0 270 := P8.2.1.1 270 (by decide) (by decide)
        have skip8 : ∃ v I' J', b_X4_putNext_187 117 had (nI many) (nI w) (nI Fu) (nI inc) (G_X4_putNext d1) KC (nI i) I8 = some (v, I') ∧ b_X12_seek_275 269 (nI many) had (nI w) (nI Fu) (nI inc) (G_X12_seek d2) KM (nI i) J8 = some J' ∧ PE I0 J0 (cn (J0 270) 6) many v I' J' := by
          unfold b_X4_putNext_187 b_X12_seek_275
          rw [nI_add]
          exact ih' I8 J8 P8
        rw [u_rd hi8 (by decide), u_s1, hR8.c0 (a := 117 + 1) rfl hi8, a1, weeksC a2 hF (by omega), u_s1, nI_add, seek_w (J := J8) (c := i) (C := cn (J0 270) (3350 + 3 * i)) hi8 (by rw [hJ8]; exact a1) a2 (by omega) (G_X12_seek d2) KM (999 - w) q_fu w Fu (by omega) (by have := q_fu2; omega) hF]
        by_cases x : w + wt (cn (J0 270) (3350 + 3 * i)) Fu inc ≤ 999
        rotate_left
        · rw [if_neg x, if_neg (fun q => x ((nI_leI (by
              have : wt (cn (J0 270) (3350 + 3 * i)) Fu inc ≤ 3000 := by
                unfold wt
                split
                · omega
                · split
                  · omega
                  · exact Nat.le_trans (Nat.div_le_self _ _) (by omega)
              omega) (by decide)).mp q))]
          exact skip8
        rw [if_pos x, if_pos (nI_le x (by decide))]
        obtain ⟨en1, en2⟩ := wt_en (c := cn (J0 270) (3350 + 3 * i)) (F := Fu) (inc := inc) (by omega)
        have enF : Fu + wt (cn (J0 270) (3350 + 3 * i)) Fu inc * inc - cn (J0 270) (3350 + 3 * i) ≤ 20000 ∧ Fu + wt (cn (J0 270) (3350 + 3 * i)) Fu inc * inc < 2 ^ 31 := by
          by_cases zz : Fu < cn (J0 270) (3350 + 3 * i)
          · have := en2 zz; omega
          · have : wt (cn (J0 270) (3350 + 3 * i)) Fu inc = 0 := by unfold wt; rw [if_pos (by omega)]
            rw [this]; omega
        generalize wt (cn (J0 270) (3350 + 3 * i)) Fu inc = WT' at *
        unfold b_X12_seek_210
        rw [u_rd (show 3350 + 3 * i < 3580 by omega) (by decide), u_s1, show J8 (269 + 1) = J0 270 from hJ8, a1, if_neg (nI_nlt en1 (by omega)), u_wr hm8 (by decide), u_s1, u_wr hm8 (by decide), u_s1, u_wr hm8 (by decide), u_s1, u_wr hm8 (by decide), u_s1]
        generalize hI9 : q_up (q_up I8 (117 + 4) many (nI i)) (117 + 5) many (nI (w + WT')) = I9
        generalize hJ9 : q_up (q_up J8 (269 + 12) many (nI i)) (269 + 13) many (nI (w + WT')) = J9
        have P9 : PL I0 J0 (cn (J0 270) 6) (many + 1) I9 J9 := by
          obtain ⟨q1, q2, q3, ⟨T, t1, t2, t3⟩, q5, q6, q7⟩ := P8
          subst hI9 hJ9
          refine ⟨(q1.up (o := 56) rfl (by decide) (by unfold scO; omega)).up (o := 57) rfl (by decide) (by unfold scO; omega), (q2.up (by decide)).up (by decide), ?_, ⟨T, t1, ?_, ?_⟩, ?_, ?_, fun k hk => ?_⟩
          · rw [u_up_a (by decide), u_up_a (by decide), u_up_a (by decide), u_up_a (by decide)]; exact q3
          · rw [u_up_a (by decide), u_up_a (by decide)]; exact t2
          · rw [u_up_a (by decide), u_up_a (by decide)]; exact t3
          · rw [u_up_a (by decide), u_up_a (by decide)]
            refine q5.imp id (fun q => ⟨q.1, fun k hk => ?_⟩)
            rw [u_up_a (show (123 : Nat) ≠ 117 + 5 by decide), u_up_a (show (123 : Nat) ≠ 117 + 4 by decide), u_up_a (show (124 : Nat) ≠ 117 + 5 by decide), u_up_a (show (124 : Nat) ≠ 117 + 4 by decide), u_up_a (show (283 : Nat) ≠ 269 + 13 by decide), u_up_a (show (283 : Nat) ≠ 269 + 12 by decide), u_up_a (show (284 : Nat) ≠ 269 + 13 by decide), u_up_a (show (284 : Nat) ≠ 269 + 12 by decide)]; exact q.2 k hk
          · rw [u_up_a (by decide), u_up_a (by decide)]; exact q6
          · rw [u_up_a (show (121 : Nat) ≠ 117 + 5 by decide), u_up_a (show (281 : Nat) ≠ 269 + 13 by decide)]
            by_cases e : k = many
            · rw [e]
              exact ⟨u_up_same.trans (u_up_same (I := J8) (a := 281)).symm, u_up_same.trans (u_up_same (I := q_up J8 281 many (nI i)) (a := 282)).symm⟩
            · refine ⟨(u_up_j e).trans ((q7 k (by omega)).1.trans (u_up_j (I := J8) (a := 281) e).symm), (u_up_j e).trans (Eq.trans ?_ (u_up_j (I := q_up J8 281 many (nI i)) (a := 282) e).symm)⟩
              rw [u_up_a (show (117 + 5 : Nat) ≠ 117 + 4 by decide), u_up_a (show (282 : Nat) ≠ 281 by decide)]
              exact (q7 k (by omega)).2
        have hR9 := h0.sx (by decide) P9.1
        have hJ9' : J9 270 = J0 270 := P9.2.1.1 270 (by decide) (by decide)
        obtain ⟨v, I', J', z1, z2, z3⟩ := IH d1 d2 (many + 1) (had ||| (nI 1 <<< (nI i &&& 31))) (w + WT') (Fu + WT' * inc - cn (J0 270) (3350 + 3 * i)) (inc + cn (J0 270) (3350 + 3 * i + 1)) I9 J9 (by omega) (by omega) (by omega) x enF.1 (by omega) P9
        rw [u_rd hi8 (by decide), u_s1, hR9.c0 (a := 117 + 1) rfl hi8, a1, u_rd hi8 (by decide), u_s1, hR9.c1 (a := 117 + 2) rfl hi8, b1, u_mul, nI_add, nI_add, u_sub en1, nI_add, z1, u_s2, u_rd (show 3350 + 3 * i < 3580 by omega) (by decide), u_s1, nI_add, u_rd (show 3350 + 3 * i + 1 < 3580 by omega) (by decide), u_s1, show J9 (269 + 1) = J0 270 from hJ9', a1, b1, nI_add, u_sub en1, z2, u_s1]
        unfold b_X4_putNext_187 b_X12_seek_275
        rw [nI_add]
        rcases z3 with ⟨zv, zp⟩ | ⟨zv, zx, zm, z37⟩
        · rw [zv, if_neg (by decide +kernel)]
          exact ih' I' J' (zp.mono (by omega))
        · rw [zv, if_pos nI_0, spent J' (zm.1 270 (by decide) (by decide)) z37]
          exact ⟨_, _, _, rfl, rfl, Or.inr ⟨rfl, zx, zm, z37⟩⟩
    have hR := h0.sx (by decide) h.1
    have hJ : J 270 = J0 270 := h.2.1.1 270 (by decide) (by decide)
    have hC : I 117 9 = nI (cn (J0 270) 6) := (hR.sc6 (a := 117) rfl).trans k6
    show ∃ v I' J', B_X4_putNext (G_X4_putNext d1) 117 had _ _ _ _ I = some (v, I') ∧ B_X12_seek (G_X12_seek d2) 269 _ had _ _ _ J = some J' ∧ _
    unfold B_X4_putNext B_X12_seek
    rw [hC, if_pos (nI_lt (by omega) (by omega)), u_rd (show 6 < 3580 by decide) (by decide), u_s1, show J (269 + 1) = J0 270 from hJ, k6, if_neg (nE (by omega) (by omega) (by omega))]
    exact inner (cn (J0 270) 6) q_fu q_fu 0 I J (Nat.zero_add _) (by have := q_fu1; omega) (by have := q_fu1; omega) h
