/-! LEVEL B: plan, planned -/
/-- a search under way: both sides alike, many chosen -/
def PL (I0 J0 : qI) (c many : Nat) (I J : qI) : Prop := SX 65 I0 I ∧ SM J0 J ∧ I 117 7 = J 269 35 ∧ (∃ T, T ≤ 20000 ∧ I 117 8 = nI T ∧ J 269 36 = nI T) ∧ (J 269 35 < 0 ∨ ((∃ k, k ≤ 999 ∧ J 269 35 = nI k) ∧ ∀ i, i < c → I 123 i = J 283 i ∧ I 124 i = J 284 i)) ∧ J 269 37 = nI 0 ∧ ∀ i, i < many → I 121 i = J 281 i ∧ I 122 i = J 282 i
/-- how a search ends -/
def PE (I0 J0 : qI) (c many : Nat) (v : Int32) (I J : qI) : Prop := (v = nI 1 ∧ PL I0 J0 c many I J) ∨ (v = nI 0 ∧ SX 65 I0 I ∧ SM J0 J ∧ J 269 37 = nI 1)
theorem seek_w {J : qI} {c inc many : Nat} {x2 x3 x4 : Int32} (hc : c < 8) {C : Nat} (hC : J 270 (3350 + 3 * c) = nI C) (hC9 : C ≤ 999) (hi : inc ≤ 2000) (F : Nat → Int32 → Int32 → Int32 → Int32 → Int32 → qI → Option qI) (K : Int32 → qI → Option qI) : ∀ r f w Fu, w + r = 999 → r < f → Fu ≤ 20000 → q_fix (fun _ _ _ _ _ => none) (b_X12_seek_177 269 (nI many) x2 x3 x4 (nI inc) F K) f (nI c) (nI (3350 + 3 * c)) (nI w) (nI Fu) J = if w + wt C Fu inc ≤ 999 then b_X12_seek_210 269 (nI many) x2 x3 x4 (nI inc) F K (nI c) (nI (3350 + 3 * c)) (nI (w + wt C Fu inc)) (nI (Fu + wt C Fu inc * inc)) J else b_X12_seek_275 269 (nI many) x2 x3 x4 (nI inc) F K (nI c) J := by
  intro r
  induction r with
  | zero =>
    intro f w Fu h1 h2 hF
    obtain ⟨f, rfl⟩ : ∃ z, f = z + 1 := ⟨f - 1, by omega⟩
    show b_X12_seek_177 269 (nI many) x2 x3 x4 (nI inc) F K _ _ _ _ _ J = _
    unfold b_X12_seek_177
    rw [u_rd (show 3350 + 3 * c < 3580 by omega) (by decide), u_s1, show J (269 + 1) = J 270 from rfl, hC]
    by_cases z : C ≤ Fu
    · have e : wt C Fu inc = 0 := by unfold wt; rw [if_pos z]
      rw [if_pos (nI_le z (by omega)), e, if_pos (by omega), Nat.zero_mul, Nat.add_zero, Nat.add_zero]
    · have e : 0 < wt C Fu inc := by
        unfold wt; rw [if_neg z]
        by_cases y : inc = 0
        · rw [if_pos y]; decide
        · rw [if_neg y]; exact Nat.div_pos (by omega) (by omega)
      rw [if_neg (nI_ge (by omega) (by omega)), if_pos (nI_le (by omega) (by omega)), if_neg (by omega)]
      unfold b_X12_seek_210
      rw [u_rd (show 3350 + 3 * c < 3580 by omega) (by decide), u_s1, show J (269 + 1) = J 270 from rfl, hC, if_pos (nI_lt (by omega) (by omega))]
  | succ r ih =>
    intro f w Fu h1 h2 hF
    obtain ⟨f, rfl⟩ : ∃ z, f = z + 1 := ⟨f - 1, by omega⟩
    show b_X12_seek_177 269 (nI many) x2 x3 x4 (nI inc) F K (q_fix (fun _ _ _ _ _ => none) (b_X12_seek_177 269 (nI many) x2 x3 x4 (nI inc) F K) f) _ _ _ _ J = _
    by_cases z : C ≤ Fu
    · have e : wt C Fu inc = 0 := by unfold wt; rw [if_pos z]
      unfold b_X12_seek_177
      rw [u_rd (show 3350 + 3 * c < 3580 by omega) (by decide), u_s1, show J (269 + 1) = J 270 from rfl, hC, if_pos (nI_le z (by omega)), e, if_pos (by omega), Nat.zero_mul, Nat.add_zero, Nat.add_zero]
    · have ih' := ih f (w + 1) (Fu + inc) (by omega) (by omega) (by omega)
      have st : b_X12_seek_177 269 (nI many) x2 x3 x4 (nI inc) F K (q_fix (fun _ _ _ _ _ => none) (b_X12_seek_177 269 (nI many) x2 x3 x4 (nI inc) F K) f) (nI c) (nI (3350 + 3 * c)) (nI w) (nI Fu) J = q_fix (fun _ _ _ _ _ => none) (b_X12_seek_177 269 (nI many) x2 x3 x4 (nI inc) F K) f (nI c) (nI (3350 + 3 * c)) (nI (w + 1)) (nI (Fu + inc)) J := by
        generalize q_fix (fun _ _ _ _ _ => none) (b_X12_seek_177 269 (nI many) x2 x3 x4 (nI inc) F K) f = K'
        unfold b_X12_seek_177
        rw [u_rd (show 3350 + 3 * c < 3580 by omega) (by decide), u_s1, show J (269 + 1) = J 270 from rfl, hC, if_neg (nI_ge (by omega) (by omega)), if_neg (nI_ge (by omega) (by omega)), nI_add, nI_add]
      rw [st, ih']
      rcases Nat.eq_zero_or_pos inc with y | y
      · have e : wt C Fu inc = 1000 := by unfold wt; rw [if_neg z, if_pos y]
        have e' : wt C (Fu + inc) inc = 1000 := by unfold wt; rw [if_neg (by omega), if_pos y]
        rw [e, e', if_neg (by omega), if_neg (by omega)]
      · have e := wt_s (c := C) (F := Fu) (inc := inc) (by omega) y
        rw [e]
        by_cases q : w + 1 + wt C (Fu + inc) inc ≤ 999
        · rw [if_pos q, if_pos (by omega), show w + 1 + wt C (Fu + inc) inc = w + (wt C (Fu + inc) inc + 1) by omega, show Fu + inc + wt C (Fu + inc) inc * inc = Fu + (wt C (Fu + inc) inc + 1) * inc by rw [Nat.add_mul]; omega]
        · rw [if_neg q, if_neg (by omega)]
