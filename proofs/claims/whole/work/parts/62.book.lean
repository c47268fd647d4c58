/-! LEVEL B: books -/
theorem WW.bks {X : qX} {I J I' J' : qI} (h : WW X I J) (hI : ∀ a, a ≠ 264 → a ≠ 265 → a ≠ 266 → I' a = I a) (hJ : ∀ a, a ≠ 273 → a ≠ 274 → a ≠ 275 → a ≠ 279 → J' a = J a) (hB : BK I' J') (r : Int32) : G2 X I J (some (r, I')) (some (r, J')) := by
  have e69 := hJ 269 (by decide) (by decide) (by decide) (by decide)
  refine ⟨r, I', J', rfl, rfl, h.side (fun a ha => hI a (by omega) (by omega) (by omega)) (by rw [hI 64 (by decide) (by decide) (by decide)]) (fun a ha => hJ a (by omega) (by omega) (by omega) (by omega)) (by rw [e69]) (by rw [e69]) hB ?_ ?_, fun a h1 h2 => hI a (by omega) (by omega) (by omega), fun a ha => hJ a (by omega) (by omega) (by omega) (by omega)⟩
  · unfold WT
    rw [hI 64 (by decide) (by decide) (by decide), hI 267 (by decide) (by decide) (by decide), e69, hJ 285 (by decide) (by decide) (by decide) (by decide)]
    exact h.wt
  · unfold TP
    rw [hI 260 (by decide) (by decide) (by decide), hI 261 (by decide) (by decide) (by decide), e69, hJ 276 (by decide) (by decide) (by decide) (by decide)]
    exact h.tp
theorem BK.so {I J : qI} (h : BK I J) {p : Nat} (hp : p < 8) : I 264 p = J 273 p ∧ ((J 273 p = -1 ∧ J 273 p < 0 ∧ ¬ 0 ≤ J 273 p) ∨ (¬ J 273 p = -1 ∧ ¬ J 273 p < 0 ∧ 0 ≤ J 273 p)) := by
  obtain ⟨a, -, b, -⟩ := h.1 p hp
  refine ⟨a, ?_⟩
  rcases b with e | e | e
  · left; rw [e]; decide
  · right; rw [e]; decide
  · right; rw [e]; decide
theorem BK.wk {I J : qI} (h : BK I J) {p : Nat} (hp : p < 8) : ∃ w, w ≤ 30 ∧ I 265 p = nI w ∧ J 274 p = nI w := by
  obtain ⟨-, a, -, ⟨w, b, -, c⟩⟩ := h.1 p hp
  exact ⟨w, c, a.trans b, b⟩
theorem bkf {I J : qI} (h : BK I J) {p w : Nat} (hp : p < 8) (hw : w ≤ 30) (h5 : I 265 p = nI w) (y : Int32) : f_X11_bookFinding 64 (nI p) y I = some (if J 273 p = -1 then -1000000011 else if nI 0 ≤ y ∧ y < nI w then nI 0 else -1000000013) := by
  obtain ⟨s1, s2⟩ := h.so hp
  unfold f_X11_bookFinding f_X0_isMissing f_X0_hasWeek
  rw [u_within, u_s1, if_pos (show nI 0 ≤ nI p ∧ nI p ≤ nI 7 from ⟨nI_le (by omega) (by omega), nI_le (by omega) (by decide)⟩), if_neg u_one, u_rd hp (by decide), u_s1, show I (64 + 199 + 1) p = _ from s1, u_rd hp (by decide), u_s1, show I (64 + 199 + 2) p = nI w from h5, u_has rfl (by omega)]
  by_cases e : J 273 p = -1
  · rw [if_pos e, if_pos e, u_s1, if_neg (show ¬ nI 1 = 0 by decide +kernel)]
  · rw [if_neg e, if_neg e, u_s1, if_pos nI_0, u_s1]
    by_cases c : nI 0 ≤ y ∧ y < nI w
    · rw [if_pos c, if_pos c, if_neg u_one]
    · rw [if_neg c, if_neg c, if_pos rfl]
theorem bkx {I : qI} {y1 : Int32} (h : ¬ (nI 0 ≤ y1 ∧ y1 ≤ nI 7)) (y : Int32) : f_X11_bookFinding 64 y1 y I = some (-1000000001) := by
  unfold f_X11_bookFinding
  rw [u_within, u_s1, if_neg h, if_pos rfl]
theorem ii_wk {w : Nat} (hw : w ≤ 30) (y : Int32) : f_X12_isIn y.toInt64 (0 : Int64) (nI w - nI 1).toInt64 = some (if nI 0 ≤ y ∧ y < nI w then 1 else 0) := by
  rw [l64_0, u_isIn32]
  simp only [u_rng (show w < 2 ^ 31 by omega)]
theorem sh16 (x : Int32) : x.toInt16.toInt32 = (x <<< ((nI 16) &&& 31)) >>> ((nI 16) &&& 31) := by
  rw [show (nI 16) &&& 31 = (16 : Int32) by decide +kernel]
  apply Int32.toBitVec_inj.mp
  rw [Int32.toBitVec_shiftRight, Int32.toBitVec_shiftLeft]
  simp only [Int16.toBitVec_toInt32, Int32.toBitVec_toInt16]
  rw [show ((Int32.toBitVec 16).smod 32) = 16#32 by decide]
  apply BitVec.eq_of_getLsbD_eq
  intro i hi
  rw [BitVec.getLsbD_signExtend]
  simp only [BitVec.getLsbD_setWidth, BitVec.sshiftRight_eq', BitVec.getLsbD_sshiftRight, BitVec.shiftLeft_eq', BitVec.getLsbD_shiftLeft, BitVec.msb_setWidth]
  rw [show (16#32).toNat = 16 from rfl]
  by_cases c : i < 16
  · simp [c, hi, show ¬ 32 ≤ i by omega, show 16 + i < 32 by omega, show ¬ 16 + i < 16 by omega, BitVec.getLsbD_signExtend, BitVec.getElem_signExtend]
  · simp [c, hi, show ¬ 32 ≤ i by omega, show ¬ 16 + i < 32 by omega, BitVec.msb_eq_getLsbD_last, BitVec.getLsbD_signExtend, BitVec.getElem_signExtend, BitVec.getLsbD_shiftLeft]
theorem W_note {X : qX} (y1 y2 y3 : Int32) : P2 X (f_X11_note 64 y1 y2 y3) (f_X12_note 269 y1 y2 y3) := by
  intro I J h
  show G2 X I J (f_X11_note 64 y1 y2 y3 I) (f_X12_note 269 y1 y2 y3 J)
  have hB := h.bk
  unfold f_X11_note f_X12_note
  simp only [u_isPit, u_s1, u_ib, ite_not]
  by_cases c1 : nI 0 ≤ y1 ∧ y1 ≤ nI 7
  rotate_left
  · rw [if_neg c1, bkx c1, u_s1, if_neg (by decide)]; exact h.same _
  rw [if_pos c1]
  obtain ⟨p, rfl, -, hp⟩ := u_range (by decide) c1.1 c1.2 (by decide)
  have hp8 : p < 8 := by omega
  obtain ⟨w, hw, w1, w2⟩ := hB.wk hp8
  obtain ⟨s1, s2⟩ := hB.so hp8
  rw [bkf hB hp8 hw w1, u_s1, u_rd hp8 (by decide), u_s1, u_rd hp8 (by decide), u_s1, show J (269 + 5) p = nI w from w2, ii_wk hw, u_s1, u_s1, show J (269 + 4) p = J 273 p from rfl]
  rcases s2 with ⟨e1, e2, e3⟩ | ⟨e1, e2, e3⟩
  · rw [if_pos e1, if_neg (by decide), if_neg e3]; exact h.same _
  rw [if_neg e1, if_pos e3]
  by_cases c2 : nI 0 ≤ y2 ∧ y2 < nI w
  rotate_left
  · rw [if_neg c2, if_neg (by decide), if_neg c2, if_pos rfl]; exact h.same _
  rw [if_pos c2, if_pos nI_0, if_pos c2, if_neg u_one]
  obtain ⟨u, rfl, hu⟩ := u_idx c2 (by omega)
  unfold f_X0_set b_X0_set_26 b_X12_note_76 f_X0_start
  rw [u_s1, u_mul, nI_add, u_rd hp8 (by decide), u_s1, show I (64 + 199 + 1) p = J 273 p from s1, u_mul, nI_add, show 30 * p + u = p * 30 + u by omega]
  have one : ∀ x : Int32, G2 X I J (some (nI 1, q_up I 266 (p * 30 + u) x)) (some (nI 1, q_up J 275 (p * 30 + u) x)) := fun x => by
    refine h.bks (fun a _ _ ha => by funext z; rw [u_up_a ha]) (fun a _ _ ha _ => by funext z; rw [u_up_a ha]) ⟨fun q hq => ?_, fun i hi => ?_⟩ _
    · rw [u_up_a (by decide), u_up_a (by decide), u_up_a (by decide), u_up_a (by decide)]; exact hB.1 q hq
    · by_cases e : i = p * 30 + u
      · subst e; rw [u_up_same, u_up_same]
      · rw [u_up_j e, u_up_j e]; exact hB.2 i hi
  rw [u_wr (show p * 30 + u < 240 by omega) (by decide), u_wr (show p * 30 + u < 240 by omega) (by decide), u_s1, u_s1, u_wr (show p * 30 + u < 240 by omega) (by decide), u_wr (show p * 30 + u < 240 by omega) (by decide), u_s1, u_s1, sh16]
  by_cases c3 : J 273 p = nI 1
  · simp only [if_pos c3, u_s1]; exact one _
  · simp only [if_neg c3, u_s1]; exact one _
theorem pC {I J : qI} (h : BK I J) {p w : Nat} (hp : p < 8) (hw : w < 30) (y B : Int32) (K : Int32 → Int32 → Option Int32) : b_X0_placeOf_41 263 (nI p) y I K B (nI w) = if J 275 (30 * p + w) = B then K B (nI w + -1) else some (nI (p * 30 + w)) := by
  unfold b_X0_placeOf_41 f_X0_start
  rw [if_neg (nI_pos (by omega)), u_s1, u_mul, nI_add, u_rd (show p * 30 + w < 240 by omega) (by decide), u_s1, u_s1, show I (263 + 3) (p * 30 + w) = J 275 (30 * p + w) by rw [show p * 30 + w = 30 * p + w by omega]; exact h.2 _ (by omega), nI_add]
theorem pM {J : qI} {p w : Nat} (hp : p < 8) (hw : w < 30) (y : Int32) {B : Int32} (hB : f_X12_blankOf (J 273 p) = some B) (K : Int32 → Option Int32) : b_X12_readBy_25 269 (nI p) y J K (nI w) = if J 275 (30 * p + w) = B then K (nI w + -1) else some (nI w) := by
  unfold b_X12_readBy_25
  rw [if_neg (nI_pos (by omega)), u_mul, nI_add, u_rd (show 30 * p + w < 240 by omega) (by decide), u_s1, u_rd hp (by decide), u_s1, show J (269 + 4) p = J 273 p from rfl, hB, u_s1]
theorem pC1 {I : qI} (x y B : Int32) (K : Int32 → Int32 → Option Int32) : b_X0_placeOf_41 263 x y I K B (-1) = some (-1) := by
  unfold b_X0_placeOf_41
  rw [if_pos (by decide)]
theorem pM1 {J : qI} (x y : Int32) (K : Int32 → Option Int32) : b_X12_readBy_25 269 x y J K (-1) = some (-1) := by
  unfold b_X12_readBy_25
  rw [if_pos (by decide)]
/-- the week that a book is read by -/
theorem plc {I J : qI} (h : BK I J) {p : Nat} (hp : p < 8) (y : Int32) {B : Int32} (hB : f_X12_blankOf (J 273 p) = some B) : ∀ w fC fM, w < 30 → w + 1 < fC → w + 1 < fM → ((q_fix (fun _ _ => none) (b_X0_placeOf_41 263 (nI p) y I) fC B (nI w) = some (-1) ∧ q_fix (fun _ => none) (b_X12_readBy_25 269 (nI p) y J) fM (nI w) = some (-1)) ∨ ∃ u, u ≤ w ∧ q_fix (fun _ _ => none) (b_X0_placeOf_41 263 (nI p) y I) fC B (nI w) = some (nI (p * 30 + u)) ∧ q_fix (fun _ => none) (b_X12_readBy_25 269 (nI p) y J) fM (nI w) = some (nI u)) := by
  intro w
  induction w with
  | zero =>
    intro fC fM hw h1 h2
    obtain ⟨fC, rfl⟩ : ∃ z, fC = z + 2 := ⟨fC - 2, by omega⟩
    obtain ⟨fM, rfl⟩ : ∃ z, fM = z + 2 := ⟨fM - 2, by omega⟩
    have e1 : q_fix (fun _ _ => none) (b_X0_placeOf_41 263 (nI p) y I) (fC + 2) B (nI 0) = if J 275 (30 * p + 0) = B then some (-1) else some (nI (p * 30 + 0)) := by
      show b_X0_placeOf_41 263 (nI p) y I (q_fix _ (b_X0_placeOf_41 263 (nI p) y I) (fC + 1)) B (nI 0) = _
      rw [pC h hp hw, show nI 0 + -1 = (-1 : Int32) by decide +kernel]
      show (if J 275 (30 * p + 0) = B then b_X0_placeOf_41 263 (nI p) y I (q_fix _ _ fC) B (-1) else _) = _
      rw [pC1]
    have e2 : q_fix (fun _ => none) (b_X12_readBy_25 269 (nI p) y J) (fM + 2) (nI 0) = if J 275 (30 * p + 0) = B then some (-1) else some (nI 0) := by
      show b_X12_readBy_25 269 (nI p) y J (q_fix _ (b_X12_readBy_25 269 (nI p) y J) (fM + 1)) (nI 0) = _
      rw [pM hp hw y hB, show nI 0 + -1 = (-1 : Int32) by decide +kernel]
      show (if J 275 (30 * p + 0) = B then b_X12_readBy_25 269 (nI p) y J (q_fix _ _ fM) (-1) else _) = _
      rw [pM1]
    rw [e1, e2]
    by_cases c : J 275 (30 * p + 0) = B
    · rw [if_pos c, if_pos c]; exact Or.inl ⟨rfl, rfl⟩
    · rw [if_neg c, if_neg c]; exact Or.inr ⟨0, Nat.le_refl _, rfl, rfl⟩
  | succ w ih =>
    intro fC fM hw h1 h2
    obtain ⟨fC, rfl⟩ : ∃ z, fC = z + 1 := ⟨fC - 1, by omega⟩
    obtain ⟨fM, rfl⟩ : ∃ z, fM = z + 1 := ⟨fM - 1, by omega⟩
    have ih' := ih fC fM (by omega) (by omega) (by omega)
    have em : nI (w + 1) + -1 = nI w := by rw [show nI w = nI (w + 1) - nI 1 by rw [u_sub (by omega)]; rfl, Int32.sub_eq_add_neg]; rfl
    have e1 : q_fix (fun _ _ => none) (b_X0_placeOf_41 263 (nI p) y I) (fC + 1) B (nI (w + 1)) = if J 275 (30 * p + (w + 1)) = B then q_fix (fun _ _ => none) (b_X0_placeOf_41 263 (nI p) y I) fC B (nI w) else some (nI (p * 30 + (w + 1))) := by
      show b_X0_placeOf_41 263 (nI p) y I (q_fix _ (b_X0_placeOf_41 263 (nI p) y I) fC) B (nI (w + 1)) = _
      rw [pC h hp hw, em]
    have e2 : q_fix (fun _ => none) (b_X12_readBy_25 269 (nI p) y J) (fM + 1) (nI (w + 1)) = if J 275 (30 * p + (w + 1)) = B then q_fix (fun _ => none) (b_X12_readBy_25 269 (nI p) y J) fM (nI w) else some (nI (w + 1)) := by
      show b_X12_readBy_25 269 (nI p) y J (q_fix _ (b_X12_readBy_25 269 (nI p) y J) fM) (nI (w + 1)) = _
      rw [pM hp hw y hB, em]
    rw [e1, e2]
    by_cases c : J 275 (30 * p + (w + 1)) = B
    · rw [if_pos c, if_pos c]
      rcases ih' with q | ⟨u, q1, q2⟩
      · exact Or.inl q
      · exact Or.inr ⟨u, by omega, q2⟩
    · rw [if_neg c, if_neg c]; exact Or.inr ⟨w + 1, Nat.le_refl _, rfl, rfl⟩
/-- a book read for a week that is no less than 0 -/
theorem rdb {I J : qI} (h : BK I J) {p : Nat} (hp : p < 8) {y : Int32} (hy : ¬ y < 0) : (f_X0_placeOf 263 (nI p) y I = some (-1) ∧ f_X12_readBy 269 (nI p) y J = some (-1)) ∨ ∃ u, u < 30 ∧ f_X0_placeOf 263 (nI p) y I = some (nI (p * 30 + u)) ∧ f_X12_readBy 269 (nI p) y J = some (nI u) ∧ I 266 (p * 30 + u) = J 275 (30 * p + u) := by
  obtain ⟨w, hw, w1, w2⟩ := h.wk hp
  obtain ⟨s1, s2⟩ := h.so hp
  obtain ⟨k, hk, rfl⟩ := nI_of hy
  obtain ⟨B, hB, eB⟩ : ∃ B, f_X12_blankOf (J 273 p) = some B ∧ (if J 273 p = nI 1 then b_X0_placeOf_37 263 (nI p) (nI k) I (-32768) else b_X0_placeOf_37 263 (nI p) (nI k) I (-2147483648)) = q_fix (fun _ _ => none) (b_X0_placeOf_41 263 (nI p) (nI k) I) q_fu B (nI k) := by
    unfold f_X12_blankOf b_X0_placeOf_37
    by_cases e : J 273 p = nI 1
    · rw [if_pos e, if_pos e]; exact ⟨_, rfl, rfl⟩
    · rw [if_neg e, if_neg e]; exact ⟨_, rfl, rfl⟩
  have m1 : b_X12_readBy_19 269 (nI p) (nI k) J = some (-1) := by
    unfold b_X12_readBy_19 b_X12_readBy_24
    rw [show q_fu = 99999 + 1 from rfl]
    exact pM1 _ _ _
  have eC : f_X0_placeOf 263 (nI p) (nI k) I = if J 273 p = -1 then some (-1) else if k < w then q_fix (fun _ _ => none) (b_X0_placeOf_41 263 (nI p) (nI k) I) q_fu B (nI k) else some (-1) := by
    unfold f_X0_placeOf f_X0_isMissing f_X0_hasWeek
    simp only [u_rd hp (show 8 < 2 ^ 31 by decide), u_s1]
    rw [show I (263 + 1) p = J 273 p from s1, show I (263 + 2) p = nI w from w1, u_has rfl (by omega), eB]
    by_cases e : J 273 p = -1
    · rw [if_pos e, if_pos e, u_s1, if_neg (show ¬ nI 1 = 0 by decide +kernel)]
    · rw [if_neg e, if_neg e, u_s1, if_pos nI_0, u_s1]
      by_cases c : k < w
      · rw [if_pos (show nI 0 ≤ nI k ∧ nI k < nI w from u_idx' c (by omega)), if_neg u_one, if_pos c]
      · rw [if_neg (show ¬ (nI 0 ≤ nI k ∧ nI k < nI w) from fun q => c ((nI_ltI hk (by omega)).mp q.2)), if_pos rfl, if_neg c]
  have eM : f_X12_readBy 269 (nI p) (nI k) J = if J 273 p = -1 then some (-1) else if k < w then q_fix (fun _ => none) (b_X12_readBy_25 269 (nI p) (nI k) J) q_fu (nI k) else some (-1) := by
    unfold f_X12_readBy
    simp only [u_rd hp (show 8 < 2 ^ 31 by decide), u_s1]
    rw [show J (269 + 5) p = nI w from w2, m1, show J (269 + 4) p = J 273 p from rfl]
    rcases s2 with ⟨e1, e2, e3⟩ | ⟨e1, e2, e3⟩
    · rw [if_pos e2, if_pos e1]
    · rw [if_neg e2, if_neg e1]
      by_cases c : k < w
      · rw [if_pos (nI_lt c (by omega)), if_pos c]; rfl
      · rw [if_neg (nI_nlt (by omega) hk), if_neg c]
  rw [eC, eM]
  by_cases e : J 273 p = -1
  · rw [if_pos e, if_pos e]; exact Or.inl ⟨rfl, rfl⟩
  rw [if_neg e, if_neg e]
  by_cases c : k < w
  rotate_left
  · rw [if_neg c, if_neg c]; exact Or.inl ⟨rfl, rfl⟩
  rw [if_pos c, if_pos c]
  rcases plc h hp (nI k) hB k q_fu q_fu (by omega) (by have := q_fu1; omega) (by have := q_fu1; omega) with q | ⟨u, q1, q2, q3⟩
  · exact Or.inl q
  · exact Or.inr ⟨u, by omega, q2, q3, by rw [show p * 30 + u = 30 * p + u by omega]; exact h.2 _ (by omega)⟩
theorem W_read {X : qX} (y1 y2 : Int32) : P0 X (f_X11_read 64 y1 y2) (f_X12_read 269 y1 y2) := by
  intro I J h
  show G0 (f_X11_read 64 y1 y2 I) (f_X12_read 269 y1 y2 J)
  have hB := h.bk
  unfold f_X11_read f_X12_read
  simp only [u_isPit, u_s1, u_ib, ite_not]
  by_cases c1 : nI 0 ≤ y1 ∧ y1 ≤ nI 7
  rotate_left
  · rw [if_neg c1, bkx c1, u_s1, if_neg (by decide)]; exact G0.rf _
  rw [if_pos c1]
  obtain ⟨p, rfl, -, hp⟩ := u_range (by decide) c1.1 c1.2 (by decide)
  have hp8 : p < 8 := by omega
  obtain ⟨w, hw, w1, w2⟩ := hB.wk hp8
  obtain ⟨s1, s2⟩ := hB.so hp8
  rw [bkf hB hp8 hw w1, u_s1, u_rd hp8 (by decide), u_s1, u_rd hp8 (by decide), u_s1, show J (269 + 5) p = nI w from w2, ii_wk hw, u_s1, show J (269 + 4) p = J 273 p from rfl]
  rcases s2 with ⟨e1, e2, e3⟩ | ⟨e1, e2, e3⟩
  · rw [if_pos e1, if_neg (by decide), if_neg e3]; exact G0.rf _
  rw [if_neg e1, if_pos e3]
  by_cases c2 : nI 0 ≤ y2 ∧ y2 < nI w
  rotate_left
  · rw [if_neg c2, if_neg (by decide), if_neg c2, if_pos rfl]; exact G0.rf _
  rw [if_pos c2, if_pos nI_0, if_pos c2, if_neg u_one]
  have hy : ¬ y2 < 0 := fun q => by have := c2.1; rw [nI_0] at this; exact Int32.lt_irrefl (Int32.lt_of_lt_of_le q this)
  rcases rdb hB hp8 hy with ⟨q1, q2⟩ | ⟨u, u3, q1, q2, q3⟩
  · rw [show f_X0_placeOf (64 + 199) (nI p) y2 I = _ from q1, u_s1, q2, u_s1, if_neg neg1, if_neg neg1]; exact G0.rf _
  · rw [show f_X0_placeOf (64 + 199) (nI p) y2 I = _ from q1, u_s1, q2, u_s1, if_pos (nI_pos' (by omega)), if_pos (nI_pos' (by omega)), u_rd (show p * 30 + u < 240 by omega) (by decide), u_s1, u_mul, nI_add, u_rd (show 30 * p + u < 240 by omega) (by decide), u_s1, show I (64 + 202) (p * 30 + u) = J (269 + 6) (30 * p + u) from q3]
    exact G0.rf _
theorem al_lp {I J : qI} (h : BK I J) {y : Int32} (hy : ¬ y < 0) (y2 : Int32) : ∀ r fC fM i s m, i + r = 8 → r < fC → r < fM → ∃ z, q_fix (fun _ _ _ => none) (b_X11_all_24 64 y y2 I) fC s m (nI i) = some z ∧ q_fix (fun _ _ _ => none) (b_X12_all_25 269 y y2 J) fM s m (nI i) = some z := by
  intro r
  induction r with
  | zero =>
    intro fC fM i s m h1 h2 h3
    obtain ⟨fC, rfl⟩ : ∃ z, fC = z + 1 := ⟨fC - 1, by omega⟩
    obtain ⟨fM, rfl⟩ : ∃ z, fM = z + 1 := ⟨fM - 1, by omega⟩
    have e : i = 8 := by omega
    subst e
    refine ⟨if y2 = 0 then s else m, ?_, ?_⟩
    · show b_X11_all_24 64 y y2 I (q_fix _ _ fC) s m (nI 8) = _
      unfold b_X11_all_24
      rw [if_pos (Int32.le_refl _)]
      by_cases c : y2 = 0
      · rw [if_pos c, if_pos c]
      · rw [if_neg c, if_neg c]
    · show b_X12_all_25 269 y y2 J (q_fix _ _ fM) s m (nI 8) = _
      unfold b_X12_all_25
      rw [if_pos (Int32.le_refl _)]
      by_cases c : y2 = 0
      · rw [if_pos c, if_pos c]
      · rw [if_neg c, if_neg c]
  | succ r ih =>
    intro fC fM i s m h1 h2 h3
    obtain ⟨fC, rfl⟩ : ∃ z, fC = z + 1 := ⟨fC - 1, by omega⟩
    obtain ⟨fM, rfl⟩ : ∃ z, fM = z + 1 := ⟨fM - 1, by omega⟩
    have hi : i < 8 := by omega
    have ih' := fun s m => ih fC fM (i + 1) s m (by omega) (by omega) (by omega)
    show ∃ z, b_X11_all_24 64 y y2 I (q_fix (fun _ _ _ => none) (b_X11_all_24 64 y y2 I) fC) s m (nI i) = some z ∧ b_X12_all_25 269 y y2 J (q_fix (fun _ _ _ => none) (b_X12_all_25 269 y y2 J) fM) s m (nI i) = some z
    generalize q_fix (fun _ _ _ => none) (b_X11_all_24 64 y y2 I) fC = KC at ih' ⊢
    generalize q_fix (fun _ _ _ => none) (b_X12_all_25 269 y y2 J) fM = KM at ih' ⊢
    unfold b_X11_all_24 b_X11_all_67 b_X12_all_25 b_X12_all_64 b_X12_all_78
    rw [if_neg (nI_ge hi (by decide)), if_neg (nI_ge hi (by decide)), nI_add]
    rcases rdb h hi hy with ⟨q1, q2⟩ | ⟨u, u3, q1, q2, q3⟩
    · rw [show f_X0_placeOf (64 + 199) (nI i) y I = _ from q1, u_s1, q2, u_s1, if_neg neg1, if_neg neg1, if_neg neg1, show s + nI 0 = s by rw [nI_0, Int32.add_zero]]
      exact ih' _ _
    · rw [show f_X0_placeOf (64 + 199) (nI i) y I = _ from q1, u_s1, q2, u_s1, if_pos (nI_pos' (by omega)), if_pos (nI_pos' (by omega)), u_rd (show i * 30 + u < 240 by omega) (by decide), u_s1, u_mul, nI_add, u_rd (show 30 * i + u < 240 by omega) (by decide), u_s1, if_pos (nI_pos' (by omega)), show I (64 + 202) (i * 30 + u) = J (269 + 6) (30 * i + u) from q3, show m + nI 0 = m by rw [nI_0, Int32.add_zero]]
      exact ih' _ _
theorem W_all {X : qX} (y1 y2 : Int32) : P0 X (f_X11_all 64 y1 y2) (f_X12_all 269 y1 y2) := by
  intro I J h
  show G0 (f_X11_all 64 y1 y2 I) (f_X12_all 269 y1 y2 J)
  unfold f_X11_all f_X12_all
  simp only [u_within, ii_0_1, u_s1, u_ib, ite_not]
  refine G0.ite (fun _ => G0.rf _) (fun c1 => ?_)
  refine G0.ite (fun c2 => ?_) (fun _ => G0.rf _)
  exact al_lp h.bk c1 y2 8 q_fu q_fu 0 (nI 0) (nI 0) (by decide) (by decide) (by decide)
