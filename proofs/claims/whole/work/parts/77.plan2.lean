/-! LEVEL B: plan, planned: the search -/
theorem PL.mono {I0 J0 I J : qI} {c m m' : Nat} (h : PL I0 J0 c m I J) (hm : m' ≤ m) : PL I0 J0 c m' I J := ⟨h.1, h.2.1, h.2.2.1, h.2.2.2.1, h.2.2.2.2.1, h.2.2.2.2.2.1, fun i hi => h.2.2.2.2.2.2 i (by omega)⟩
theorem keep_M {J0 : qI} {c : Nat} (hc : c ≤ 8) {x2 x3 x4 x5 : Int32} (F : Nat → Int32 → Int32 → Int32 → Int32 → Int32 → qI → Option qI) : ∀ r f i J, i + r = c → r < f → SM J0 J → (∀ k, k < i → J 283 k = J 281 k ∧ J 284 k = J 282 k) → ∃ J', q_fix (fun _ _ => none) (b_X12_seek_34 269 (nI c) x2 x3 x4 x5 F) f (nI i) J = some J' ∧ SM J0 J' ∧ J' 269 = J 269 ∧ J' 281 = J 281 ∧ J' 282 = J 282 ∧ ∀ k, k < c → J' 283 k = J 281 k ∧ J' 284 k = J 282 k := by
  intro r
  induction r with
  | zero =>
    intro f i J h1 h2 h h3
    obtain ⟨f, rfl⟩ : ∃ z, f = z + 1 := ⟨f - 1, by omega⟩
    have : i = c := by omega
    subst this
    refine ⟨J, ?_, h, rfl, rfl, rfl, h3⟩
    show b_X12_seek_34 269 (nI i) x2 x3 x4 x5 F _ (nI i) J = _
    unfold b_X12_seek_34
    rw [if_pos (Int32.le_refl _)]
  | succ r ih =>
    intro f i J h1 h2 h h3
    obtain ⟨f, rfl⟩ : ∃ z, f = z + 1 := ⟨f - 1, by omega⟩
    obtain ⟨J', k1, k2, k3, k4, k6, k5⟩ := ih f (i + 1) (q_up (q_up J 283 i (J 281 i)) 284 i (J 282 i)) (by omega) (by omega) ((h.up (by decide)).up (by decide)) (fun k hk => by
      rw [u_up_a (show (283 : Nat) ≠ 284 by decide), u_up_a (show (281 : Nat) ≠ 284 by decide), u_up_a (show (281 : Nat) ≠ 283 by decide), u_up_a (show (282 : Nat) ≠ 284 by decide), u_up_a (show (282 : Nat) ≠ 283 by decide)]
      by_cases e : k = i
      · rw [e, u_up_same, u_up_same]; exact ⟨rfl, rfl⟩
      · rw [u_up_j e, u_up_j e, u_up_a (show (284 : Nat) ≠ 283 by decide)]; exact h3 k (by omega))
    have e1 : q_up (q_up J 283 i (J 281 i)) 284 i (J 282 i) 281 = J 281 := by
      funext k; rw [u_up_a (by decide), u_up_a (by decide)]
    have e3 : q_up (q_up J 283 i (J 281 i)) 284 i (J 282 i) 282 = J 282 := by
      funext k; rw [u_up_a (by decide), u_up_a (by decide)]
    have e2 : q_up (q_up J 283 i (J 281 i)) 284 i (J 282 i) 269 = J 269 := by
      funext k; rw [u_up_a (by decide), u_up_a (by decide)]
    rw [e2] at k3
    rw [e1] at k4
    rw [e3] at k6
    rw [e1, e3] at k5
    refine ⟨J', ?_, k2, k3, k4, k6, k5⟩
    rw [← k1]
    show b_X12_seek_34 269 (nI c) x2 x3 x4 x5 F (q_fix (fun _ _ => none) (b_X12_seek_34 269 (nI c) x2 x3 x4 x5 F) f) (nI i) J = _
    unfold b_X12_seek_34
    rw [if_neg (nI_ge (by omega) (by omega)), u_rd (show i < 8 by omega) (by decide), u_s1, u_wr (show i < 8 by omega) (by decide), u_s1, u_rd (show i < 8 by omega) (by decide), u_s1, u_wr (show i < 8 by omega) (by decide), u_s1, nI_add, u_up_a (show (269 + 13 : Nat) ≠ 269 + 14 by decide)]
theorem cpA {I : qI} {a b c : Nat} (hc : c ≤ 8) : q_cp I a 8 (nI 0) b 8 (nI 0) (nI c) = some (q_upA I b (va_cpy (I a) (I b) 0 0 c)) := by
  unfold q_cp
  rw [nI_clamp (show 0 < 2 ^ 31 by decide), nI_clamp (show c < 2 ^ 31 by omega), if_neg (by
      rintro ((q | q | q) | q | q)
      · exact nI_pos (by decide) q
      · exact nI_pos (by decide) q
      · exact nI_pos (by omega) q
      · omega
      · omega)]
theorem SX.upA {v : Nat} {I I' : qI} (h : SX v I I') {a o : Nat} {f : Nat → Int32} (ha : a = v + o) (ho : 48 ≤ o ∧ o ≤ 51 ∨ 56 ≤ o ∧ o ≤ 59) : SX v I (q_upA I' a f) := by
  subst ha
  refine ⟨fun b hb => ?_, fun p k hp hn => ?_⟩
  · show (if b = v + o then f else I' b) = _
    rw [if_neg (by omega), h.1 b hb]
  · by_cases e : p = o
    · subst e
      exact absurd (by unfold scO; omega) hn
    · show (if v + p = v + o then f else I' (v + p)) k = _
      rw [if_neg (by omega)]; exact h.2 p k hp hn
def kI1 (I : qI) (c w : Nat) : qI := q_upA (q_up I 117 7 (nI w)) 123 (va_cpy (q_up I 117 7 (nI w) 121) (q_up I 117 7 (nI w) 123) 0 0 c)
def kI (I : qI) (c w : Nat) : qI := q_upA (kI1 I c w) 124 (va_cpy (kI1 I c w 122) (kI1 I c w 124) 0 0 c)
theorem kI1_o {I : qI} {c w a : Nat} (h : a ≠ 123) : kI1 I c w a = q_up I 117 7 (nI w) a := by
  unfold kI1 q_upA
  rw [if_neg h]
theorem kI_o {I : qI} {c w a : Nat} (h : a ≠ 123) (h' : a ≠ 124) : kI I c w a = q_up I 117 7 (nI w) a := by
  unfold kI
  show (if a = 124 then _ else kI1 I c w a) = _
  rw [if_neg h', kI1_o h]
theorem kI_3 {I : qI} {c w : Nat} : kI I c w 123 = va_cpy (q_up I 117 7 (nI w) 121) (q_up I 117 7 (nI w) 123) 0 0 c := by
  unfold kI kI1 q_upA
  rw [if_neg (by decide), if_pos rfl]
theorem kI_4 {I : qI} {c w : Nat} : kI I c w 124 = va_cpy (q_up I 117 7 (nI w) 122) (q_up I 117 7 (nI w) 124) 0 0 c := by
  unfold kI
  show (if 124 = 124 then va_cpy (kI1 I c w 122) (kI1 I c w 124) 0 0 c else _) = _
  rw [if_pos rfl, kI1_o (by decide), kI1_o (by decide)]
theorem keep_C {I : qI} {c w : Nat} (hc : c ≤ 8) (hC : I 117 9 = nI c) : f_X4_keepOrder 117 (nI w) I = some (kI I c w) := by
  unfold f_X4_keepOrder
  rw [u_s1, u_up_j (show (9 : Nat) ≠ 7 by decide), hC, cpA hc, u_s1]
  show q_b1 (q_cp (kI1 I c w) (117 + 5) 8 (nI 0) (117 + 7) 8 (nI 0) (kI1 I c w 117 9)) _ = _
  rw [show kI1 I c w 117 9 = nI c from by
      rw [kI1_o (by decide), u_up_j (by decide), hC], cpA hc, u_s1]
  rfl
theorem kp {I0 J0 I J : qI} {c w : Nat} (hc : c ≤ 8) (hw : w ≤ 999) (h : PL I0 J0 c c I J) (hC : I 117 9 = nI c) (x2 x4 x5 : Int32) (F : Nat → Int32 → Int32 → Int32 → Int32 → Int32 → qI → Option qI) : ∃ I' J', f_X4_keepOrder 117 (nI w) I = some I' ∧ b_X12_seek_26 269 (nI c) x2 (nI w) x4 x5 F J = some J' ∧ PL I0 J0 c c I' J' := by
  obtain ⟨h1, h2, h3, ⟨T, t1, t2, t3⟩, h5, h6, h7⟩ := h
  obtain ⟨J', k1, k2, k3, k4, k6, k5⟩ := keep_M (J0 := J0) hc (x2 := x2) (x3 := nI w) (x4 := x4) (x5 := x5) F c q_fu 0 (q_up J 269 35 (nI w)) (Nat.zero_add _) (by have := q_fu1; omega) (h2.fl (by decide)) (fun k hk => absurd hk (Nat.not_lt_zero _))
  refine ⟨kI I c w, J', keep_C hc hC, k1, ?_⟩
  · have s1 : SX 65 I0 (q_up I 117 7 (nI w)) := h1.up (o := 52) rfl (by decide) (by unfold scO; omega)
    refine ⟨(s1.upA (o := 58) rfl (by decide)).upA (o := 59) rfl (by decide), k2, ?_, ⟨T, t1, ?_, ?_⟩, Or.inr ⟨⟨w, hw, ?_⟩, fun i hi => ?_⟩, ?_, fun i hi => ?_⟩
    · rw [k3, u_up_same, kI_o (by decide) (by decide), u_up_same]
    · rw [kI_o (by decide) (by decide), u_up_j (show (8 : Nat) ≠ 7 by decide)]; exact t2
    · rw [k3, u_up_j (by decide)]; exact t3
    · rw [k3, u_up_same]
    · rw [(k5 i hi).1, (k5 i hi).2, u_up_a (show (281 : Nat) ≠ 269 by decide), u_up_a (show (282 : Nat) ≠ 269 by decide), ← (h7 i hi).1, ← (h7 i hi).2, kI_3, kI_4]
      unfold va_cpy
      rw [if_pos (by omega), if_pos (by omega), show 0 + (i - 0) = i by omega, u_up_a (by decide), u_up_a (by decide)]
      exact ⟨rfl, rfl⟩
    · rw [k3, u_up_j (by decide)]; exact h6
    · rw [k4, k6, u_up_a (show (281 : Nat) ≠ 269 by decide), u_up_a (show (282 : Nat) ≠ 269 by decide), ← (h7 i hi).1, ← (h7 i hi).2, kI_o (by decide) (by decide), kI_o (by decide) (by decide), u_up_a (show (121 : Nat) ≠ 117 by decide), u_up_a (show (122 : Nat) ≠ 117 by decide)]
      exact ⟨rfl, rfl⟩
theorem seek_sp {J : qI} {c : Nat} (h6 : J 270 6 = nI c) (h37 : J 269 37 = nI 1) (x1 x2 x3 x4 x5 : Int32) (F : Nat → Int32 → Int32 → Int32 → Int32 → Int32 → qI → Option qI) (g : Nat) (x : Int32) : q_fix (fun _ _ => none) (b_X12_seek_78 269 x1 x2 x3 x4 x5 F) (g + 1) x J = some J := by
  show b_X12_seek_78 269 x1 x2 x3 x4 x5 F _ x J = _
  unfold b_X12_seek_78
  rw [u_rd (show 6 < 3580 by decide) (by decide), u_s1, h37, if_neg (show ¬ nI 1 = 0 by decide +kernel)]
  split <;> rfl
