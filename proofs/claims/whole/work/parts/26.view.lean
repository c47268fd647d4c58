/-! LEVEL B, the view: where a place n of the model's row lies in a Valley at v: cell v + o, place j -/
def vq (n : Nat) : Option (Nat × Nat) :=
  if n < 10 then ([(0, 13), (7, 4), (12, 14), (27, 8), (36, 5), (44, 8), (52, 9), (60, 0), (60, 1), (60, 2)] : List (Nat × Nat))[n]?
  else if n < 50 then some (2 + (n - 10) % 5, (n - 10) / 5)
  else if n < 74 then some (8 + (n - 50) % 4, (n - 50) / 4)
  else if n < 80 then none
  else if n < 368 then
    if (n - 80) % 24 < 12 then some (13 + (n - 80) % 24, (n - 80) / 24)
    else if (n - 80) % 24 < 18 then some (25, 6 * ((n - 80) / 24) + ((n - 80) % 24 - 12))
    else some (26, 6 * ((n - 80) / 24) + ((n - 80) % 24 - 18))
  else if n < 370 then none
  else if n < 850 then if (n - 370) % 8 = 6 then none else some (28 + (n - 370) % 8, (n - 370) / 8)
  else if n < 3250 then if (n - 850) % 200 < 3 then some (37 + (n - 850) % 200, (n - 850) / 200) else none
  else if n < 3298 then some (43, n - 3250)
  else if n < 3300 then none
  else if n < 3348 then some (45 + (n - 3300) % 3, (n - 3300) / 3)
  else if n < 3350 then none
  else if n < 3374 then some (53 + (n - 3350) % 3, (n - 3350) / 3)
  else none
/-- ... and back -/
def vc (o j : Nat) : Nat :=
  if o = 0 then 0 else if o = 7 then 1 else if o = 12 then 2 else if o = 27 then 3 else if o = 36 then 4 else if o = 44 then 5 else if o = 52 then 6 else if o = 60 then 7 + j
  else if o < 7 then 10 + 5 * j + (o - 2)
  else if o < 12 then 50 + 4 * j + (o - 8)
  else if o < 25 then 80 + 24 * j + (o - 13)
  else if o = 25 then 80 + 24 * (j / 6) + 12 + j % 6
  else if o = 26 then 80 + 24 * (j / 6) + 18 + j % 6
  else if o < 36 then 370 + 8 * j + (o - 28)
  else if o < 40 then 850 + 200 * j + (o - 37)
  else if o = 43 then 3250 + j
  else if o < 48 then 3300 + 3 * j + (o - 45)
  else 3350 + 3 * j + (o - 53)
def vq_ok (n : Nat) : Bool := match vq n with
  | some (o, j) => vc o j == n && decide (o < 65)
  | none => true
theorem vq_all : (List.range 3580).all vq_ok = true := by decide +kernel
theorem vq_hi {n : Nat} (h : ¬ n < 3580) : vq n = none := by
  unfold vq
  rw [if_neg (by omega), if_neg (by omega), if_neg (by omega), if_neg (by omega), if_neg (by omega), if_neg (by omega), if_neg (by omega), if_neg (by omega), if_neg (by omega), if_neg (by omega), if_neg (by omega), if_neg (by omega), if_neg (by omega)]
theorem vq_c {n o j : Nat} (h : vq n = some (o, j)) : vc o j = n ∧ o < 65 := by
  by_cases hn : n < 3580
  · have h1 := List.all_eq_true.mp vq_all n (List.mem_range.mpr hn)
    unfold vq_ok at h1
    rw [h] at h1
    simpa using h1
  · rw [vq_hi hn] at h; cases h
theorem vq_inj {n m o j : Nat} (h : vq n = some (o, j)) (h' : vq m = some (o, j)) : n = m := (vq_c h).1.symm.trans (vq_c h').1
/-- the view: the places that P names -/
def VA (P : Nat → Prop) (v : Nat) (t : Nat → Int32) (I : qI) : Prop := ∀ n o j, vq n = some (o, j) → P n → I (v + o) j = t n
theorem VA.up {P : Nat → Prop} {v : Nat} {t : Nat → Int32} {I : qI} (h : VA P v t I) {n o j : Nat} (hn : vq n = some (o, j)) (x : Int32) : VA P v (upd t n x) (q_up I (v + o) j x) := by
  intro m p i hm hP
  by_cases e : m = n
  · subst e
    cases hn.symm.trans hm
    rw [u_up_same]
    simp [upd]
  · have h0 := h m p i hm hP
    have e2 : upd t n x m = t m := by simp [upd, e]
    rw [e2, ← h0]
    by_cases ea : v + p = v + o
    · have : p = o := by omega
      subst this
      by_cases ej : i = j
      · subst ej
        exact absurd (vq_inj hm hn) e
      · exact u_up_j ej
    · exact u_up_a ea
theorem VA.keep {P : Nat → Prop} {v : Nat} {t : Nat → Int32} {I J : qI} (h : VA P v t I) (hk : ∀ n o j, vq n = some (o, j) → P n → J (v + o) j = I (v + o) j) : VA P v t J :=
  fun n o j hn hP => (hk n o j hn hP).trans (h n o j hn hP)
/-- a write to a cell outside of the Valley -/
theorem VA.out {P : Nat → Prop} {v : Nat} {t : Nat → Int32} {I : qI} (h : VA P v t I) {a j : Nat} {x : Int32} (ha : a < v ∨ v + 65 ≤ a) : VA P v t (q_up I a j x) :=
  h.keep fun n o i hn _ => u_up_a (by have := (vq_c hn).2; omega)
theorem vq_pit : ∀ p, p < 8 → ∀ w, w < 5 → vq (10 + 5 * p + w) = some (2 + w, p) := by decide +kernel
theorem vq_shop : ∀ k, k < 6 → ∀ w, w < 4 → vq (50 + 4 * k + w) = some (8 + w, k) := by decide +kernel
theorem vq_man : ∀ m, m < 12 → ∀ w, w < 12 → vq (80 + 24 * m + w) = some (13 + w, m) := by decide +kernel
theorem vq_known : ∀ m, m < 12 → ∀ k, k < 6 → vq (80 + 24 * m + 12 + k) = some (25, 6 * m + k) := by decide +kernel
theorem vq_heard : ∀ m, m < 12 → ∀ k, k < 6 → vq (80 + 24 * m + 18 + k) = some (26, 6 * m + k) := by decide +kernel
theorem vq_due : ∀ d, d < 60 → ∀ w, w < 8 → w ≠ 6 → vq (370 + 8 * d + w) = some (28 + w, d) := by decide +kernel
theorem vq_text : ∀ t, t < 12 → ∀ w, w < 3 → vq (850 + 200 * t + w) = some (37 + w, t) := by decide +kernel
theorem vq_way : ∀ w, w < 48 → vq (3250 + w) = some (43, w) := by decide +kernel
theorem vq_breach : ∀ b, b < 16 → ∀ w, w < 3 → vq (3300 + 3 * b + w) = some (45 + w, b) := by decide +kernel
theorem vq_choice : ∀ c, c < 8 → ∀ w, w < 3 → vq (3350 + 3 * c + w) = some (53 + w, c) := by decide +kernel
theorem vq_sc : vq 0 = some (0, 13) ∧ vq 1 = some (7, 4) ∧ vq 2 = some (12, 14) ∧ vq 3 = some (27, 8) ∧ vq 4 = some (36, 5) ∧ vq 5 = some (44, 8) ∧ vq 6 = some (52, 9) ∧ vq 7 = some (60, 0) ∧ vq 8 = some (60, 1) ∧ vq 9 = some (60, 2) := by decide +kernel
