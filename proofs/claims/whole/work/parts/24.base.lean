/-! LEVEL B, words: ints that are small naturals, reads and writes in bounds, ranges -/
theorem u_mul (a b : Nat) : nI a * nI b = nI (a * b) := (Int32.ofNat_mul a b).symm
theorem u_sub {a b : Nat} (h : b ≤ a) : nI a - nI b = nI (a - b) := by
  have e : nI (a - b) + nI b = nI a := by rw [nI_add, Nat.sub_add_cancel h]
  rw [← e]
  exact Int32.add_sub_cancel _ _
theorem u_rd {I : qI} {a n k : Nat} (h : k < n) (hn : n < 2 ^ 31) : q_rd I a n (nI k) = some (I a k) := by
  unfold q_rd
  rw [if_neg (nI_in h hn), nI_clamp (Nat.lt_trans h hn)]
theorem u_wr {I : qI} {a n k : Nat} {v : Int32} (h : k < n) (hn : n < 2 ^ 31) : q_wr I a n (nI k) v = some (q_up I a k v) := by
  unfold q_wr
  rw [if_neg (nI_in h hn), nI_clamp (Nat.lt_trans h hn)]
theorem u_rdO {f : Nat → Int32} {n k : Nat} (h : k < n) (hn : n < 2 ^ 31) : q_rdO f n (nI k) = some (f k) := by
  unfold q_rdO
  rw [if_neg (nI_in h hn), nI_clamp (Nat.lt_trans h hn)]
theorem u_up_same {I : qI} {a j : Nat} {v : Int32} : q_up I a j v a j = v := by simp [q_up, upd]
theorem u_up_j {I : qI} {a j i : Nat} {v : Int32} (h : i ≠ j) : q_up I a j v a i = I a i := by simp [q_up, upd, h]
theorem u_up_a {I : qI} {a b j i : Nat} {v : Int32} (h : b ≠ a) : q_up I a j v b i = I b i := by simp [q_up, h]
theorem u_b1 {α β : Type} {o : Option α} {a : α} {f : α → Option β} (h : o = some a) : q_b1 o f = f a := by rw [h]; rfl
theorem u_b2 {α β γ : Type} {o : Option (α × β)} {a : α} {b : β} {f : α → β → Option γ} (h : o = some (a, b)) : q_b2 o f = f a b := by rw [h]; rfl
theorem u_b3 {α β γ δ : Type} {o : Option (α × β × γ)} {a : α} {b : β} {c : γ} {f : α → β → γ → Option δ} (h : o = some (a, b, c)) : q_b3 o f = f a b c := by rw [h]; rfl
/-- a range, as both sides ask it -/
theorem u_within (x a b : Int32) : f_X11_within x a b = some (if a ≤ x ∧ x ≤ b then 1 else 0) := by
  unfold f_X11_within
  by_cases h1 : x < a
  · rw [if_pos h1, if_neg (fun h => absurd h.1 (Int32.not_le.mpr h1))]; rfl
  · rw [if_neg h1]
    by_cases h2 : b < x
    · rw [if_pos h2, if_neg (fun h => absurd h.2 (Int32.not_le.mpr h2))]; rfl
    · rw [if_neg h2, if_pos ⟨Int32.not_lt.mp h1, Int32.not_lt.mp h2⟩]; rfl
theorem u_isIn (x a b : Int64) : f_X12_isIn x a b = some (if a ≤ x ∧ x ≤ b then 1 else 0) := by
  have c1 : (lg_cmp x a < 0) ↔ x < a := by
    unfold lg_cmp
    by_cases h : a < x
    · rw [if_pos h]; exact ⟨fun h => absurd h (by decide), fun q => absurd (Int64.lt_trans h q) Int64.lt_irrefl⟩
    · rw [if_neg h]
      by_cases e : x = a
      · rw [if_pos e]; exact ⟨fun h => absurd h (by decide), fun q => absurd (e ▸ q) Int64.lt_irrefl⟩
      · rw [if_neg e]; exact ⟨fun _ => Int64.lt_of_le_of_ne (Int64.not_lt.mp h) e, fun _ => by decide⟩
  have c2 : (0 < lg_cmp x b) ↔ b < x := by
    unfold lg_cmp
    by_cases h : b < x
    · rw [if_pos h]; exact ⟨fun _ => h, fun _ => by decide⟩
    · rw [if_neg h]
      by_cases e : x = b
      · rw [if_pos e]; exact ⟨fun h => absurd h (by decide), fun q => absurd q h⟩
      · rw [if_neg e]; exact ⟨fun h => absurd h (by decide), fun q => absurd q h⟩
  unfold f_X12_isIn
  by_cases h1 : x < a
  · rw [if_pos (c1.mpr h1), if_neg (fun h => absurd h.1 (Int64.not_le.mpr h1))]; rfl
  · rw [if_neg (fun h => h1 (c1.mp h))]
    by_cases h2 : b < x
    · rw [if_pos (c2.mpr h2), if_neg (fun h => absurd h.2 (Int64.not_le.mpr h2))]; rfl
    · rw [if_neg (fun h => h2 (c2.mp h)), if_pos ⟨Int64.not_lt.mp h1, Int64.not_lt.mp h2⟩]; rfl
theorem u_le64 (x y : Int32) : (x.toInt64 ≤ y.toInt64) ↔ x ≤ y := by
  rw [Int64.le_iff_toInt_le, Int32.le_iff_toInt_le, Int32.toInt_toInt64, Int32.toInt_toInt64]
/-- the two ranges are one -/
theorem u_isIn32 (x a b : Int32) : f_X12_isIn x.toInt64 a.toInt64 b.toInt64 = some (if a ≤ x ∧ x ≤ b then 1 else 0) := by
  rw [u_isIn]
  simp only [u_le64]
theorem u_range {x : Int32} {a b : Nat} (hb : b < 2 ^ 31) (h1 : nI a ≤ x) (h2 : x ≤ nI b) (ha : a < 2 ^ 31) : ∃ k, x = nI k ∧ a ≤ k ∧ k ≤ b := by
  have h0 : ¬ x < 0 := by
    intro h
    have := Int32.lt_of_le_of_lt h1 h
    exact nI_pos ha this
  obtain ⟨j, hj, rfl⟩ := nI_of h0
  exact ⟨j, rfl, (nI_leI ha hj).mp h1, (nI_leI hj hb).mp h2⟩
