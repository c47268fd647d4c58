/-! LEVEL B: the view with its men; the heard places of men that are not there yet are left out -/
def vq_26b (n : Nat) : Bool := match vq n with
  | some (o, _) => o != 26 || decide (80 ≤ n ∧ n < 368 ∧ 18 ≤ (n - 80) % 24)
  | none => true
theorem vq_26a : (List.range 3580).all vq_26b = true := by decide +kernel
theorem vq_26 {n j : Nat} (h : vq n = some (26, j)) : 80 ≤ n ∧ n < 368 ∧ 18 ≤ (n - 80) % 24 := by
  by_cases hn : n < 3580
  · have h1 := List.all_eq_true.mp vq_26a n (List.mem_range.mpr hn)
    unfold vq_26b at h1
    rw [h] at h1
    simpa using h1
  · rw [vq_hi hn] at h; cases h
def Ph (c n : Nat) : Prop := 80 ≤ n → n < 368 → 18 ≤ (n - 80) % 24 → (n - 80) / 24 < c
/-- men: c of them; the places behind are as new -/
def VM (v : Nat) (t : Nat → Int32) (I : qI) (c : Nat) : Prop := (c ≤ 12 ∧ t 2 = nI c) ∧ VA (Ph c) v t I ∧ ∀ m, c ≤ m → m < 12 → (∀ w, w < 24 → t (80 + 24 * m + w) = 0) ∧ ∀ k, k < 6 → I (v + 26) (6 * m + k) = -1
theorem VM0_2 : q_z2.1 270 2 = nI 0 := by decide +kernel
theorem VM0g {I : qI} (h2 : I 270 2 = nI 0) (ha : ∀ n o j, vq n = some (o, j) → o ≠ 26 → I (65 + o) j = I 270 n) (hm : ∀ n, 80 ≤ n → n < 80 + 288 → I 270 n = 0) (hh : ∀ n, 0 ≤ n → n < 0 + 72 → I 91 n = -1) : VM 65 (I 270) I 0 := by
  refine ⟨⟨Nat.zero_le _, h2⟩, fun n o j hn hP => ?_, fun m _ h3 => ⟨fun w hw => hm _ (by omega) (by omega), fun k hk => hh _ (by omega) (by omega)⟩⟩
  by_cases ho : o = 26
  · subst ho
    obtain ⟨a, b, c⟩ := vq_26 hn
    exact absurd (hP a b c) (Nat.not_lt_zero _)
  · exact ha n o j hn ho
theorem u_allc {f : Nat → Int32} {c : Int32} {s l : Nat} (h : (List.range' s l).all (fun n => f n == c) = true) : ∀ n, s ≤ n → n < s + l → f n = c := by
  intro n h1 h2
  exact beq_iff_eq.mp (List.all_eq_true.mp h n (List.mem_range'_1.mpr ⟨h1, h2⟩))
theorem VM0 : VM 65 (q_z2.1 270) q_z2.1 0 := VM0g (I := q_z2.1) VM0_2 (fun n o j h ho => v0_all h ho) (u_allc (f := q_z2.1 270) v0_m) (u_allc (f := q_z2.1 91) v0_h)
/-- a paired write at a place that is no count of men and belongs to no man that is not there yet -/
theorem VM.up {v : Nat} {t : Nat → Int32} {I : qI} {c : Nat} (h : VM v t I c) {n o j : Nat} (hn : vq n = some (o, j)) (h2 : n ≠ 2) (hm : ∀ m, c ≤ m → m < 12 → n < 80 + 24 * m ∨ 80 + 24 * m + 24 ≤ n) (x : Int32) : VM v (upd t n x) (q_up I (v + o) j x) c := by
  obtain ⟨⟨a, b⟩, hA, hF⟩ := h
  refine ⟨⟨a, by rw [← b]; simp [upd, Ne.symm h2]⟩, hA.up hn x, fun m h1 h3 => ⟨fun w hw => ?_, fun k hk => ?_⟩⟩
  · rw [← (hF m h1 h3).1 w hw]
    have : 80 + 24 * m + w ≠ n := by have := hm m h1 h3; omega
    simp [upd, this]
  · rw [← (hF m h1 h3).2 k hk]
    by_cases e : v + 26 = v + o
    · have eo : o = 26 := by omega
      subst eo
      refine u_up_j ?_
      intro e2
      subst e2
      have q1 := vq_heard m h3 k hk
      have := vq_inj hn q1
      have := hm m h1 h3
      omega
    · exact u_up_a e
